/-! what is true of every text that can be read and checked, for the class -/
theorem nrmL_mem : ∀ (lo : List Lo) (st : List Nat) (x : Lo), x ∈ nrmL st lo → x ∈ lo ∨ x = (2, 0, .null)
  | [], _, _, h => Or.inl h
  | j :: r, st, x, h => by
    have go : ∀ st', x ∈ j :: nrmL st' r → x ∈ j :: r ∨ x = (2, 0, .null) := fun st' h => (List.mem_cons.mp h).elim (fun z => Or.inl (z ▸ List.mem_cons_self)) (fun z => (nrmL_mem r st' x z).imp (List.mem_cons_of_mem _) id)
    rw [nrmL] at h
    split at h
    · split at h
      · exact (List.mem_cons.mp h).elim Or.inr (go _)
      · exact go _ h
    · split at h
      · exact go _ h
      · split at h <;> exact go _ h
/-- all that is known of a text's circuit -/
def TXT (sg : List Sg) (lo : List Lo) (cv : List (Option Jvm.Term)) : Prop := (∀ x, x ∈ sg → SGI sg.length x) ∧ (∀ x, x ∈ lo → ixb sg.length x.2.2) ∧ (∀ e, some e ∈ cv → ixb sg.length e) ∧ wfB [] lo ∧ src0 lo ∧ (∀ g h, dpd sg lo g h → h < sg.length) ∧ IX sg lo cv
theorem t_txt {T : Tx} {its : List It} {sg : List Sg} {lo : List Lo} (hT : T.2 ≤ 200) (hp : pAll T = .ok its) (hc : ckA (fun _ => none) [] [] its = .ok (sg, lo)) : TXT sg lo (cvA (fun _ => none) [] its) := by
  obtain ⟨-, -, o3⟩ := t_oks hT its hp
  obtain ⟨q1, -, q3, q4, -⟩ := o3 sg lo hc
  have h' : pIts T (T.2 + 1) [] (sk T 0) = .ok its := hp
  obtain ⟨a1, a2, -⟩ := pIts_ok (T.2 + 1) [] _ its (sk_le T (Nat.zero_le _)) (fun b hb => (nomatch hb)) h'
  obtain ⟨-, r, hr, b2, b3, b4, -⟩ := ckA_good its (fun _ => none) [] [] sg lo (fun d t b h => (nomatch (show (none : Option (Jvm.Term × Nat)) = some (t, b) from h))) a1 (fun x hx => (nomatch hx)) hc
  rw [List.nil_append] at hr
  subst hr
  exact ⟨b2, fun x hx => (b3 x hx).1, b4, q3.1, q4, q3.2.2.1, q1⟩
theorem TXT_HI {sg : List Sg} {lo : List Lo} {cv : List (Option Jvm.Term)} (h : TXT sg lo cv) : HI sg lo := HI_of h.2.2.2.2.1 h.1
theorem TXT_SK {sg : List Sg} {lo : List Lo} {cv : List (Option Jvm.Term)} (h : TXT sg lo cv) : SK sg := fun i x hx => by
  obtain ⟨c1, c2, c3, -, -⟩ := h.1 x (List.mem_of_getElem? hx)
  exact ⟨c2, c1.2, c3⟩
theorem TXT_CKS {T : Tx} {its : List It} {sg : List Sg} {lo : List Lo} {lo' : List Lo} {xs : List (Nat × Nat × List Lo)} (hp : pAll T = .ok its) (hc : ckA (fun _ => none) [] [] its = .ok (sg, lo)) (h : TXT sg lo (cvA (fun _ => none) [] its)) (hlo : lo' = nrmL [] lo) (hxs : xs = cst (fun _ => none) [] (nrm [] its)) (hfl : lo' = xs.flatMap (fun x => x.2.2)) : CKS sg lo' (cvA (fun _ => none) [] (nrm [] its)) xs := by
  refine ⟨TXT_SK h, hfl, fun x hx => ?_, fun i x hx => (h.1 x (List.mem_of_getElem? hx)).2.2.2.1, fun i x hx hn => ?_, fun e he => ?_⟩
  · rw [hlo] at hx
    rcases nrmL_mem lo [] x hx with z | z
    · exact h.2.1 x z
    · rw [z]; trivial
  · have h4 : x.1 = 4 := (h.1 x (List.mem_of_getElem? hx)).2.1.mpr hn
    have hk : ckA (fun _ => none) [] [] (nrm [] its) = .ok (sg, nrmL [] lo) := by rw [ckA_nrm, hc]
    rw [hxs]
    exact (cst_node _ _ _ _ _ _ (nrm_k4 hp) hk i x hx h4).resolve_left (fun z => by simp at z)
  · rw [cvA_nrm] at he
    exact h.2.2.1 e he
theorem TXT_SPC {sg : List Sg} {lo : List Lo} {cv : List (Option Jvm.Term)} {W : Nat → Nat} (h : TXT sg lo cv) (hG : GW sg lo cv W) (hu : ∀ j, j < sg.length → ¬ unset sg lo j) : SPC sg lo W := by
  refine ⟨fun g x hx hs => ?_, h.2.2.2.2.2.1, fun g x hx h4 => ?_⟩
  · cases hi : ini (form sg lo g) with
    | true => rfl
    | false => exact absurd ((unset_iff (TXT_HI h) hx).mpr ⟨hs, hi⟩) (hu g (List.getElem?_eq_some_iff.mp hx).1)
  · obtain ⟨c1, c2, c3, c4, c5⟩ := h.1 x (List.mem_of_getElem? hx)
    exact ⟨c5, c2.mp h4, GW_node h.2.2.2.2.2.2 hG hx (c2.mp h4) (c3 h4)⟩
/-! the same circuit with its widths -/
theorem form_sgW {sg : List Sg} {lo : List Lo} {W : Nat → Nat} (g : Nat) : form (sgW sg W) lo g = form sg lo g := by
  unfold form sgW
  rw [List.getElem?_mapIdx]
  cases sg[g]? with
  | none => rfl
  | some x => rfl
theorem sgW_some {sg : List Sg} {W : Nat → Nat} {i : Nat} {y : Sg} (h : sg[i]? = some y) : (sgW sg W)[i]? = some (y.1, y.2.1, y.2.2.1, W i, y.2.2.2.2) := by
  unfold sgW
  rw [List.getElem?_mapIdx, h]
  rfl
theorem SPC_W {sg : List Sg} {lo : List Lo} {W : Nat → Nat} (h : SPC sg lo W) : SPC (sgW sg W) lo W := by
  obtain ⟨h1, h2, h3⟩ := h
  refine ⟨fun g x hx hs => ?_, fun g q hd => ?_, fun g x hx h4 => ?_⟩
  · obtain ⟨y, hy, rfl⟩ := sgW_get hx
    rw [form_sgW]
    exact h1 g y hy hs
  · rw [sgW_len]
    exact h2 g q (sgW_dpd.mp hd)
  · obtain ⟨y, hy, rfl⟩ := sgW_get hx
    exact h3 g y hy h4
theorem CD_len {s : Mem} {o N L L' : Nat} {t : Jvm.Term} {v K : Nat} (h : L = L') (c : CD s o N L t v K) : CD s o N L' t v K := h ▸ c
theorem CIR_W {s : Mem} {o N K : Nat} {sg : List Sg} {lo : List Lo} {W : Nat → Nat} (h : CIR s o N K sg lo W) : CIR s o N K (sgW sg W) lo W := by
  obtain ⟨⟨a1, a2, a3⟩, h2, h3, h4, h5, h6, h7, h8⟩ := h
  have hl : (sgW sg W).length = sg.length := sgW_len
  refine ⟨⟨by rw [hl, a1], by omega, fun i x hx => ?_⟩, fun g hg => h2 g (by omega), h3, h4, h5, h6, fun g x hx hs => ?_, fun g x hx => ?_⟩
  · obtain ⟨y, hy, rfl⟩ := sgW_get hx
    exact a3 i y hy
  · obtain ⟨y, hy, rfl⟩ := sgW_get hx
    obtain ⟨v, v1, v2⟩ := h7 g y hy hs
    rw [form_sgW]
    exact ⟨v, v1, CD_len hl.symm v2⟩
  · obtain ⟨y, hy, rfl⟩ := sgW_get hx
    rw [form_sgW]
    exact h8 g y hy
/-- from the lowering to what runs -/
theorem CIR_of {s : Mem} {o N K : Nat} {sg : List Sg} {lo : List Lo} {W : Nat → Nat} (hw : wfB [] lo) (hS : SGA s o sg) (hW : SWc s o sg.length W) (hA : WAc s o W N) (hN : N ≤ 225) (hK : s (58 + o) 6 = K) (hK2 : K ≤ 840) (hF : ∀ (g : Nat) (x : Sg), sg[g]? = some x → FD s o N sg.length K sg (nrmL [] lo) g x) : CIR s o N K sg lo W := by
  refine ⟨hS, hW, hA, hN, hK, hK2, fun g x hx hs => ?_, FD_ND hw hF⟩
  obtain ⟨n, n1, n2, -⟩ := ((hF g x hx).1 hs).1
  rw [form_nrm hw] at n2
  exact ⟨n, n1, n2⟩
