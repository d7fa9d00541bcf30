/-! the constructors: a small machine of their own, with cells in the order in which they are made (printed by ctor.py) -/
def klo : List (Nat × Nat) := [(0, 1), (3, 200), (0, 3), (0, 8), (1, 24), (1, 24), (1, 24), (2, 24), (2, 24), (2, 24), (0, 6), (1, 225), (1, 225), (1, 225), (1, 225), (1, 225), (1, 225), (1, 225), (1, 840), (1, 840), (1, 840), (1, 24), (1, 24), (1, 24), (1, 24), (1, 24), (1, 24), (1, 24), (0, 3), (0, 8), (1, 24), (1, 24), (1, 24), (2, 24), (2, 24), (2, 24), (0, 6), (1, 225), (1, 225), (1, 225), (1, 225), (1, 225), (1, 225), (1, 225), (1, 840), (1, 840), (1, 840), (1, 24), (1, 24), (1, 24), (1, 24), (1, 24), (1, 24), (1, 24), (0, 11), (1, 201), (1, 201), (1, 201), (0, 12), (1, 201), (1, 201), (1, 201), (1, 201), (1, 200), (2, 200), (1, 200), (1, 200), (1, 200), (0, 10), (1, 200), (1, 200), (1, 200), (1, 200), (1, 200), (0, 4), (0, 7), (2, 3), (0, 2), (1, 26), (1, 26), (0, 9), (0, 5), (1, 1065), (1, 24), (4, 3), (1, 24), (1, 24), (1, 24), (4, 3), (1, 24), (1, 24), (1, 24), (1, 3), (1, 3), (1, 24), (0, 0), (1, 200), (1, 220), (1, 220), (1, 220), (1, 220), (1, 120), (1, 120), (1, 120), (1, 120), (1, 4), (1, 4), (1, 440), (1, 440), (1, 440), (1, 440), (1, 440), (1, 440), (1, 440), (1, 440), (1, 1320), (1, 220), (1, 220), (1, 8), (1, 8), (1, 120), (1, 120), (1, 120), (1, 120), (1, 120), (1, 120), (1, 4), (1, 26), (1, 26), (1, 26), (1, 48), (1, 48), (1, 48), (1, 48), (1, 48), (1, 48), (1, 2200), (1, 2200), (1, 2200), (1, 24), (1, 24), (1, 24), (1, 24), (1, 24), (2, 24), (2, 5), (2, 5), (2, 5), (1, 5), (1, 5), (1, 5)]
/-- the number in which a cell was made -/
def ord (k : Nat) : Nat := ([95, 96, 97, 98, 99, 100, 101, 102, 103, 104, 105, 106, 107, 108, 109, 110, 111, 112, 113, 114, 115, 116, 117, 118, 119, 120, 121, 122, 123, 124, 125, 126, 127, 128, 129, 130, 131, 132, 133, 134, 135, 136, 137, 138, 139, 140, 141, 142, 143, 144, 145, 146, 147, 148, 149, 150, 0, 1, 2, 3, 4, 5, 6, 7, 8, 9, 10, 11, 12, 13, 14, 15, 16, 17, 18, 19, 20, 21, 22, 23, 24, 25, 26, 27, 28, 29, 30, 31, 32, 33, 34, 35, 36, 37, 38, 39, 40, 41, 42, 43, 44, 45, 46, 47, 48, 49, 50, 51, 52, 53, 54, 55, 56, 57, 58, 59, 60, 61, 62, 63, 64, 65, 66, 67, 68, 69, 70, 71, 72, 73, 74, 75, 76, 77, 78, 79, 80, 81, 82, 83, 84, 85, 86, 87, 88, 89, 90, 91, 92, 93, 94] : List Nat).getD k 0
def ivo (j : Nat) : Nat := ([56, 57, 58, 59, 60, 61, 62, 63, 64, 65, 66, 67, 68, 69, 70, 71, 72, 73, 74, 75, 76, 77, 78, 79, 80, 81, 82, 83, 84, 85, 86, 87, 88, 89, 90, 91, 92, 93, 94, 95, 96, 97, 98, 99, 100, 101, 102, 103, 104, 105, 106, 107, 108, 109, 110, 111, 112, 113, 114, 115, 116, 117, 118, 119, 120, 121, 122, 123, 124, 125, 126, 127, 128, 129, 130, 131, 132, 133, 134, 135, 136, 137, 138, 139, 140, 141, 142, 143, 144, 145, 146, 147, 148, 149, 150, 0, 1, 2, 3, 4, 5, 6, 7, 8, 9, 10, 11, 12, 13, 14, 15, 16, 17, 18, 19, 20, 21, 22, 23, 24, 25, 26, 27, 28, 29, 30, 31, 32, 33, 34, 35, 36, 37, 38, 39, 40, 41, 42, 43, 44, 45, 46, 47, 48, 49, 50, 51, 52, 53, 54, 55] : List Nat).getD j 0
def cft : List (List (Nat × Nat)) := [[(7, 0), (13, 3), (17, 6), (20, 7), (23, 8), (26, 9), (29, 10), (32, 11), (35, 12), (38, 13), (41, 14), (44, 15), (47, 19), (50, 20), (53, 21), (56, 22), (59, 23), (62, 24), (65, 25), (68, 26), (71, 27), (74, 28), (77, 29), (80, 30), (83, 31), (86, 33), (89, 34), (92, 35), (95, 36), (98, 37), (101, 38), (104, 39), (107, 41), (110, 42), (113, 43), (116, 44), (119, 45), (122, 46), (125, 47), (128, 48), (131, 49), (134, 54), (137, 55), (140, 56), (143, 59), (146, 60), (149, 61), (152, 62), (155, 63), (158, 64), (162, 65), (165, 66), (168, 67), (171, 68), (174, 69), (177, 70)], [(9, 0), (13, 1), (17, 2), (20, 3), (27, 4), (31, 5), (37, 6), (57, 7), (66, 8), (75, 9), (82, 10)], [(9, 3), (15, 4), (18, 0), (22, 1), (26, 2)], [(12, 0), (21, 1), (25, 3), (29, 4), (32, 5), (35, 7), (38, 8), (41, 9), (44, 11), (47, 12), (50, 13), (53, 14)], [(9, 0), (15, 1)], [(9, 2), (15, 3), (20, 4), (23, 5), (26, 6), (29, 7), (32, 8), (35, 0), (39, 1)], [(9, 0), (15, 1), (18, 2), (21, 3), (24, 4), (27, 5), (30, 6)], [(9, 7), (15, 0), (19, 1), (23, 2)], [(9, 0), (15, 1), (18, 2), (21, 3), (25, 4), (28, 5)], [(9, 0), (15, 1)], [(9, 0), (15, 1), (18, 2), (21, 3), (24, 5)], [(9, 0), (15, 1), (18, 2)], [(9, 0), (15, 1), (18, 2), (21, 3), (24, 5), (27, 6), (31, 7), (34, 8), (37, 9)]]
def cxt : List (List (Nat × Nat)) := [[], [(24, 3), (34, 11), (41, 12), (44, 10), (47, 4), (52, 7), (61, 2), (70, 9), (79, 5)], [], [(9, 8), (18, 6)], [], [], [], [], [], [], [], [], []]
def cmt : List (List (Nat × Nat)) := [[(1, 0)], [(3, 0), (26, 4), (36, 12), (43, 13), (46, 11), (49, 5), (54, 8), (63, 3), (72, 10), (81, 6)], [(3, 0)], [(3, 0), (11, 9), (20, 7)], [(3, 0)], [(3, 0)], [(3, 0)], [(3, 0)], [(3, 0)], [(3, 0)], [(3, 0)], [(3, 0)], [(3, 0)]]
def cB (y : Nat) : ByteArray := ([prog_14_method_1_code, prog_1_method_1_code, prog_2_method_1_code, prog_3_method_1_code, prog_4_method_1_code, prog_5_method_1_code, prog_6_method_1_code, prog_7_method_1_code, prog_8_method_1_code, prog_9_method_1_code, prog_10_method_1_code, prog_11_method_1_code, prog_12_method_1_code] : List ByteArray).getD y ByteArray.empty
def cL (y : Nat) : Nat := ([1, 4, 4, 1, 3, 3, 1, 4, 1, 3, 1, 1, 1] : List Nat).getD y 0
def cNa (y : Nat) : Nat := ([1, 1, 4, 1, 3, 3, 1, 4, 1, 3, 1, 1, 1] : List Nat).getD y 0
def cN (y : Nat) : MethodName := ⟨clsN y, "<init>", (["()V", "()V", "(LLowForge$Types;LLowForge$Steps;LLowForge$Links;)V", "()V", "(LLowForge$Types;LLowForge$Steps;)V", "(LLowForge$Steps;LLowForge$Links;)V", "()V", "(LLowForge$Tokens;LLowForge$Types;LLowForge$Steps;)V", "()V", "(LLowForge$Steps;LLowForge$Links;)V", "()V", "()V", "()V"] : List String).getD y ""⟩
/-- how many cells and places a constructor makes -/
def cM (y : Nat) : Nat := ([55, 94, 2, 25, 0, 13, 7, 1, 6, 0, 5, 3, 9] : List Nat).getD y 0
def sM (y : Nat) : Nat := ([14728, 13859, 52, 4422, 0, 1269, 1575, 3, 144, 0, 1000, 603, 1804] : List Nat).getD y 0
abbrev CFl := List (List AV)
def kl (j : Nat) : Nat × Nat := klo.getD j (9, 0)
def tcod (t : ArrayType) : Nat := match t with
  | .int => 1
  | .boolean => 2
  | .char => 3
  | _ => 9
/-- the fields of a new object -/
def cdf (c : Nat) : List AV := (List.range (nfZ c)).map fun k => if 2 ≤ fkd c k then aJ else aI 0
abbrev CSt := Nat × List AV × List AV × CFl × Nat × Nat
abbrev CRs := CSt ⊕ (CFl × Nat × Nat)
def isR (v : AV) : Bool := v.1 == 1
/-- one instruction of the constructor of class y -/
def cstep (C : Nat → List AV → CFl → Option CFl) (y : Nat) (i : Instr) (len pc : Nat) (lv st : List AV) (F : CFl) (nc ns : Nat) : Option CRs :=
  match i with
  | .aload_n i => match lv[(i : Nat)]? with
    | some (1, z) => if len = 1 then some (.inl ⟨pc + 1, lv, (1, z) :: st, F, nc, ns⟩) else none
    | _ => none
  | .astore_n i => match st with
    | (1, z) :: su => if len = 1 ∧ (i : Nat) < lv.length then some (.inl ⟨pc + 1, lv.set i (1, z), su, F, nc, ns⟩) else none
    | _ => none
  | .iconst n => if len = 1 then some (.inl ⟨pc + 1, lv, aI n :: st, F, nc, ns⟩) else none
  | .bipush n => if len = 2 then some (.inl ⟨pc + 2, lv, aI (Int8.ofInt n).toInt :: st, F, nc, ns⟩) else none
  | .sipush n => if len = 3 then some (.inl ⟨pc + 3, lv, aI (Int16.ofInt n).toInt :: st, F, nc, ns⟩) else none
  | .dup => match st with
    | (1, z) :: su => if len = 1 then some (.inl ⟨pc + 1, lv, (1, z) :: (1, z) :: su, F, nc, ns⟩) else none
    | _ => none
  | .newarray t => match st with
    | (0, n) :: su => if len = 2 ∧ 0 ≤ n ∧ n ≤ 100000 ∧ tcod t < 4 ∧ kl F.length = (tcod t, n.toNat) ∧ nc + 1 ≤ cM y ∧ ns + n.toNat ≤ sM y then some (.inl ⟨pc + 2, lv, aR F.length :: su, F ++ [[]], nc + 1, ns + n.toNat⟩) else none
    | _ => none
  | .multianewarray idx dims => match st with
    | (0, n) :: (0, k) :: su => if len = 4 ∧ y = 5 ∧ idx = 18 ∧ dims = 2 ∧ n = 24 ∧ k = 3 ∧ kl F.length = (4, 3) ∧ (kl (F.length + 1) = (1, 24) ∧ kl (F.length + 2) = (1, 24) ∧ kl (F.length + 3) = (1, 24)) ∧ (ord (rcn (ivo F.length) 0) = F.length + 1 ∧ ord (rcn (ivo F.length) 1) = F.length + 2 ∧ ord (rcn (ivo F.length) 2) = F.length + 3) ∧ nc + 4 ≤ cM y ∧ ns + 75 ≤ sM y then some (.inl ⟨pc + 4, lv, aR F.length :: su, F ++ [[], [], [], []], nc + 4, ns + 75⟩) else none
    | _ => none
  | .new idx => match (cxt.getD y []).lookup idx with
    | some c => if len = 3 ∧ kl F.length = (0, c) ∧ nc + 1 ≤ cM y ∧ ns + nfZ c ≤ sM y then some (.inl ⟨pc + 3, lv, aR F.length :: st, F ++ [cdf c], nc + 1, ns + nfZ c⟩) else none
    | none => none
  | .putfield idx => match (cft.getD y []).lookup idx with
    | some k => match st with
      | v :: (1, r) :: su => if len = 3 ∧ kl r.toNat = (0, y) ∧ r.toNat < F.length ∧ k < (F.getD r.toNat []).length ∧ (fkd y k = 0 ∧ v.1 = 0 ∨ fkd y k = 1 ∧ v = aI 0 ∨ 2 ≤ fkd y k ∧ v.1 = 1) then some (.inl ⟨pc + 3, lv, su, F.set r.toNat ((F.getD r.toNat []).set k v), nc, ns⟩) else none
      | _ => none
    | none => none
  | .getfield idx => match (cft.getD y []).lookup idx with
    | some k => match st with
      | (1, r) :: su => match (F.getD r.toNat [])[k]? with
        | some v => if len = 3 ∧ kl r.toNat = (0, y) ∧ r.toNat < F.length then some (.inl ⟨pc + 3, lv, v :: su, F, nc, ns⟩) else none
        | none => none
      | _ => none
    | none => none
  | .invokespecial idx => match (cmt.getD y []).lookup idx with
    | some 0 => match st with
      | (1, _) :: su => if len = 3 ∧ su.length ≤ 4 then some (.inl ⟨pc + 3, lv, su, F, nc, ns⟩) else none
      | _ => none
    | some (j + 1) => if len = 3 ∧ cNa j ≤ st.length ∧ (st.take (cNa j)).all isR = true ∧ (st.drop (cNa j)).length ≤ 4 ∧ nc + cM j ≤ cM y ∧ ns + sM j ≤ sM y then match C j (st.take (cNa j)).reverse F with
        | some F' => if F'.length = F.length + cM j then some (.inl ⟨pc + 3, lv, st.drop (cNa j), F', nc + cM j, ns + sM j⟩) else none
        | none => none
      else none
    | none => none
  | .return_ => match st with
    | [] => if len = 1 then some (.inr ⟨F, nc, ns⟩) else none
    | _ => none
  | _ => none
def crun (C : Nat → List AV → CFl → Option CFl) (y : Nat) : Nat → CSt → Option CFl
  | 0, _ => none
  | n + 1, q => match decode (cB y) q.1 with
    | .ok (i, len) => match cstep C y i len q.1 q.2.1 q.2.2.1 q.2.2.2.1 q.2.2.2.2.1 q.2.2.2.2.2 with
      | some (.inl q') => crun C y n q'
      | some (.inr (F, nc, ns)) => if nc ≤ cM y ∧ ns ≤ sM y then some F else none
      | none => none
    | .error _ => none
/-- a call of the constructor of class y -/
def ccall : Nat → Nat → List AV → CFl → Option CFl
  | 0, _, _, _ => none
  | d + 1, y, as, F => if y < 13 ∧ as.length = cNa y ∧ as.all isR = true then crun (ccall d) y 300 ⟨0, as ++ List.replicate (cL y - as.length) aU, [], F, 0, 0⟩ else none
def CFm (y : Nat) : Prop := (Cond.code (cN y) (cB y) (cL y) none ∈ TBW ∧ Cond.instanceMethod (cN y) ∈ TBW ∧ Cond.initialized (clsN y) ∈ TBW) ∧ plainName (clsN y) = true ∧ (clsN y ≠ "java/lang/invoke/MethodHandle" ∧ clsN y ≠ "java/lang/invoke/VarHandle" ∧ (parseMethodDescriptor (cN y).desc).map (fun d => d.parameters.length) = some (cNa y - 1)) ∧ 1 ≤ cNa y ∧ cNa y ≤ cL y ∧ cL y ≤ 10
set_option maxRecDepth 20000 in
theorem cfm0 : CFm 0 := ⟨⟨tb5 165 rfl rfl, tb5 164 rfl rfl, tb1 13 rfl rfl⟩, by decide +kernel, by decide +kernel, by decide +kernel⟩
set_option maxRecDepth 20000 in
theorem cfm1 : CFm 1 := ⟨⟨tb1 30 rfl rfl, tb1 29 rfl rfl, tb1 1 rfl rfl⟩, by decide +kernel, by decide +kernel, by decide +kernel⟩
set_option maxRecDepth 20000 in
theorem cfm2 : CFm 2 := ⟨⟨tb2 128 rfl rfl, tb2 127 rfl rfl, tb1 10 rfl rfl⟩, by decide +kernel, by decide +kernel, by decide +kernel⟩
set_option maxRecDepth 20000 in
theorem cfm3 : CFm 3 := ⟨⟨tb1 38 rfl rfl, tb1 37 rfl rfl, tb1 2 rfl rfl⟩, by decide +kernel, by decide +kernel, by decide +kernel⟩
set_option maxRecDepth 20000 in
theorem cfm4 : CFm 4 := ⟨⟨tb2 84 rfl rfl, tb2 83 rfl rfl, tb1 8 rfl rfl⟩, by decide +kernel, by decide +kernel, by decide +kernel⟩
set_option maxRecDepth 20000 in
theorem cfm5 : CFm 5 := ⟨⟨tb2 169 rfl rfl, tb2 168 rfl rfl, tb1 12 rfl rfl⟩, by decide +kernel, by decide +kernel, by decide +kernel⟩
set_option maxRecDepth 20000 in
theorem cfm6 : CFm 6 := ⟨⟨tb1 92 rfl rfl, tb1 91 rfl rfl, tb1 4 rfl rfl⟩, by decide +kernel, by decide +kernel, by decide +kernel⟩
set_option maxRecDepth 20000 in
theorem cfm7 : CFm 7 := ⟨⟨tb2 97 rfl rfl, tb2 96 rfl rfl, tb1 9 rfl rfl⟩, by decide +kernel, by decide +kernel, by decide +kernel⟩
set_option maxRecDepth 20000 in
theorem cfm8 : CFm 8 := ⟨⟨tb1 44 rfl rfl, tb1 43 rfl rfl, tb1 3 rfl rfl⟩, by decide +kernel, by decide +kernel, by decide +kernel⟩
set_option maxRecDepth 20000 in
theorem cfm9 : CFm 9 := ⟨⟨tb2 156 rfl rfl, tb2 155 rfl rfl, tb1 11 rfl rfl⟩, by decide +kernel, by decide +kernel, by decide +kernel⟩
set_option maxRecDepth 20000 in
theorem cfm10 : CFm 10 := ⟨⟨tb2 39 rfl rfl, tb2 38 rfl rfl, tb1 7 rfl rfl⟩, by decide +kernel, by decide +kernel, by decide +kernel⟩
set_option maxRecDepth 20000 in
theorem cfm11 : CFm 11 := ⟨⟨tb1 205 rfl rfl, tb1 204 rfl rfl, tb1 5 rfl rfl⟩, by decide +kernel, by decide +kernel, by decide +kernel⟩
set_option maxRecDepth 20000 in
theorem cfm12 : CFm 12 := ⟨⟨tb1 227 rfl rfl, tb1 226 rfl rfl, tb1 6 rfl rfl⟩, by decide +kernel, by decide +kernel, by decide +kernel⟩
theorem cfmAll : ∀ y, y < 13 → CFm y := lt_s (lt_s (lt_s (lt_s (lt_s (lt_s (lt_s (lt_s (lt_s (lt_s (lt_s (lt_s (lt_s lt_0 cfm0) cfm1) cfm2) cfm3) cfm4) cfm5) cfm6) cfm7) cfm8) cfm9) cfm10) cfm11) cfm12
def nstC : List Cond := [Cond.methodLinkNest (clsN 1) 26 (cN 3) "LowForge", Cond.methodLinkNest (clsN 1) 36 (cN 11) "LowForge", Cond.methodLinkNest (clsN 1) 43 (cN 12) "LowForge", Cond.methodLinkNest (clsN 1) 46 (cN 10) "LowForge", Cond.methodLinkNest (clsN 3) 11 (cN 8) "LowForge", Cond.methodLinkNest (clsN 3) 20 (cN 6) "LowForge"]
def CLm (y idx j : Nat) : Prop := (j = 0 ∧ Cond.methodLink (clsN y) idx Lib.objectInit ∈ TBW) ∨ ∃ k, j = k + 1 ∧ k < 13 ∧ (Cond.methodLink (clsN y) idx (cN k) ∈ TBW ∨ Cond.methodLinkNest (clsN y) idx (cN k) "LowForge" ∈ nstC)
set_option maxRecDepth 20000 in
theorem clm0_1 : CLm 0 1 0 := Or.inl ⟨rfl, tb5 166 rfl rfl⟩
set_option maxRecDepth 20000 in
theorem clmC0 : ∀ q ∈ cmt.getD 0 [], CLm 0 q.1 q.2 := by
  show ∀ q ∈ ([(1, 0)] : List (Nat × Nat)), CLm 0 q.1 q.2
  exact List.forall_mem_cons.mpr ⟨clm0_1, fun _ h => absurd h List.not_mem_nil⟩
set_option maxRecDepth 20000 in
theorem clm1_3 : CLm 1 3 0 := Or.inl ⟨rfl, tb1 31 rfl rfl⟩
set_option maxRecDepth 20000 in
theorem clm1_26 : CLm 1 26 4 := Or.inr ⟨3, rfl, by decide, Or.inr (by simp [nstC])⟩
set_option maxRecDepth 20000 in
theorem clm1_36 : CLm 1 36 12 := Or.inr ⟨11, rfl, by decide, Or.inr (by simp [nstC])⟩
set_option maxRecDepth 20000 in
theorem clm1_43 : CLm 1 43 13 := Or.inr ⟨12, rfl, by decide, Or.inr (by simp [nstC])⟩
set_option maxRecDepth 20000 in
theorem clm1_46 : CLm 1 46 11 := Or.inr ⟨10, rfl, by decide, Or.inr (by simp [nstC])⟩
set_option maxRecDepth 20000 in
theorem clm1_49 : CLm 1 49 5 := Or.inr ⟨4, rfl, by decide, Or.inl (tb2 82 rfl rfl)⟩
set_option maxRecDepth 20000 in
theorem clm1_54 : CLm 1 54 8 := Or.inr ⟨7, rfl, by decide, Or.inl (tb2 95 rfl rfl)⟩
set_option maxRecDepth 20000 in
theorem clm1_63 : CLm 1 63 3 := Or.inr ⟨2, rfl, by decide, Or.inl (tb2 126 rfl rfl)⟩
set_option maxRecDepth 20000 in
theorem clm1_72 : CLm 1 72 10 := Or.inr ⟨9, rfl, by decide, Or.inl (tb2 154 rfl rfl)⟩
set_option maxRecDepth 20000 in
theorem clm1_81 : CLm 1 81 6 := Or.inr ⟨5, rfl, by decide, Or.inl (tb2 167 rfl rfl)⟩
set_option maxRecDepth 20000 in
theorem clmC1 : ∀ q ∈ cmt.getD 1 [], CLm 1 q.1 q.2 := by
  show ∀ q ∈ ([(3, 0), (26, 4), (36, 12), (43, 13), (46, 11), (49, 5), (54, 8), (63, 3), (72, 10), (81, 6)] : List (Nat × Nat)), CLm 1 q.1 q.2
  exact List.forall_mem_cons.mpr ⟨clm1_3, List.forall_mem_cons.mpr ⟨clm1_26, List.forall_mem_cons.mpr ⟨clm1_36, List.forall_mem_cons.mpr ⟨clm1_43, List.forall_mem_cons.mpr ⟨clm1_46, List.forall_mem_cons.mpr ⟨clm1_49, List.forall_mem_cons.mpr ⟨clm1_54, List.forall_mem_cons.mpr ⟨clm1_63, List.forall_mem_cons.mpr ⟨clm1_72, List.forall_mem_cons.mpr ⟨clm1_81, fun _ h => absurd h List.not_mem_nil⟩⟩⟩⟩⟩⟩⟩⟩⟩⟩
set_option maxRecDepth 20000 in
theorem clm2_3 : CLm 2 3 0 := Or.inl ⟨rfl, tb2 129 rfl rfl⟩
set_option maxRecDepth 20000 in
theorem clmC2 : ∀ q ∈ cmt.getD 2 [], CLm 2 q.1 q.2 := by
  show ∀ q ∈ ([(3, 0)] : List (Nat × Nat)), CLm 2 q.1 q.2
  exact List.forall_mem_cons.mpr ⟨clm2_3, fun _ h => absurd h List.not_mem_nil⟩
set_option maxRecDepth 20000 in
theorem clm3_3 : CLm 3 3 0 := Or.inl ⟨rfl, tb1 39 rfl rfl⟩
set_option maxRecDepth 20000 in
theorem clm3_11 : CLm 3 11 9 := Or.inr ⟨8, rfl, by decide, Or.inr (by simp [nstC])⟩
set_option maxRecDepth 20000 in
theorem clm3_20 : CLm 3 20 7 := Or.inr ⟨6, rfl, by decide, Or.inr (by simp [nstC])⟩
set_option maxRecDepth 20000 in
theorem clmC3 : ∀ q ∈ cmt.getD 3 [], CLm 3 q.1 q.2 := by
  show ∀ q ∈ ([(3, 0), (11, 9), (20, 7)] : List (Nat × Nat)), CLm 3 q.1 q.2
  exact List.forall_mem_cons.mpr ⟨clm3_3, List.forall_mem_cons.mpr ⟨clm3_11, List.forall_mem_cons.mpr ⟨clm3_20, fun _ h => absurd h List.not_mem_nil⟩⟩⟩
set_option maxRecDepth 20000 in
theorem clm4_3 : CLm 4 3 0 := Or.inl ⟨rfl, tb2 85 rfl rfl⟩
set_option maxRecDepth 20000 in
theorem clmC4 : ∀ q ∈ cmt.getD 4 [], CLm 4 q.1 q.2 := by
  show ∀ q ∈ ([(3, 0)] : List (Nat × Nat)), CLm 4 q.1 q.2
  exact List.forall_mem_cons.mpr ⟨clm4_3, fun _ h => absurd h List.not_mem_nil⟩
set_option maxRecDepth 20000 in
theorem clm5_3 : CLm 5 3 0 := Or.inl ⟨rfl, tb2 170 rfl rfl⟩
set_option maxRecDepth 20000 in
theorem clmC5 : ∀ q ∈ cmt.getD 5 [], CLm 5 q.1 q.2 := by
  show ∀ q ∈ ([(3, 0)] : List (Nat × Nat)), CLm 5 q.1 q.2
  exact List.forall_mem_cons.mpr ⟨clm5_3, fun _ h => absurd h List.not_mem_nil⟩
set_option maxRecDepth 20000 in
theorem clm6_3 : CLm 6 3 0 := Or.inl ⟨rfl, tb1 93 rfl rfl⟩
set_option maxRecDepth 20000 in
theorem clmC6 : ∀ q ∈ cmt.getD 6 [], CLm 6 q.1 q.2 := by
  show ∀ q ∈ ([(3, 0)] : List (Nat × Nat)), CLm 6 q.1 q.2
  exact List.forall_mem_cons.mpr ⟨clm6_3, fun _ h => absurd h List.not_mem_nil⟩
set_option maxRecDepth 20000 in
theorem clm7_3 : CLm 7 3 0 := Or.inl ⟨rfl, tb2 98 rfl rfl⟩
set_option maxRecDepth 20000 in
theorem clmC7 : ∀ q ∈ cmt.getD 7 [], CLm 7 q.1 q.2 := by
  show ∀ q ∈ ([(3, 0)] : List (Nat × Nat)), CLm 7 q.1 q.2
  exact List.forall_mem_cons.mpr ⟨clm7_3, fun _ h => absurd h List.not_mem_nil⟩
set_option maxRecDepth 20000 in
theorem clm8_3 : CLm 8 3 0 := Or.inl ⟨rfl, tb1 45 rfl rfl⟩
set_option maxRecDepth 20000 in
theorem clmC8 : ∀ q ∈ cmt.getD 8 [], CLm 8 q.1 q.2 := by
  show ∀ q ∈ ([(3, 0)] : List (Nat × Nat)), CLm 8 q.1 q.2
  exact List.forall_mem_cons.mpr ⟨clm8_3, fun _ h => absurd h List.not_mem_nil⟩
set_option maxRecDepth 20000 in
theorem clm9_3 : CLm 9 3 0 := Or.inl ⟨rfl, tb2 157 rfl rfl⟩
set_option maxRecDepth 20000 in
theorem clmC9 : ∀ q ∈ cmt.getD 9 [], CLm 9 q.1 q.2 := by
  show ∀ q ∈ ([(3, 0)] : List (Nat × Nat)), CLm 9 q.1 q.2
  exact List.forall_mem_cons.mpr ⟨clm9_3, fun _ h => absurd h List.not_mem_nil⟩
set_option maxRecDepth 20000 in
theorem clm10_3 : CLm 10 3 0 := Or.inl ⟨rfl, tb2 40 rfl rfl⟩
set_option maxRecDepth 20000 in
theorem clmC10 : ∀ q ∈ cmt.getD 10 [], CLm 10 q.1 q.2 := by
  show ∀ q ∈ ([(3, 0)] : List (Nat × Nat)), CLm 10 q.1 q.2
  exact List.forall_mem_cons.mpr ⟨clm10_3, fun _ h => absurd h List.not_mem_nil⟩
set_option maxRecDepth 20000 in
theorem clm11_3 : CLm 11 3 0 := Or.inl ⟨rfl, tb1 206 rfl rfl⟩
set_option maxRecDepth 20000 in
theorem clmC11 : ∀ q ∈ cmt.getD 11 [], CLm 11 q.1 q.2 := by
  show ∀ q ∈ ([(3, 0)] : List (Nat × Nat)), CLm 11 q.1 q.2
  exact List.forall_mem_cons.mpr ⟨clm11_3, fun _ h => absurd h List.not_mem_nil⟩
set_option maxRecDepth 20000 in
theorem clm12_3 : CLm 12 3 0 := Or.inl ⟨rfl, tb1 228 rfl rfl⟩
set_option maxRecDepth 20000 in
theorem clmC12 : ∀ q ∈ cmt.getD 12 [], CLm 12 q.1 q.2 := by
  show ∀ q ∈ ([(3, 0)] : List (Nat × Nat)), CLm 12 q.1 q.2
  exact List.forall_mem_cons.mpr ⟨clm12_3, fun _ h => absurd h List.not_mem_nil⟩
theorem clmAll : ∀ c, c < 13 → ∀ q ∈ cmt.getD c [], CLm c q.1 q.2 := lt_s (lt_s (lt_s (lt_s (lt_s (lt_s (lt_s (lt_s (lt_s (lt_s (lt_s (lt_s (lt_s lt_0 clmC0) clmC1) clmC2) clmC3) clmC4) clmC5) clmC6) clmC7) clmC8) clmC9) clmC10) clmC11) clmC12
def CLf (y idx k : Nat) : Prop := Cond.fieldLink (clsN y) idx (clsN y) (TZ y k).2.1 (TZ y k).2.2.1 ∈ TBW ∧ k < nfZ y ∧ (TZ y k).1 = clsN y
set_option maxRecDepth 20000 in
theorem clf0_7 : CLf 0 7 0 := ⟨tb5 167 rfl rfl, by decide, rfl⟩
set_option maxRecDepth 20000 in
theorem clf0_13 : CLf 0 13 3 := ⟨tb5 170 rfl rfl, by decide, rfl⟩
set_option maxRecDepth 20000 in
theorem clf0_17 : CLf 0 17 6 := ⟨tb5 173 rfl rfl, by decide, rfl⟩
set_option maxRecDepth 20000 in
theorem clf0_20 : CLf 0 20 7 := ⟨tb5 174 rfl rfl, by decide, rfl⟩
set_option maxRecDepth 20000 in
theorem clf0_23 : CLf 0 23 8 := ⟨tb5 175 rfl rfl, by decide, rfl⟩
set_option maxRecDepth 20000 in
theorem clf0_26 : CLf 0 26 9 := ⟨tb5 176 rfl rfl, by decide, rfl⟩
set_option maxRecDepth 20000 in
theorem clf0_29 : CLf 0 29 10 := ⟨tb5 177 rfl rfl, by decide, rfl⟩
set_option maxRecDepth 20000 in
theorem clf0_32 : CLf 0 32 11 := ⟨tb5 178 rfl rfl, by decide, rfl⟩
set_option maxRecDepth 20000 in
theorem clf0_35 : CLf 0 35 12 := ⟨tb5 179 rfl rfl, by decide, rfl⟩
set_option maxRecDepth 20000 in
theorem clf0_38 : CLf 0 38 13 := ⟨tb5 180 rfl rfl, by decide, rfl⟩
set_option maxRecDepth 20000 in
theorem clf0_41 : CLf 0 41 14 := ⟨tb5 181 rfl rfl, by decide, rfl⟩
set_option maxRecDepth 20000 in
theorem clf0_44 : CLf 0 44 15 := ⟨tb5 182 rfl rfl, by decide, rfl⟩
set_option maxRecDepth 20000 in
theorem clf0_47 : CLf 0 47 19 := ⟨tb5 186 rfl rfl, by decide, rfl⟩
set_option maxRecDepth 20000 in
theorem clf0_50 : CLf 0 50 20 := ⟨tb5 187 rfl rfl, by decide, rfl⟩
set_option maxRecDepth 20000 in
theorem clf0_53 : CLf 0 53 21 := ⟨tb5 188 rfl rfl, by decide, rfl⟩
set_option maxRecDepth 20000 in
theorem clf0_56 : CLf 0 56 22 := ⟨tb5 189 rfl rfl, by decide, rfl⟩
set_option maxRecDepth 20000 in
theorem clf0_59 : CLf 0 59 23 := ⟨tb5 190 rfl rfl, by decide, rfl⟩
set_option maxRecDepth 20000 in
theorem clf0_62 : CLf 0 62 24 := ⟨tb5 191 rfl rfl, by decide, rfl⟩
set_option maxRecDepth 20000 in
theorem clf0_65 : CLf 0 65 25 := ⟨tb5 192 rfl rfl, by decide, rfl⟩
set_option maxRecDepth 20000 in
theorem clf0_68 : CLf 0 68 26 := ⟨tb5 193 rfl rfl, by decide, rfl⟩
set_option maxRecDepth 20000 in
theorem clf0_71 : CLf 0 71 27 := ⟨tb5 194 rfl rfl, by decide, rfl⟩
set_option maxRecDepth 20000 in
theorem clf0_74 : CLf 0 74 28 := ⟨tb5 195 rfl rfl, by decide, rfl⟩
set_option maxRecDepth 20000 in
theorem clf0_77 : CLf 0 77 29 := ⟨tb5 196 rfl rfl, by decide, rfl⟩
set_option maxRecDepth 20000 in
theorem clf0_80 : CLf 0 80 30 := ⟨tb5 197 rfl rfl, by decide, rfl⟩
set_option maxRecDepth 20000 in
theorem clf0_83 : CLf 0 83 31 := ⟨tb5 198 rfl rfl, by decide, rfl⟩
set_option maxRecDepth 20000 in
theorem clf0_86 : CLf 0 86 33 := ⟨tb5 200 rfl rfl, by decide, rfl⟩
set_option maxRecDepth 20000 in
theorem clf0_89 : CLf 0 89 34 := ⟨tb5 201 rfl rfl, by decide, rfl⟩
set_option maxRecDepth 20000 in
theorem clf0_92 : CLf 0 92 35 := ⟨tb5 202 rfl rfl, by decide, rfl⟩
set_option maxRecDepth 20000 in
theorem clf0_95 : CLf 0 95 36 := ⟨tb5 203 rfl rfl, by decide, rfl⟩
set_option maxRecDepth 20000 in
theorem clf0_98 : CLf 0 98 37 := ⟨tb5 204 rfl rfl, by decide, rfl⟩
set_option maxRecDepth 20000 in
theorem clf0_101 : CLf 0 101 38 := ⟨tb5 205 rfl rfl, by decide, rfl⟩
set_option maxRecDepth 20000 in
theorem clf0_104 : CLf 0 104 39 := ⟨tb5 206 rfl rfl, by decide, rfl⟩
set_option maxRecDepth 20000 in
theorem clf0_107 : CLf 0 107 41 := ⟨tb5 208 rfl rfl, by decide, rfl⟩
set_option maxRecDepth 20000 in
theorem clf0_110 : CLf 0 110 42 := ⟨tb5 209 rfl rfl, by decide, rfl⟩
set_option maxRecDepth 20000 in
theorem clf0_113 : CLf 0 113 43 := ⟨tb5 210 rfl rfl, by decide, rfl⟩
set_option maxRecDepth 20000 in
theorem clf0_116 : CLf 0 116 44 := ⟨tb5 211 rfl rfl, by decide, rfl⟩
set_option maxRecDepth 20000 in
theorem clf0_119 : CLf 0 119 45 := ⟨tb5 212 rfl rfl, by decide, rfl⟩
set_option maxRecDepth 20000 in
theorem clf0_122 : CLf 0 122 46 := ⟨tb5 213 rfl rfl, by decide, rfl⟩
set_option maxRecDepth 20000 in
theorem clf0_125 : CLf 0 125 47 := ⟨tb5 214 rfl rfl, by decide, rfl⟩
set_option maxRecDepth 20000 in
theorem clf0_128 : CLf 0 128 48 := ⟨tb5 215 rfl rfl, by decide, rfl⟩
set_option maxRecDepth 20000 in
theorem clf0_131 : CLf 0 131 49 := ⟨tb5 216 rfl rfl, by decide, rfl⟩
set_option maxRecDepth 20000 in
theorem clf0_134 : CLf 0 134 54 := ⟨tb5 221 rfl rfl, by decide, rfl⟩
set_option maxRecDepth 20000 in
theorem clf0_137 : CLf 0 137 55 := ⟨tb5 222 rfl rfl, by decide, rfl⟩
set_option maxRecDepth 20000 in
theorem clf0_140 : CLf 0 140 56 := ⟨tb5 223 rfl rfl, by decide, rfl⟩
set_option maxRecDepth 20000 in
theorem clf0_143 : CLf 0 143 59 := ⟨tb5 226 rfl rfl, by decide, rfl⟩
set_option maxRecDepth 20000 in
theorem clf0_146 : CLf 0 146 60 := ⟨tb5 227 rfl rfl, by decide, rfl⟩
set_option maxRecDepth 20000 in
theorem clf0_149 : CLf 0 149 61 := ⟨tb5 228 rfl rfl, by decide, rfl⟩
set_option maxRecDepth 20000 in
theorem clf0_152 : CLf 0 152 62 := ⟨tb5 229 rfl rfl, by decide, rfl⟩
set_option maxRecDepth 20000 in
theorem clf0_155 : CLf 0 155 63 := ⟨tb5 230 rfl rfl, by decide, rfl⟩
set_option maxRecDepth 20000 in
theorem clf0_158 : CLf 0 158 64 := ⟨tb5 231 rfl rfl, by decide, rfl⟩
set_option maxRecDepth 20000 in
theorem clf0_162 : CLf 0 162 65 := ⟨tb5 232 rfl rfl, by decide, rfl⟩
set_option maxRecDepth 20000 in
theorem clf0_165 : CLf 0 165 66 := ⟨tb5 233 rfl rfl, by decide, rfl⟩
set_option maxRecDepth 20000 in
theorem clf0_168 : CLf 0 168 67 := ⟨tb5 234 rfl rfl, by decide, rfl⟩
set_option maxRecDepth 20000 in
theorem clf0_171 : CLf 0 171 68 := ⟨tb5 235 rfl rfl, by decide, rfl⟩
set_option maxRecDepth 20000 in
theorem clf0_174 : CLf 0 174 69 := ⟨tb5 236 rfl rfl, by decide, rfl⟩
set_option maxRecDepth 20000 in
theorem clf0_177 : CLf 0 177 70 := ⟨tb5 237 rfl rfl, by decide, rfl⟩
set_option maxRecDepth 20000 in
theorem clfC0 : ∀ q ∈ cft.getD 0 [], CLf 0 q.1 q.2 := by
  show ∀ q ∈ ([(7, 0), (13, 3), (17, 6), (20, 7), (23, 8), (26, 9), (29, 10), (32, 11), (35, 12), (38, 13), (41, 14), (44, 15), (47, 19), (50, 20), (53, 21), (56, 22), (59, 23), (62, 24), (65, 25), (68, 26), (71, 27), (74, 28), (77, 29), (80, 30), (83, 31), (86, 33), (89, 34), (92, 35), (95, 36), (98, 37), (101, 38), (104, 39), (107, 41), (110, 42), (113, 43), (116, 44), (119, 45), (122, 46), (125, 47), (128, 48), (131, 49), (134, 54), (137, 55), (140, 56), (143, 59), (146, 60), (149, 61), (152, 62), (155, 63), (158, 64), (162, 65), (165, 66), (168, 67), (171, 68), (174, 69), (177, 70)] : List (Nat × Nat)), CLf 0 q.1 q.2
  exact List.forall_mem_cons.mpr ⟨clf0_7, List.forall_mem_cons.mpr ⟨clf0_13, List.forall_mem_cons.mpr ⟨clf0_17, List.forall_mem_cons.mpr ⟨clf0_20, List.forall_mem_cons.mpr ⟨clf0_23, List.forall_mem_cons.mpr ⟨clf0_26, List.forall_mem_cons.mpr ⟨clf0_29, List.forall_mem_cons.mpr ⟨clf0_32, List.forall_mem_cons.mpr ⟨clf0_35, List.forall_mem_cons.mpr ⟨clf0_38, List.forall_mem_cons.mpr ⟨clf0_41, List.forall_mem_cons.mpr ⟨clf0_44, List.forall_mem_cons.mpr ⟨clf0_47, List.forall_mem_cons.mpr ⟨clf0_50, List.forall_mem_cons.mpr ⟨clf0_53, List.forall_mem_cons.mpr ⟨clf0_56, List.forall_mem_cons.mpr ⟨clf0_59, List.forall_mem_cons.mpr ⟨clf0_62, List.forall_mem_cons.mpr ⟨clf0_65, List.forall_mem_cons.mpr ⟨clf0_68, List.forall_mem_cons.mpr ⟨clf0_71, List.forall_mem_cons.mpr ⟨clf0_74, List.forall_mem_cons.mpr ⟨clf0_77, List.forall_mem_cons.mpr ⟨clf0_80, List.forall_mem_cons.mpr ⟨clf0_83, List.forall_mem_cons.mpr ⟨clf0_86, List.forall_mem_cons.mpr ⟨clf0_89, List.forall_mem_cons.mpr ⟨clf0_92, List.forall_mem_cons.mpr ⟨clf0_95, List.forall_mem_cons.mpr ⟨clf0_98, List.forall_mem_cons.mpr ⟨clf0_101, List.forall_mem_cons.mpr ⟨clf0_104, List.forall_mem_cons.mpr ⟨clf0_107, List.forall_mem_cons.mpr ⟨clf0_110, List.forall_mem_cons.mpr ⟨clf0_113, List.forall_mem_cons.mpr ⟨clf0_116, List.forall_mem_cons.mpr ⟨clf0_119, List.forall_mem_cons.mpr ⟨clf0_122, List.forall_mem_cons.mpr ⟨clf0_125, List.forall_mem_cons.mpr ⟨clf0_128, List.forall_mem_cons.mpr ⟨clf0_131, List.forall_mem_cons.mpr ⟨clf0_134, List.forall_mem_cons.mpr ⟨clf0_137, List.forall_mem_cons.mpr ⟨clf0_140, List.forall_mem_cons.mpr ⟨clf0_143, List.forall_mem_cons.mpr ⟨clf0_146, List.forall_mem_cons.mpr ⟨clf0_149, List.forall_mem_cons.mpr ⟨clf0_152, List.forall_mem_cons.mpr ⟨clf0_155, List.forall_mem_cons.mpr ⟨clf0_158, List.forall_mem_cons.mpr ⟨clf0_162, List.forall_mem_cons.mpr ⟨clf0_165, List.forall_mem_cons.mpr ⟨clf0_168, List.forall_mem_cons.mpr ⟨clf0_171, List.forall_mem_cons.mpr ⟨clf0_174, List.forall_mem_cons.mpr ⟨clf0_177, fun _ h => absurd h List.not_mem_nil⟩⟩⟩⟩⟩⟩⟩⟩⟩⟩⟩⟩⟩⟩⟩⟩⟩⟩⟩⟩⟩⟩⟩⟩⟩⟩⟩⟩⟩⟩⟩⟩⟩⟩⟩⟩⟩⟩⟩⟩⟩⟩⟩⟩⟩⟩⟩⟩⟩⟩⟩⟩⟩⟩⟩⟩
set_option maxRecDepth 20000 in
theorem clf1_9 : CLf 1 9 0 := ⟨tb2 207 rfl rfl, by decide, rfl⟩
set_option maxRecDepth 20000 in
theorem clf1_13 : CLf 1 13 1 := ⟨tb2 208 rfl rfl, by decide, rfl⟩
set_option maxRecDepth 20000 in
theorem clf1_17 : CLf 1 17 2 := ⟨tb2 209 rfl rfl, by decide, rfl⟩
set_option maxRecDepth 20000 in
theorem clf1_20 : CLf 1 20 3 := ⟨tb2 210 rfl rfl, by decide, rfl⟩
set_option maxRecDepth 20000 in
theorem clf1_27 : CLf 1 27 4 := ⟨tb2 211 rfl rfl, by decide, rfl⟩
set_option maxRecDepth 20000 in
theorem clf1_31 : CLf 1 31 5 := ⟨tb2 212 rfl rfl, by decide, rfl⟩
set_option maxRecDepth 20000 in
theorem clf1_37 : CLf 1 37 6 := ⟨tb2 213 rfl rfl, by decide, rfl⟩
set_option maxRecDepth 20000 in
theorem clf1_57 : CLf 1 57 7 := ⟨tb2 214 rfl rfl, by decide, rfl⟩
set_option maxRecDepth 20000 in
theorem clf1_66 : CLf 1 66 8 := ⟨tb2 215 rfl rfl, by decide, rfl⟩
set_option maxRecDepth 20000 in
theorem clf1_75 : CLf 1 75 9 := ⟨tb2 216 rfl rfl, by decide, rfl⟩
set_option maxRecDepth 20000 in
theorem clf1_82 : CLf 1 82 10 := ⟨tb2 217 rfl rfl, by decide, rfl⟩
set_option maxRecDepth 20000 in
theorem clfC1 : ∀ q ∈ cft.getD 1 [], CLf 1 q.1 q.2 := by
  show ∀ q ∈ ([(9, 0), (13, 1), (17, 2), (20, 3), (27, 4), (31, 5), (37, 6), (57, 7), (66, 8), (75, 9), (82, 10)] : List (Nat × Nat)), CLf 1 q.1 q.2
  exact List.forall_mem_cons.mpr ⟨clf1_9, List.forall_mem_cons.mpr ⟨clf1_13, List.forall_mem_cons.mpr ⟨clf1_17, List.forall_mem_cons.mpr ⟨clf1_20, List.forall_mem_cons.mpr ⟨clf1_27, List.forall_mem_cons.mpr ⟨clf1_31, List.forall_mem_cons.mpr ⟨clf1_37, List.forall_mem_cons.mpr ⟨clf1_57, List.forall_mem_cons.mpr ⟨clf1_66, List.forall_mem_cons.mpr ⟨clf1_75, List.forall_mem_cons.mpr ⟨clf1_82, fun _ h => absurd h List.not_mem_nil⟩⟩⟩⟩⟩⟩⟩⟩⟩⟩⟩
set_option maxRecDepth 20000 in
theorem clf2_9 : CLf 2 9 3 := ⟨tb2 133 rfl rfl, by decide, rfl⟩
set_option maxRecDepth 20000 in
theorem clf2_15 : CLf 2 15 4 := ⟨tb2 134 rfl rfl, by decide, rfl⟩
set_option maxRecDepth 20000 in
theorem clf2_18 : CLf 2 18 0 := ⟨tb2 130 rfl rfl, by decide, rfl⟩
set_option maxRecDepth 20000 in
theorem clf2_22 : CLf 2 22 1 := ⟨tb2 131 rfl rfl, by decide, rfl⟩
set_option maxRecDepth 20000 in
theorem clf2_26 : CLf 2 26 2 := ⟨tb2 132 rfl rfl, by decide, rfl⟩
set_option maxRecDepth 20000 in
theorem clfC2 : ∀ q ∈ cft.getD 2 [], CLf 2 q.1 q.2 := by
  show ∀ q ∈ ([(9, 3), (15, 4), (18, 0), (22, 1), (26, 2)] : List (Nat × Nat)), CLf 2 q.1 q.2
  exact List.forall_mem_cons.mpr ⟨clf2_9, List.forall_mem_cons.mpr ⟨clf2_15, List.forall_mem_cons.mpr ⟨clf2_18, List.forall_mem_cons.mpr ⟨clf2_22, List.forall_mem_cons.mpr ⟨clf2_26, fun _ h => absurd h List.not_mem_nil⟩⟩⟩⟩⟩
set_option maxRecDepth 20000 in
theorem clf3_12 : CLf 3 12 0 := ⟨tb1 134 rfl rfl, by decide, rfl⟩
set_option maxRecDepth 20000 in
theorem clf3_21 : CLf 3 21 1 := ⟨tb1 140 rfl rfl, by decide, rfl⟩
set_option maxRecDepth 20000 in
theorem clf3_25 : CLf 3 25 3 := ⟨tb1 148 rfl rfl, by decide, rfl⟩
set_option maxRecDepth 20000 in
theorem clf3_29 : CLf 3 29 4 := ⟨tb1 149 rfl rfl, by decide, rfl⟩
set_option maxRecDepth 20000 in
theorem clf3_32 : CLf 3 32 5 := ⟨tb1 150 rfl rfl, by decide, rfl⟩
set_option maxRecDepth 20000 in
theorem clf3_35 : CLf 3 35 7 := ⟨tb1 153 rfl rfl, by decide, rfl⟩
set_option maxRecDepth 20000 in
theorem clf3_38 : CLf 3 38 8 := ⟨tb1 155 rfl rfl, by decide, rfl⟩
set_option maxRecDepth 20000 in
theorem clf3_41 : CLf 3 41 9 := ⟨tb1 158 rfl rfl, by decide, rfl⟩
set_option maxRecDepth 20000 in
theorem clf3_44 : CLf 3 44 11 := ⟨tb1 160 rfl rfl, by decide, rfl⟩
set_option maxRecDepth 20000 in
theorem clf3_47 : CLf 3 47 12 := ⟨tb1 162 rfl rfl, by decide, rfl⟩
set_option maxRecDepth 20000 in
theorem clf3_50 : CLf 3 50 13 := ⟨tb1 164 rfl rfl, by decide, rfl⟩
set_option maxRecDepth 20000 in
theorem clf3_53 : CLf 3 53 14 := ⟨tb1 165 rfl rfl, by decide, rfl⟩
set_option maxRecDepth 20000 in
theorem clfC3 : ∀ q ∈ cft.getD 3 [], CLf 3 q.1 q.2 := by
  show ∀ q ∈ ([(12, 0), (21, 1), (25, 3), (29, 4), (32, 5), (35, 7), (38, 8), (41, 9), (44, 11), (47, 12), (50, 13), (53, 14)] : List (Nat × Nat)), CLf 3 q.1 q.2
  exact List.forall_mem_cons.mpr ⟨clf3_12, List.forall_mem_cons.mpr ⟨clf3_21, List.forall_mem_cons.mpr ⟨clf3_25, List.forall_mem_cons.mpr ⟨clf3_29, List.forall_mem_cons.mpr ⟨clf3_32, List.forall_mem_cons.mpr ⟨clf3_35, List.forall_mem_cons.mpr ⟨clf3_38, List.forall_mem_cons.mpr ⟨clf3_41, List.forall_mem_cons.mpr ⟨clf3_44, List.forall_mem_cons.mpr ⟨clf3_47, List.forall_mem_cons.mpr ⟨clf3_50, List.forall_mem_cons.mpr ⟨clf3_53, fun _ h => absurd h List.not_mem_nil⟩⟩⟩⟩⟩⟩⟩⟩⟩⟩⟩⟩
set_option maxRecDepth 20000 in
theorem clf4_9 : CLf 4 9 0 := ⟨tb2 86 rfl rfl, by decide, rfl⟩
set_option maxRecDepth 20000 in
theorem clf4_15 : CLf 4 15 1 := ⟨tb2 87 rfl rfl, by decide, rfl⟩
set_option maxRecDepth 20000 in
theorem clfC4 : ∀ q ∈ cft.getD 4 [], CLf 4 q.1 q.2 := by
  show ∀ q ∈ ([(9, 0), (15, 1)] : List (Nat × Nat)), CLf 4 q.1 q.2
  exact List.forall_mem_cons.mpr ⟨clf4_9, List.forall_mem_cons.mpr ⟨clf4_15, fun _ h => absurd h List.not_mem_nil⟩⟩
set_option maxRecDepth 20000 in
theorem clf5_9 : CLf 5 9 2 := ⟨tb2 175 rfl rfl, by decide, rfl⟩
set_option maxRecDepth 20000 in
theorem clf5_15 : CLf 5 15 3 := ⟨tb2 176 rfl rfl, by decide, rfl⟩
set_option maxRecDepth 20000 in
theorem clf5_20 : CLf 5 20 4 := ⟨tb2 177 rfl rfl, by decide, rfl⟩
set_option maxRecDepth 20000 in
theorem clf5_23 : CLf 5 23 5 := ⟨tb2 178 rfl rfl, by decide, rfl⟩
set_option maxRecDepth 20000 in
theorem clf5_26 : CLf 5 26 6 := ⟨tb2 179 rfl rfl, by decide, rfl⟩
set_option maxRecDepth 20000 in
theorem clf5_29 : CLf 5 29 7 := ⟨tb2 180 rfl rfl, by decide, rfl⟩
set_option maxRecDepth 20000 in
theorem clf5_32 : CLf 5 32 8 := ⟨tb2 181 rfl rfl, by decide, rfl⟩
set_option maxRecDepth 20000 in
theorem clf5_35 : CLf 5 35 0 := ⟨tb2 173 rfl rfl, by decide, rfl⟩
set_option maxRecDepth 20000 in
theorem clf5_39 : CLf 5 39 1 := ⟨tb2 174 rfl rfl, by decide, rfl⟩
set_option maxRecDepth 20000 in
theorem clfC5 : ∀ q ∈ cft.getD 5 [], CLf 5 q.1 q.2 := by
  show ∀ q ∈ ([(9, 2), (15, 3), (20, 4), (23, 5), (26, 6), (29, 7), (32, 8), (35, 0), (39, 1)] : List (Nat × Nat)), CLf 5 q.1 q.2
  exact List.forall_mem_cons.mpr ⟨clf5_9, List.forall_mem_cons.mpr ⟨clf5_15, List.forall_mem_cons.mpr ⟨clf5_20, List.forall_mem_cons.mpr ⟨clf5_23, List.forall_mem_cons.mpr ⟨clf5_26, List.forall_mem_cons.mpr ⟨clf5_29, List.forall_mem_cons.mpr ⟨clf5_32, List.forall_mem_cons.mpr ⟨clf5_35, List.forall_mem_cons.mpr ⟨clf5_39, fun _ h => absurd h List.not_mem_nil⟩⟩⟩⟩⟩⟩⟩⟩⟩
set_option maxRecDepth 20000 in
theorem clf6_9 : CLf 6 9 0 := ⟨tb1 94 rfl rfl, by decide, rfl⟩
set_option maxRecDepth 20000 in
theorem clf6_15 : CLf 6 15 1 := ⟨tb1 98 rfl rfl, by decide, rfl⟩
set_option maxRecDepth 20000 in
theorem clf6_18 : CLf 6 18 2 := ⟨tb1 102 rfl rfl, by decide, rfl⟩
set_option maxRecDepth 20000 in
theorem clf6_21 : CLf 6 21 3 := ⟨tb1 106 rfl rfl, by decide, rfl⟩
set_option maxRecDepth 20000 in
theorem clf6_24 : CLf 6 24 4 := ⟨tb1 110 rfl rfl, by decide, rfl⟩
set_option maxRecDepth 20000 in
theorem clf6_27 : CLf 6 27 5 := ⟨tb1 112 rfl rfl, by decide, rfl⟩
set_option maxRecDepth 20000 in
theorem clf6_30 : CLf 6 30 6 := ⟨tb1 114 rfl rfl, by decide, rfl⟩
set_option maxRecDepth 20000 in
theorem clfC6 : ∀ q ∈ cft.getD 6 [], CLf 6 q.1 q.2 := by
  show ∀ q ∈ ([(9, 0), (15, 1), (18, 2), (21, 3), (24, 4), (27, 5), (30, 6)] : List (Nat × Nat)), CLf 6 q.1 q.2
  exact List.forall_mem_cons.mpr ⟨clf6_9, List.forall_mem_cons.mpr ⟨clf6_15, List.forall_mem_cons.mpr ⟨clf6_18, List.forall_mem_cons.mpr ⟨clf6_21, List.forall_mem_cons.mpr ⟨clf6_24, List.forall_mem_cons.mpr ⟨clf6_27, List.forall_mem_cons.mpr ⟨clf6_30, fun _ h => absurd h List.not_mem_nil⟩⟩⟩⟩⟩⟩⟩
set_option maxRecDepth 20000 in
theorem clf7_9 : CLf 7 9 7 := ⟨tb2 106 rfl rfl, by decide, rfl⟩
set_option maxRecDepth 20000 in
theorem clf7_15 : CLf 7 15 0 := ⟨tb2 99 rfl rfl, by decide, rfl⟩
set_option maxRecDepth 20000 in
theorem clf7_19 : CLf 7 19 1 := ⟨tb2 100 rfl rfl, by decide, rfl⟩
set_option maxRecDepth 20000 in
theorem clf7_23 : CLf 7 23 2 := ⟨tb2 101 rfl rfl, by decide, rfl⟩
set_option maxRecDepth 20000 in
theorem clfC7 : ∀ q ∈ cft.getD 7 [], CLf 7 q.1 q.2 := by
  show ∀ q ∈ ([(9, 7), (15, 0), (19, 1), (23, 2)] : List (Nat × Nat)), CLf 7 q.1 q.2
  exact List.forall_mem_cons.mpr ⟨clf7_9, List.forall_mem_cons.mpr ⟨clf7_15, List.forall_mem_cons.mpr ⟨clf7_19, List.forall_mem_cons.mpr ⟨clf7_23, fun _ h => absurd h List.not_mem_nil⟩⟩⟩⟩
set_option maxRecDepth 20000 in
theorem clf8_9 : CLf 8 9 0 := ⟨tb1 46 rfl rfl, by decide, rfl⟩
set_option maxRecDepth 20000 in
theorem clf8_15 : CLf 8 15 1 := ⟨tb1 50 rfl rfl, by decide, rfl⟩
set_option maxRecDepth 20000 in
theorem clf8_18 : CLf 8 18 2 := ⟨tb1 52 rfl rfl, by decide, rfl⟩
set_option maxRecDepth 20000 in
theorem clf8_21 : CLf 8 21 3 := ⟨tb1 56 rfl rfl, by decide, rfl⟩
set_option maxRecDepth 20000 in
theorem clf8_25 : CLf 8 25 4 := ⟨tb1 58 rfl rfl, by decide, rfl⟩
set_option maxRecDepth 20000 in
theorem clf8_28 : CLf 8 28 5 := ⟨tb1 62 rfl rfl, by decide, rfl⟩
set_option maxRecDepth 20000 in
theorem clfC8 : ∀ q ∈ cft.getD 8 [], CLf 8 q.1 q.2 := by
  show ∀ q ∈ ([(9, 0), (15, 1), (18, 2), (21, 3), (25, 4), (28, 5)] : List (Nat × Nat)), CLf 8 q.1 q.2
  exact List.forall_mem_cons.mpr ⟨clf8_9, List.forall_mem_cons.mpr ⟨clf8_15, List.forall_mem_cons.mpr ⟨clf8_18, List.forall_mem_cons.mpr ⟨clf8_21, List.forall_mem_cons.mpr ⟨clf8_25, List.forall_mem_cons.mpr ⟨clf8_28, fun _ h => absurd h List.not_mem_nil⟩⟩⟩⟩⟩⟩
set_option maxRecDepth 20000 in
theorem clf9_9 : CLf 9 9 0 := ⟨tb2 158 rfl rfl, by decide, rfl⟩
set_option maxRecDepth 20000 in
theorem clf9_15 : CLf 9 15 1 := ⟨tb2 159 rfl rfl, by decide, rfl⟩
set_option maxRecDepth 20000 in
theorem clfC9 : ∀ q ∈ cft.getD 9 [], CLf 9 q.1 q.2 := by
  show ∀ q ∈ ([(9, 0), (15, 1)] : List (Nat × Nat)), CLf 9 q.1 q.2
  exact List.forall_mem_cons.mpr ⟨clf9_9, List.forall_mem_cons.mpr ⟨clf9_15, fun _ h => absurd h List.not_mem_nil⟩⟩
set_option maxRecDepth 20000 in
theorem clf10_9 : CLf 10 9 0 := ⟨tb2 41 rfl rfl, by decide, rfl⟩
set_option maxRecDepth 20000 in
theorem clf10_15 : CLf 10 15 1 := ⟨tb2 45 rfl rfl, by decide, rfl⟩
set_option maxRecDepth 20000 in
theorem clf10_18 : CLf 10 18 2 := ⟨tb2 47 rfl rfl, by decide, rfl⟩
set_option maxRecDepth 20000 in
theorem clf10_21 : CLf 10 21 3 := ⟨tb2 52 rfl rfl, by decide, rfl⟩
set_option maxRecDepth 20000 in
theorem clf10_24 : CLf 10 24 5 := ⟨tb2 61 rfl rfl, by decide, rfl⟩
set_option maxRecDepth 20000 in
theorem clfC10 : ∀ q ∈ cft.getD 10 [], CLf 10 q.1 q.2 := by
  show ∀ q ∈ ([(9, 0), (15, 1), (18, 2), (21, 3), (24, 5)] : List (Nat × Nat)), CLf 10 q.1 q.2
  exact List.forall_mem_cons.mpr ⟨clf10_9, List.forall_mem_cons.mpr ⟨clf10_15, List.forall_mem_cons.mpr ⟨clf10_18, List.forall_mem_cons.mpr ⟨clf10_21, List.forall_mem_cons.mpr ⟨clf10_24, fun _ h => absurd h List.not_mem_nil⟩⟩⟩⟩⟩
set_option maxRecDepth 20000 in
theorem clf11_9 : CLf 11 9 0 := ⟨tb1 207 rfl rfl, by decide, rfl⟩
set_option maxRecDepth 20000 in
theorem clf11_15 : CLf 11 15 1 := ⟨tb1 209 rfl rfl, by decide, rfl⟩
set_option maxRecDepth 20000 in
theorem clf11_18 : CLf 11 18 2 := ⟨tb1 211 rfl rfl, by decide, rfl⟩
set_option maxRecDepth 20000 in
theorem clfC11 : ∀ q ∈ cft.getD 11 [], CLf 11 q.1 q.2 := by
  show ∀ q ∈ ([(9, 0), (15, 1), (18, 2)] : List (Nat × Nat)), CLf 11 q.1 q.2
  exact List.forall_mem_cons.mpr ⟨clf11_9, List.forall_mem_cons.mpr ⟨clf11_15, List.forall_mem_cons.mpr ⟨clf11_18, fun _ h => absurd h List.not_mem_nil⟩⟩⟩
set_option maxRecDepth 20000 in
theorem clf12_9 : CLf 12 9 0 := ⟨tb1 229 rfl rfl, by decide, rfl⟩
set_option maxRecDepth 20000 in
theorem clf12_15 : CLf 12 15 1 := ⟨tb1 231 rfl rfl, by decide, rfl⟩
set_option maxRecDepth 20000 in
theorem clf12_18 : CLf 12 18 2 := ⟨tb1 233 rfl rfl, by decide, rfl⟩
set_option maxRecDepth 20000 in
theorem clf12_21 : CLf 12 21 3 := ⟨tb1 235 rfl rfl, by decide, rfl⟩
set_option maxRecDepth 20000 in
theorem clf12_24 : CLf 12 24 5 := ⟨tb2 0 rfl rfl, by decide, rfl⟩
set_option maxRecDepth 20000 in
theorem clf12_27 : CLf 12 27 6 := ⟨tb2 1 rfl rfl, by decide, rfl⟩
set_option maxRecDepth 20000 in
theorem clf12_31 : CLf 12 31 7 := ⟨tb2 3 rfl rfl, by decide, rfl⟩
set_option maxRecDepth 20000 in
theorem clf12_34 : CLf 12 34 8 := ⟨tb2 5 rfl rfl, by decide, rfl⟩
set_option maxRecDepth 20000 in
theorem clf12_37 : CLf 12 37 9 := ⟨tb2 7 rfl rfl, by decide, rfl⟩
set_option maxRecDepth 20000 in
theorem clfC12 : ∀ q ∈ cft.getD 12 [], CLf 12 q.1 q.2 := by
  show ∀ q ∈ ([(9, 0), (15, 1), (18, 2), (21, 3), (24, 5), (27, 6), (31, 7), (34, 8), (37, 9)] : List (Nat × Nat)), CLf 12 q.1 q.2
  exact List.forall_mem_cons.mpr ⟨clf12_9, List.forall_mem_cons.mpr ⟨clf12_15, List.forall_mem_cons.mpr ⟨clf12_18, List.forall_mem_cons.mpr ⟨clf12_21, List.forall_mem_cons.mpr ⟨clf12_24, List.forall_mem_cons.mpr ⟨clf12_27, List.forall_mem_cons.mpr ⟨clf12_31, List.forall_mem_cons.mpr ⟨clf12_34, List.forall_mem_cons.mpr ⟨clf12_37, fun _ h => absurd h List.not_mem_nil⟩⟩⟩⟩⟩⟩⟩⟩⟩
theorem clfAll : ∀ c, c < 13 → ∀ q ∈ cft.getD c [], CLf c q.1 q.2 := lt_s (lt_s (lt_s (lt_s (lt_s (lt_s (lt_s (lt_s (lt_s (lt_s (lt_s (lt_s (lt_s lt_0 clfC0) clfC1) clfC2) clfC3) clfC4) clfC5) clfC6) clfC7) clfC8) clfC9) clfC10) clfC11) clfC12
def CLx (y idx k : Nat) : Prop := (Cond.classLink (clsN y) idx (clsN k) ∈ TBW ∧ Cond.instantiable (clsN k) (nfZ k) ∈ TBW ∧ Cond.initialized (clsN k) ∈ TBW) ∧ k < 13
set_option maxRecDepth 20000 in
theorem clxC0 : ∀ q ∈ cxt.getD 0 [], CLx 0 q.1 q.2 := fun _ h => absurd h List.not_mem_nil
set_option maxRecDepth 20000 in
theorem clx1_24 : CLx 1 24 3 := ⟨⟨tb1 34 rfl rfl, tb1 35 rfl rfl, tb1 2 rfl rfl⟩, by decide⟩
set_option maxRecDepth 20000 in
theorem clx1_34 : CLx 1 34 11 := ⟨⟨tb1 201 rfl rfl, tb1 202 rfl rfl, tb1 5 rfl rfl⟩, by decide⟩
set_option maxRecDepth 20000 in
theorem clx1_41 : CLx 1 41 12 := ⟨⟨tb1 223 rfl rfl, tb1 224 rfl rfl, tb1 6 rfl rfl⟩, by decide⟩
set_option maxRecDepth 20000 in
theorem clx1_44 : CLx 1 44 10 := ⟨⟨tb2 35 rfl rfl, tb2 36 rfl rfl, tb1 7 rfl rfl⟩, by decide⟩
set_option maxRecDepth 20000 in
theorem clx1_47 : CLx 1 47 4 := ⟨⟨tb2 80 rfl rfl, tb2 81 rfl rfl, tb1 8 rfl rfl⟩, by decide⟩
set_option maxRecDepth 20000 in
theorem clx1_52 : CLx 1 52 7 := ⟨⟨tb2 93 rfl rfl, tb2 94 rfl rfl, tb1 9 rfl rfl⟩, by decide⟩
set_option maxRecDepth 20000 in
theorem clx1_61 : CLx 1 61 2 := ⟨⟨tb2 124 rfl rfl, tb2 125 rfl rfl, tb1 10 rfl rfl⟩, by decide⟩
set_option maxRecDepth 20000 in
theorem clx1_70 : CLx 1 70 9 := ⟨⟨tb2 152 rfl rfl, tb2 153 rfl rfl, tb1 11 rfl rfl⟩, by decide⟩
set_option maxRecDepth 20000 in
theorem clx1_79 : CLx 1 79 5 := ⟨⟨tb2 165 rfl rfl, tb2 166 rfl rfl, tb1 12 rfl rfl⟩, by decide⟩
set_option maxRecDepth 20000 in
theorem clxC1 : ∀ q ∈ cxt.getD 1 [], CLx 1 q.1 q.2 := by
  show ∀ q ∈ ([(24, 3), (34, 11), (41, 12), (44, 10), (47, 4), (52, 7), (61, 2), (70, 9), (79, 5)] : List (Nat × Nat)), CLx 1 q.1 q.2
  exact List.forall_mem_cons.mpr ⟨clx1_24, List.forall_mem_cons.mpr ⟨clx1_34, List.forall_mem_cons.mpr ⟨clx1_41, List.forall_mem_cons.mpr ⟨clx1_44, List.forall_mem_cons.mpr ⟨clx1_47, List.forall_mem_cons.mpr ⟨clx1_52, List.forall_mem_cons.mpr ⟨clx1_61, List.forall_mem_cons.mpr ⟨clx1_70, List.forall_mem_cons.mpr ⟨clx1_79, fun _ h => absurd h List.not_mem_nil⟩⟩⟩⟩⟩⟩⟩⟩⟩
set_option maxRecDepth 20000 in
theorem clxC2 : ∀ q ∈ cxt.getD 2 [], CLx 2 q.1 q.2 := fun _ h => absurd h List.not_mem_nil
set_option maxRecDepth 20000 in
theorem clx3_9 : CLx 3 9 8 := ⟨⟨tb1 40 rfl rfl, tb1 41 rfl rfl, tb1 3 rfl rfl⟩, by decide⟩
set_option maxRecDepth 20000 in
theorem clx3_18 : CLx 3 18 6 := ⟨⟨tb1 88 rfl rfl, tb1 89 rfl rfl, tb1 4 rfl rfl⟩, by decide⟩
set_option maxRecDepth 20000 in
theorem clxC3 : ∀ q ∈ cxt.getD 3 [], CLx 3 q.1 q.2 := by
  show ∀ q ∈ ([(9, 8), (18, 6)] : List (Nat × Nat)), CLx 3 q.1 q.2
  exact List.forall_mem_cons.mpr ⟨clx3_9, List.forall_mem_cons.mpr ⟨clx3_18, fun _ h => absurd h List.not_mem_nil⟩⟩
set_option maxRecDepth 20000 in
theorem clxC4 : ∀ q ∈ cxt.getD 4 [], CLx 4 q.1 q.2 := fun _ h => absurd h List.not_mem_nil
set_option maxRecDepth 20000 in
theorem clxC5 : ∀ q ∈ cxt.getD 5 [], CLx 5 q.1 q.2 := fun _ h => absurd h List.not_mem_nil
set_option maxRecDepth 20000 in
theorem clxC6 : ∀ q ∈ cxt.getD 6 [], CLx 6 q.1 q.2 := fun _ h => absurd h List.not_mem_nil
set_option maxRecDepth 20000 in
theorem clxC7 : ∀ q ∈ cxt.getD 7 [], CLx 7 q.1 q.2 := fun _ h => absurd h List.not_mem_nil
set_option maxRecDepth 20000 in
theorem clxC8 : ∀ q ∈ cxt.getD 8 [], CLx 8 q.1 q.2 := fun _ h => absurd h List.not_mem_nil
set_option maxRecDepth 20000 in
theorem clxC9 : ∀ q ∈ cxt.getD 9 [], CLx 9 q.1 q.2 := fun _ h => absurd h List.not_mem_nil
set_option maxRecDepth 20000 in
theorem clxC10 : ∀ q ∈ cxt.getD 10 [], CLx 10 q.1 q.2 := fun _ h => absurd h List.not_mem_nil
set_option maxRecDepth 20000 in
theorem clxC11 : ∀ q ∈ cxt.getD 11 [], CLx 11 q.1 q.2 := fun _ h => absurd h List.not_mem_nil
set_option maxRecDepth 20000 in
theorem clxC12 : ∀ q ∈ cxt.getD 12 [], CLx 12 q.1 q.2 := fun _ h => absurd h List.not_mem_nil
theorem clxAll : ∀ c, c < 13 → ∀ q ∈ cxt.getD c [], CLx c q.1 q.2 := lt_s (lt_s (lt_s (lt_s (lt_s (lt_s (lt_s (lt_s (lt_s (lt_s (lt_s (lt_s (lt_s lt_0 clxC0) clxC1) clxC2) clxC3) clxC4) clxC5) clxC6) clxC7) clxC8) clxC9) clxC10) clxC11) clxC12
set_option maxRecDepth 20000 in
theorem cob : Cond.instanceMethod Lib.objectInit ∈ TBW ∧ Cond.code Lib.objectInit ⟨#[0xb1]⟩ 1 none ∈ TBW := ⟨tb1 32 rfl rfl, tb1 33 rfl rfl⟩
set_option maxRecDepth 20000 in
theorem car_int : Cond.arrayClass .int ∈ TBW := tb1 86 rfl rfl
set_option maxRecDepth 20000 in
theorem car_boolean : Cond.arrayClass .boolean ∈ TBW := tb1 87 rfl rfl
set_option maxRecDepth 20000 in
theorem car_char : Cond.arrayClass .char ∈ TBW := tb1 85 rfl rfl
set_option maxRecDepth 20000 in
theorem car_long : Cond.arrayClass .long ∈ TBW := tb7 151 rfl rfl
set_option maxRecDepth 20000 in
theorem car_double : Cond.arrayClass .double ∈ TBW := tb7 152 rfl rfl
theorem ckr0_0 : (fkd 0 0 ≤ 3 ∧ (fkd 0 0 = 3 → (TZ 0 0).2.2.2 = true ∧ (tyZ 0 0).isReference = true ∧ ∀ a, fits (tyZ 0 0) (.ref a) = true)) ∧ (2 ≤ fkd 0 0 → defaultValue (tyZ 0 0) = .null) := ⟨⟨by decide, fun _ => ⟨rfl, rfl, fun _ => rfl⟩⟩, fun _ => rfl⟩
theorem ckr0_1 : (fkd 0 1 ≤ 3 ∧ (fkd 0 1 = 3 → (TZ 0 1).2.2.2 = true ∧ (tyZ 0 1).isReference = true ∧ ∀ a, fits (tyZ 0 1) (.ref a) = true)) ∧ (2 ≤ fkd 0 1 → defaultValue (tyZ 0 1) = .null) := ⟨⟨by decide, fun h => absurd h (by decide)⟩, fun h => absurd h (by decide)⟩
theorem ckr0_2 : (fkd 0 2 ≤ 3 ∧ (fkd 0 2 = 3 → (TZ 0 2).2.2.2 = true ∧ (tyZ 0 2).isReference = true ∧ ∀ a, fits (tyZ 0 2) (.ref a) = true)) ∧ (2 ≤ fkd 0 2 → defaultValue (tyZ 0 2) = .null) := ⟨⟨by decide, fun h => absurd h (by decide)⟩, fun h => absurd h (by decide)⟩
theorem ckr0_3 : (fkd 0 3 ≤ 3 ∧ (fkd 0 3 = 3 → (TZ 0 3).2.2.2 = true ∧ (tyZ 0 3).isReference = true ∧ ∀ a, fits (tyZ 0 3) (.ref a) = true)) ∧ (2 ≤ fkd 0 3 → defaultValue (tyZ 0 3) = .null) := ⟨⟨by decide, fun h => absurd h (by decide)⟩, fun h => absurd h (by decide)⟩
theorem ckr0_4 : (fkd 0 4 ≤ 3 ∧ (fkd 0 4 = 3 → (TZ 0 4).2.2.2 = true ∧ (tyZ 0 4).isReference = true ∧ ∀ a, fits (tyZ 0 4) (.ref a) = true)) ∧ (2 ≤ fkd 0 4 → defaultValue (tyZ 0 4) = .null) := ⟨⟨by decide, fun h => absurd h (by decide)⟩, fun h => absurd h (by decide)⟩
theorem ckr0_5 : (fkd 0 5 ≤ 3 ∧ (fkd 0 5 = 3 → (TZ 0 5).2.2.2 = true ∧ (tyZ 0 5).isReference = true ∧ ∀ a, fits (tyZ 0 5) (.ref a) = true)) ∧ (2 ≤ fkd 0 5 → defaultValue (tyZ 0 5) = .null) := ⟨⟨by decide, fun h => absurd h (by decide)⟩, fun h => absurd h (by decide)⟩
theorem ckr0_6 : (fkd 0 6 ≤ 3 ∧ (fkd 0 6 = 3 → (TZ 0 6).2.2.2 = true ∧ (tyZ 0 6).isReference = true ∧ ∀ a, fits (tyZ 0 6) (.ref a) = true)) ∧ (2 ≤ fkd 0 6 → defaultValue (tyZ 0 6) = .null) := ⟨⟨by decide, fun _ => ⟨rfl, rfl, fun _ => rfl⟩⟩, fun _ => rfl⟩
theorem ckr0_7 : (fkd 0 7 ≤ 3 ∧ (fkd 0 7 = 3 → (TZ 0 7).2.2.2 = true ∧ (tyZ 0 7).isReference = true ∧ ∀ a, fits (tyZ 0 7) (.ref a) = true)) ∧ (2 ≤ fkd 0 7 → defaultValue (tyZ 0 7) = .null) := ⟨⟨by decide, fun _ => ⟨rfl, rfl, fun _ => rfl⟩⟩, fun _ => rfl⟩
theorem ckr0_8 : (fkd 0 8 ≤ 3 ∧ (fkd 0 8 = 3 → (TZ 0 8).2.2.2 = true ∧ (tyZ 0 8).isReference = true ∧ ∀ a, fits (tyZ 0 8) (.ref a) = true)) ∧ (2 ≤ fkd 0 8 → defaultValue (tyZ 0 8) = .null) := ⟨⟨by decide, fun _ => ⟨rfl, rfl, fun _ => rfl⟩⟩, fun _ => rfl⟩
theorem ckr0_9 : (fkd 0 9 ≤ 3 ∧ (fkd 0 9 = 3 → (TZ 0 9).2.2.2 = true ∧ (tyZ 0 9).isReference = true ∧ ∀ a, fits (tyZ 0 9) (.ref a) = true)) ∧ (2 ≤ fkd 0 9 → defaultValue (tyZ 0 9) = .null) := ⟨⟨by decide, fun _ => ⟨rfl, rfl, fun _ => rfl⟩⟩, fun _ => rfl⟩
theorem ckr0_10 : (fkd 0 10 ≤ 3 ∧ (fkd 0 10 = 3 → (TZ 0 10).2.2.2 = true ∧ (tyZ 0 10).isReference = true ∧ ∀ a, fits (tyZ 0 10) (.ref a) = true)) ∧ (2 ≤ fkd 0 10 → defaultValue (tyZ 0 10) = .null) := ⟨⟨by decide, fun _ => ⟨rfl, rfl, fun _ => rfl⟩⟩, fun _ => rfl⟩
theorem ckr0_11 : (fkd 0 11 ≤ 3 ∧ (fkd 0 11 = 3 → (TZ 0 11).2.2.2 = true ∧ (tyZ 0 11).isReference = true ∧ ∀ a, fits (tyZ 0 11) (.ref a) = true)) ∧ (2 ≤ fkd 0 11 → defaultValue (tyZ 0 11) = .null) := ⟨⟨by decide, fun _ => ⟨rfl, rfl, fun _ => rfl⟩⟩, fun _ => rfl⟩
theorem ckr0_12 : (fkd 0 12 ≤ 3 ∧ (fkd 0 12 = 3 → (TZ 0 12).2.2.2 = true ∧ (tyZ 0 12).isReference = true ∧ ∀ a, fits (tyZ 0 12) (.ref a) = true)) ∧ (2 ≤ fkd 0 12 → defaultValue (tyZ 0 12) = .null) := ⟨⟨by decide, fun _ => ⟨rfl, rfl, fun _ => rfl⟩⟩, fun _ => rfl⟩
theorem ckr0_13 : (fkd 0 13 ≤ 3 ∧ (fkd 0 13 = 3 → (TZ 0 13).2.2.2 = true ∧ (tyZ 0 13).isReference = true ∧ ∀ a, fits (tyZ 0 13) (.ref a) = true)) ∧ (2 ≤ fkd 0 13 → defaultValue (tyZ 0 13) = .null) := ⟨⟨by decide, fun _ => ⟨rfl, rfl, fun _ => rfl⟩⟩, fun _ => rfl⟩
theorem ckr0_14 : (fkd 0 14 ≤ 3 ∧ (fkd 0 14 = 3 → (TZ 0 14).2.2.2 = true ∧ (tyZ 0 14).isReference = true ∧ ∀ a, fits (tyZ 0 14) (.ref a) = true)) ∧ (2 ≤ fkd 0 14 → defaultValue (tyZ 0 14) = .null) := ⟨⟨by decide, fun _ => ⟨rfl, rfl, fun _ => rfl⟩⟩, fun _ => rfl⟩
theorem ckr0_15 : (fkd 0 15 ≤ 3 ∧ (fkd 0 15 = 3 → (TZ 0 15).2.2.2 = true ∧ (tyZ 0 15).isReference = true ∧ ∀ a, fits (tyZ 0 15) (.ref a) = true)) ∧ (2 ≤ fkd 0 15 → defaultValue (tyZ 0 15) = .null) := ⟨⟨by decide, fun _ => ⟨rfl, rfl, fun _ => rfl⟩⟩, fun _ => rfl⟩
theorem ckr0_16 : (fkd 0 16 ≤ 3 ∧ (fkd 0 16 = 3 → (TZ 0 16).2.2.2 = true ∧ (tyZ 0 16).isReference = true ∧ ∀ a, fits (tyZ 0 16) (.ref a) = true)) ∧ (2 ≤ fkd 0 16 → defaultValue (tyZ 0 16) = .null) := ⟨⟨by decide, fun h => absurd h (by decide)⟩, fun h => absurd h (by decide)⟩
theorem ckr0_17 : (fkd 0 17 ≤ 3 ∧ (fkd 0 17 = 3 → (TZ 0 17).2.2.2 = true ∧ (tyZ 0 17).isReference = true ∧ ∀ a, fits (tyZ 0 17) (.ref a) = true)) ∧ (2 ≤ fkd 0 17 → defaultValue (tyZ 0 17) = .null) := ⟨⟨by decide, fun h => absurd h (by decide)⟩, fun h => absurd h (by decide)⟩
theorem ckr0_18 : (fkd 0 18 ≤ 3 ∧ (fkd 0 18 = 3 → (TZ 0 18).2.2.2 = true ∧ (tyZ 0 18).isReference = true ∧ ∀ a, fits (tyZ 0 18) (.ref a) = true)) ∧ (2 ≤ fkd 0 18 → defaultValue (tyZ 0 18) = .null) := ⟨⟨by decide, fun h => absurd h (by decide)⟩, fun h => absurd h (by decide)⟩
theorem ckr0_19 : (fkd 0 19 ≤ 3 ∧ (fkd 0 19 = 3 → (TZ 0 19).2.2.2 = true ∧ (tyZ 0 19).isReference = true ∧ ∀ a, fits (tyZ 0 19) (.ref a) = true)) ∧ (2 ≤ fkd 0 19 → defaultValue (tyZ 0 19) = .null) := ⟨⟨by decide, fun _ => ⟨rfl, rfl, fun _ => rfl⟩⟩, fun _ => rfl⟩
theorem ckr0_20 : (fkd 0 20 ≤ 3 ∧ (fkd 0 20 = 3 → (TZ 0 20).2.2.2 = true ∧ (tyZ 0 20).isReference = true ∧ ∀ a, fits (tyZ 0 20) (.ref a) = true)) ∧ (2 ≤ fkd 0 20 → defaultValue (tyZ 0 20) = .null) := ⟨⟨by decide, fun _ => ⟨rfl, rfl, fun _ => rfl⟩⟩, fun _ => rfl⟩
theorem ckr0_21 : (fkd 0 21 ≤ 3 ∧ (fkd 0 21 = 3 → (TZ 0 21).2.2.2 = true ∧ (tyZ 0 21).isReference = true ∧ ∀ a, fits (tyZ 0 21) (.ref a) = true)) ∧ (2 ≤ fkd 0 21 → defaultValue (tyZ 0 21) = .null) := ⟨⟨by decide, fun _ => ⟨rfl, rfl, fun _ => rfl⟩⟩, fun _ => rfl⟩
theorem ckr0_22 : (fkd 0 22 ≤ 3 ∧ (fkd 0 22 = 3 → (TZ 0 22).2.2.2 = true ∧ (tyZ 0 22).isReference = true ∧ ∀ a, fits (tyZ 0 22) (.ref a) = true)) ∧ (2 ≤ fkd 0 22 → defaultValue (tyZ 0 22) = .null) := ⟨⟨by decide, fun _ => ⟨rfl, rfl, fun _ => rfl⟩⟩, fun _ => rfl⟩
theorem ckr0_23 : (fkd 0 23 ≤ 3 ∧ (fkd 0 23 = 3 → (TZ 0 23).2.2.2 = true ∧ (tyZ 0 23).isReference = true ∧ ∀ a, fits (tyZ 0 23) (.ref a) = true)) ∧ (2 ≤ fkd 0 23 → defaultValue (tyZ 0 23) = .null) := ⟨⟨by decide, fun _ => ⟨rfl, rfl, fun _ => rfl⟩⟩, fun _ => rfl⟩
theorem ckr0_24 : (fkd 0 24 ≤ 3 ∧ (fkd 0 24 = 3 → (TZ 0 24).2.2.2 = true ∧ (tyZ 0 24).isReference = true ∧ ∀ a, fits (tyZ 0 24) (.ref a) = true)) ∧ (2 ≤ fkd 0 24 → defaultValue (tyZ 0 24) = .null) := ⟨⟨by decide, fun _ => ⟨rfl, rfl, fun _ => rfl⟩⟩, fun _ => rfl⟩
theorem ckr0_25 : (fkd 0 25 ≤ 3 ∧ (fkd 0 25 = 3 → (TZ 0 25).2.2.2 = true ∧ (tyZ 0 25).isReference = true ∧ ∀ a, fits (tyZ 0 25) (.ref a) = true)) ∧ (2 ≤ fkd 0 25 → defaultValue (tyZ 0 25) = .null) := ⟨⟨by decide, fun _ => ⟨rfl, rfl, fun _ => rfl⟩⟩, fun _ => rfl⟩
theorem ckr0_26 : (fkd 0 26 ≤ 3 ∧ (fkd 0 26 = 3 → (TZ 0 26).2.2.2 = true ∧ (tyZ 0 26).isReference = true ∧ ∀ a, fits (tyZ 0 26) (.ref a) = true)) ∧ (2 ≤ fkd 0 26 → defaultValue (tyZ 0 26) = .null) := ⟨⟨by decide, fun _ => ⟨rfl, rfl, fun _ => rfl⟩⟩, fun _ => rfl⟩
theorem ckr0_27 : (fkd 0 27 ≤ 3 ∧ (fkd 0 27 = 3 → (TZ 0 27).2.2.2 = true ∧ (tyZ 0 27).isReference = true ∧ ∀ a, fits (tyZ 0 27) (.ref a) = true)) ∧ (2 ≤ fkd 0 27 → defaultValue (tyZ 0 27) = .null) := ⟨⟨by decide, fun _ => ⟨rfl, rfl, fun _ => rfl⟩⟩, fun _ => rfl⟩
theorem ckr0_28 : (fkd 0 28 ≤ 3 ∧ (fkd 0 28 = 3 → (TZ 0 28).2.2.2 = true ∧ (tyZ 0 28).isReference = true ∧ ∀ a, fits (tyZ 0 28) (.ref a) = true)) ∧ (2 ≤ fkd 0 28 → defaultValue (tyZ 0 28) = .null) := ⟨⟨by decide, fun _ => ⟨rfl, rfl, fun _ => rfl⟩⟩, fun _ => rfl⟩
theorem ckr0_29 : (fkd 0 29 ≤ 3 ∧ (fkd 0 29 = 3 → (TZ 0 29).2.2.2 = true ∧ (tyZ 0 29).isReference = true ∧ ∀ a, fits (tyZ 0 29) (.ref a) = true)) ∧ (2 ≤ fkd 0 29 → defaultValue (tyZ 0 29) = .null) := ⟨⟨by decide, fun _ => ⟨rfl, rfl, fun _ => rfl⟩⟩, fun _ => rfl⟩
theorem ckr0_30 : (fkd 0 30 ≤ 3 ∧ (fkd 0 30 = 3 → (TZ 0 30).2.2.2 = true ∧ (tyZ 0 30).isReference = true ∧ ∀ a, fits (tyZ 0 30) (.ref a) = true)) ∧ (2 ≤ fkd 0 30 → defaultValue (tyZ 0 30) = .null) := ⟨⟨by decide, fun _ => ⟨rfl, rfl, fun _ => rfl⟩⟩, fun _ => rfl⟩
theorem ckr0_31 : (fkd 0 31 ≤ 3 ∧ (fkd 0 31 = 3 → (TZ 0 31).2.2.2 = true ∧ (tyZ 0 31).isReference = true ∧ ∀ a, fits (tyZ 0 31) (.ref a) = true)) ∧ (2 ≤ fkd 0 31 → defaultValue (tyZ 0 31) = .null) := ⟨⟨by decide, fun _ => ⟨rfl, rfl, fun _ => rfl⟩⟩, fun _ => rfl⟩
theorem ckr0_32 : (fkd 0 32 ≤ 3 ∧ (fkd 0 32 = 3 → (TZ 0 32).2.2.2 = true ∧ (tyZ 0 32).isReference = true ∧ ∀ a, fits (tyZ 0 32) (.ref a) = true)) ∧ (2 ≤ fkd 0 32 → defaultValue (tyZ 0 32) = .null) := ⟨⟨by decide, fun h => absurd h (by decide)⟩, fun h => absurd h (by decide)⟩
theorem ckr0_33 : (fkd 0 33 ≤ 3 ∧ (fkd 0 33 = 3 → (TZ 0 33).2.2.2 = true ∧ (tyZ 0 33).isReference = true ∧ ∀ a, fits (tyZ 0 33) (.ref a) = true)) ∧ (2 ≤ fkd 0 33 → defaultValue (tyZ 0 33) = .null) := ⟨⟨by decide, fun _ => ⟨rfl, rfl, fun _ => rfl⟩⟩, fun _ => rfl⟩
theorem ckr0_34 : (fkd 0 34 ≤ 3 ∧ (fkd 0 34 = 3 → (TZ 0 34).2.2.2 = true ∧ (tyZ 0 34).isReference = true ∧ ∀ a, fits (tyZ 0 34) (.ref a) = true)) ∧ (2 ≤ fkd 0 34 → defaultValue (tyZ 0 34) = .null) := ⟨⟨by decide, fun _ => ⟨rfl, rfl, fun _ => rfl⟩⟩, fun _ => rfl⟩
theorem ckr0_35 : (fkd 0 35 ≤ 3 ∧ (fkd 0 35 = 3 → (TZ 0 35).2.2.2 = true ∧ (tyZ 0 35).isReference = true ∧ ∀ a, fits (tyZ 0 35) (.ref a) = true)) ∧ (2 ≤ fkd 0 35 → defaultValue (tyZ 0 35) = .null) := ⟨⟨by decide, fun _ => ⟨rfl, rfl, fun _ => rfl⟩⟩, fun _ => rfl⟩
theorem ckr0_36 : (fkd 0 36 ≤ 3 ∧ (fkd 0 36 = 3 → (TZ 0 36).2.2.2 = true ∧ (tyZ 0 36).isReference = true ∧ ∀ a, fits (tyZ 0 36) (.ref a) = true)) ∧ (2 ≤ fkd 0 36 → defaultValue (tyZ 0 36) = .null) := ⟨⟨by decide, fun _ => ⟨rfl, rfl, fun _ => rfl⟩⟩, fun _ => rfl⟩
theorem ckr0_37 : (fkd 0 37 ≤ 3 ∧ (fkd 0 37 = 3 → (TZ 0 37).2.2.2 = true ∧ (tyZ 0 37).isReference = true ∧ ∀ a, fits (tyZ 0 37) (.ref a) = true)) ∧ (2 ≤ fkd 0 37 → defaultValue (tyZ 0 37) = .null) := ⟨⟨by decide, fun _ => ⟨rfl, rfl, fun _ => rfl⟩⟩, fun _ => rfl⟩
theorem ckr0_38 : (fkd 0 38 ≤ 3 ∧ (fkd 0 38 = 3 → (TZ 0 38).2.2.2 = true ∧ (tyZ 0 38).isReference = true ∧ ∀ a, fits (tyZ 0 38) (.ref a) = true)) ∧ (2 ≤ fkd 0 38 → defaultValue (tyZ 0 38) = .null) := ⟨⟨by decide, fun _ => ⟨rfl, rfl, fun _ => rfl⟩⟩, fun _ => rfl⟩
theorem ckr0_39 : (fkd 0 39 ≤ 3 ∧ (fkd 0 39 = 3 → (TZ 0 39).2.2.2 = true ∧ (tyZ 0 39).isReference = true ∧ ∀ a, fits (tyZ 0 39) (.ref a) = true)) ∧ (2 ≤ fkd 0 39 → defaultValue (tyZ 0 39) = .null) := ⟨⟨by decide, fun _ => ⟨rfl, rfl, fun _ => rfl⟩⟩, fun _ => rfl⟩
theorem ckr0_40 : (fkd 0 40 ≤ 3 ∧ (fkd 0 40 = 3 → (TZ 0 40).2.2.2 = true ∧ (tyZ 0 40).isReference = true ∧ ∀ a, fits (tyZ 0 40) (.ref a) = true)) ∧ (2 ≤ fkd 0 40 → defaultValue (tyZ 0 40) = .null) := ⟨⟨by decide, fun h => absurd h (by decide)⟩, fun h => absurd h (by decide)⟩
theorem ckr0_41 : (fkd 0 41 ≤ 3 ∧ (fkd 0 41 = 3 → (TZ 0 41).2.2.2 = true ∧ (tyZ 0 41).isReference = true ∧ ∀ a, fits (tyZ 0 41) (.ref a) = true)) ∧ (2 ≤ fkd 0 41 → defaultValue (tyZ 0 41) = .null) := ⟨⟨by decide, fun _ => ⟨rfl, rfl, fun _ => rfl⟩⟩, fun _ => rfl⟩
theorem ckr0_42 : (fkd 0 42 ≤ 3 ∧ (fkd 0 42 = 3 → (TZ 0 42).2.2.2 = true ∧ (tyZ 0 42).isReference = true ∧ ∀ a, fits (tyZ 0 42) (.ref a) = true)) ∧ (2 ≤ fkd 0 42 → defaultValue (tyZ 0 42) = .null) := ⟨⟨by decide, fun _ => ⟨rfl, rfl, fun _ => rfl⟩⟩, fun _ => rfl⟩
theorem ckr0_43 : (fkd 0 43 ≤ 3 ∧ (fkd 0 43 = 3 → (TZ 0 43).2.2.2 = true ∧ (tyZ 0 43).isReference = true ∧ ∀ a, fits (tyZ 0 43) (.ref a) = true)) ∧ (2 ≤ fkd 0 43 → defaultValue (tyZ 0 43) = .null) := ⟨⟨by decide, fun _ => ⟨rfl, rfl, fun _ => rfl⟩⟩, fun _ => rfl⟩
theorem ckr0_44 : (fkd 0 44 ≤ 3 ∧ (fkd 0 44 = 3 → (TZ 0 44).2.2.2 = true ∧ (tyZ 0 44).isReference = true ∧ ∀ a, fits (tyZ 0 44) (.ref a) = true)) ∧ (2 ≤ fkd 0 44 → defaultValue (tyZ 0 44) = .null) := ⟨⟨by decide, fun _ => ⟨rfl, rfl, fun _ => rfl⟩⟩, fun _ => rfl⟩
theorem ckr0_45 : (fkd 0 45 ≤ 3 ∧ (fkd 0 45 = 3 → (TZ 0 45).2.2.2 = true ∧ (tyZ 0 45).isReference = true ∧ ∀ a, fits (tyZ 0 45) (.ref a) = true)) ∧ (2 ≤ fkd 0 45 → defaultValue (tyZ 0 45) = .null) := ⟨⟨by decide, fun _ => ⟨rfl, rfl, fun _ => rfl⟩⟩, fun _ => rfl⟩
theorem ckr0_46 : (fkd 0 46 ≤ 3 ∧ (fkd 0 46 = 3 → (TZ 0 46).2.2.2 = true ∧ (tyZ 0 46).isReference = true ∧ ∀ a, fits (tyZ 0 46) (.ref a) = true)) ∧ (2 ≤ fkd 0 46 → defaultValue (tyZ 0 46) = .null) := ⟨⟨by decide, fun _ => ⟨rfl, rfl, fun _ => rfl⟩⟩, fun _ => rfl⟩
theorem ckr0_47 : (fkd 0 47 ≤ 3 ∧ (fkd 0 47 = 3 → (TZ 0 47).2.2.2 = true ∧ (tyZ 0 47).isReference = true ∧ ∀ a, fits (tyZ 0 47) (.ref a) = true)) ∧ (2 ≤ fkd 0 47 → defaultValue (tyZ 0 47) = .null) := ⟨⟨by decide, fun _ => ⟨rfl, rfl, fun _ => rfl⟩⟩, fun _ => rfl⟩
theorem ckr0_48 : (fkd 0 48 ≤ 3 ∧ (fkd 0 48 = 3 → (TZ 0 48).2.2.2 = true ∧ (tyZ 0 48).isReference = true ∧ ∀ a, fits (tyZ 0 48) (.ref a) = true)) ∧ (2 ≤ fkd 0 48 → defaultValue (tyZ 0 48) = .null) := ⟨⟨by decide, fun _ => ⟨rfl, rfl, fun _ => rfl⟩⟩, fun _ => rfl⟩
theorem ckr0_49 : (fkd 0 49 ≤ 3 ∧ (fkd 0 49 = 3 → (TZ 0 49).2.2.2 = true ∧ (tyZ 0 49).isReference = true ∧ ∀ a, fits (tyZ 0 49) (.ref a) = true)) ∧ (2 ≤ fkd 0 49 → defaultValue (tyZ 0 49) = .null) := ⟨⟨by decide, fun _ => ⟨rfl, rfl, fun _ => rfl⟩⟩, fun _ => rfl⟩
theorem ckr0_50 : (fkd 0 50 ≤ 3 ∧ (fkd 0 50 = 3 → (TZ 0 50).2.2.2 = true ∧ (tyZ 0 50).isReference = true ∧ ∀ a, fits (tyZ 0 50) (.ref a) = true)) ∧ (2 ≤ fkd 0 50 → defaultValue (tyZ 0 50) = .null) := ⟨⟨by decide, fun h => absurd h (by decide)⟩, fun h => absurd h (by decide)⟩
theorem ckr0_51 : (fkd 0 51 ≤ 3 ∧ (fkd 0 51 = 3 → (TZ 0 51).2.2.2 = true ∧ (tyZ 0 51).isReference = true ∧ ∀ a, fits (tyZ 0 51) (.ref a) = true)) ∧ (2 ≤ fkd 0 51 → defaultValue (tyZ 0 51) = .null) := ⟨⟨by decide, fun h => absurd h (by decide)⟩, fun h => absurd h (by decide)⟩
theorem ckr0_52 : (fkd 0 52 ≤ 3 ∧ (fkd 0 52 = 3 → (TZ 0 52).2.2.2 = true ∧ (tyZ 0 52).isReference = true ∧ ∀ a, fits (tyZ 0 52) (.ref a) = true)) ∧ (2 ≤ fkd 0 52 → defaultValue (tyZ 0 52) = .null) := ⟨⟨by decide, fun h => absurd h (by decide)⟩, fun h => absurd h (by decide)⟩
theorem ckr0_53 : (fkd 0 53 ≤ 3 ∧ (fkd 0 53 = 3 → (TZ 0 53).2.2.2 = true ∧ (tyZ 0 53).isReference = true ∧ ∀ a, fits (tyZ 0 53) (.ref a) = true)) ∧ (2 ≤ fkd 0 53 → defaultValue (tyZ 0 53) = .null) := ⟨⟨by decide, fun h => absurd h (by decide)⟩, fun h => absurd h (by decide)⟩
theorem ckr0_54 : (fkd 0 54 ≤ 3 ∧ (fkd 0 54 = 3 → (TZ 0 54).2.2.2 = true ∧ (tyZ 0 54).isReference = true ∧ ∀ a, fits (tyZ 0 54) (.ref a) = true)) ∧ (2 ≤ fkd 0 54 → defaultValue (tyZ 0 54) = .null) := ⟨⟨by decide, fun _ => ⟨rfl, rfl, fun _ => rfl⟩⟩, fun _ => rfl⟩
theorem ckr0_55 : (fkd 0 55 ≤ 3 ∧ (fkd 0 55 = 3 → (TZ 0 55).2.2.2 = true ∧ (tyZ 0 55).isReference = true ∧ ∀ a, fits (tyZ 0 55) (.ref a) = true)) ∧ (2 ≤ fkd 0 55 → defaultValue (tyZ 0 55) = .null) := ⟨⟨by decide, fun _ => ⟨rfl, rfl, fun _ => rfl⟩⟩, fun _ => rfl⟩
theorem ckr0_56 : (fkd 0 56 ≤ 3 ∧ (fkd 0 56 = 3 → (TZ 0 56).2.2.2 = true ∧ (tyZ 0 56).isReference = true ∧ ∀ a, fits (tyZ 0 56) (.ref a) = true)) ∧ (2 ≤ fkd 0 56 → defaultValue (tyZ 0 56) = .null) := ⟨⟨by decide, fun _ => ⟨rfl, rfl, fun _ => rfl⟩⟩, fun _ => rfl⟩
theorem ckr0_57 : (fkd 0 57 ≤ 3 ∧ (fkd 0 57 = 3 → (TZ 0 57).2.2.2 = true ∧ (tyZ 0 57).isReference = true ∧ ∀ a, fits (tyZ 0 57) (.ref a) = true)) ∧ (2 ≤ fkd 0 57 → defaultValue (tyZ 0 57) = .null) := ⟨⟨by decide, fun h => absurd h (by decide)⟩, fun h => absurd h (by decide)⟩
theorem ckr0_58 : (fkd 0 58 ≤ 3 ∧ (fkd 0 58 = 3 → (TZ 0 58).2.2.2 = true ∧ (tyZ 0 58).isReference = true ∧ ∀ a, fits (tyZ 0 58) (.ref a) = true)) ∧ (2 ≤ fkd 0 58 → defaultValue (tyZ 0 58) = .null) := ⟨⟨by decide, fun h => absurd h (by decide)⟩, fun h => absurd h (by decide)⟩
theorem ckr0_59 : (fkd 0 59 ≤ 3 ∧ (fkd 0 59 = 3 → (TZ 0 59).2.2.2 = true ∧ (tyZ 0 59).isReference = true ∧ ∀ a, fits (tyZ 0 59) (.ref a) = true)) ∧ (2 ≤ fkd 0 59 → defaultValue (tyZ 0 59) = .null) := ⟨⟨by decide, fun _ => ⟨rfl, rfl, fun _ => rfl⟩⟩, fun _ => rfl⟩
theorem ckr0_60 : (fkd 0 60 ≤ 3 ∧ (fkd 0 60 = 3 → (TZ 0 60).2.2.2 = true ∧ (tyZ 0 60).isReference = true ∧ ∀ a, fits (tyZ 0 60) (.ref a) = true)) ∧ (2 ≤ fkd 0 60 → defaultValue (tyZ 0 60) = .null) := ⟨⟨by decide, fun _ => ⟨rfl, rfl, fun _ => rfl⟩⟩, fun _ => rfl⟩
theorem ckr0_61 : (fkd 0 61 ≤ 3 ∧ (fkd 0 61 = 3 → (TZ 0 61).2.2.2 = true ∧ (tyZ 0 61).isReference = true ∧ ∀ a, fits (tyZ 0 61) (.ref a) = true)) ∧ (2 ≤ fkd 0 61 → defaultValue (tyZ 0 61) = .null) := ⟨⟨by decide, fun _ => ⟨rfl, rfl, fun _ => rfl⟩⟩, fun _ => rfl⟩
theorem ckr0_62 : (fkd 0 62 ≤ 3 ∧ (fkd 0 62 = 3 → (TZ 0 62).2.2.2 = true ∧ (tyZ 0 62).isReference = true ∧ ∀ a, fits (tyZ 0 62) (.ref a) = true)) ∧ (2 ≤ fkd 0 62 → defaultValue (tyZ 0 62) = .null) := ⟨⟨by decide, fun _ => ⟨rfl, rfl, fun _ => rfl⟩⟩, fun _ => rfl⟩
theorem ckr0_63 : (fkd 0 63 ≤ 3 ∧ (fkd 0 63 = 3 → (TZ 0 63).2.2.2 = true ∧ (tyZ 0 63).isReference = true ∧ ∀ a, fits (tyZ 0 63) (.ref a) = true)) ∧ (2 ≤ fkd 0 63 → defaultValue (tyZ 0 63) = .null) := ⟨⟨by decide, fun _ => ⟨rfl, rfl, fun _ => rfl⟩⟩, fun _ => rfl⟩
theorem ckr0_64 : (fkd 0 64 ≤ 3 ∧ (fkd 0 64 = 3 → (TZ 0 64).2.2.2 = true ∧ (tyZ 0 64).isReference = true ∧ ∀ a, fits (tyZ 0 64) (.ref a) = true)) ∧ (2 ≤ fkd 0 64 → defaultValue (tyZ 0 64) = .null) := ⟨⟨by decide, fun _ => ⟨rfl, rfl, fun _ => rfl⟩⟩, fun _ => rfl⟩
theorem ckr0_65 : (fkd 0 65 ≤ 3 ∧ (fkd 0 65 = 3 → (TZ 0 65).2.2.2 = true ∧ (tyZ 0 65).isReference = true ∧ ∀ a, fits (tyZ 0 65) (.ref a) = true)) ∧ (2 ≤ fkd 0 65 → defaultValue (tyZ 0 65) = .null) := ⟨⟨by decide, fun _ => ⟨rfl, rfl, fun _ => rfl⟩⟩, fun _ => rfl⟩
theorem ckr0_66 : (fkd 0 66 ≤ 3 ∧ (fkd 0 66 = 3 → (TZ 0 66).2.2.2 = true ∧ (tyZ 0 66).isReference = true ∧ ∀ a, fits (tyZ 0 66) (.ref a) = true)) ∧ (2 ≤ fkd 0 66 → defaultValue (tyZ 0 66) = .null) := ⟨⟨by decide, fun _ => ⟨rfl, rfl, fun _ => rfl⟩⟩, fun _ => rfl⟩
theorem ckr0_67 : (fkd 0 67 ≤ 3 ∧ (fkd 0 67 = 3 → (TZ 0 67).2.2.2 = true ∧ (tyZ 0 67).isReference = true ∧ ∀ a, fits (tyZ 0 67) (.ref a) = true)) ∧ (2 ≤ fkd 0 67 → defaultValue (tyZ 0 67) = .null) := ⟨⟨by decide, fun _ => ⟨rfl, rfl, fun _ => rfl⟩⟩, fun _ => rfl⟩
theorem ckr0_68 : (fkd 0 68 ≤ 3 ∧ (fkd 0 68 = 3 → (TZ 0 68).2.2.2 = true ∧ (tyZ 0 68).isReference = true ∧ ∀ a, fits (tyZ 0 68) (.ref a) = true)) ∧ (2 ≤ fkd 0 68 → defaultValue (tyZ 0 68) = .null) := ⟨⟨by decide, fun _ => ⟨rfl, rfl, fun _ => rfl⟩⟩, fun _ => rfl⟩
theorem ckr0_69 : (fkd 0 69 ≤ 3 ∧ (fkd 0 69 = 3 → (TZ 0 69).2.2.2 = true ∧ (tyZ 0 69).isReference = true ∧ ∀ a, fits (tyZ 0 69) (.ref a) = true)) ∧ (2 ≤ fkd 0 69 → defaultValue (tyZ 0 69) = .null) := ⟨⟨by decide, fun _ => ⟨rfl, rfl, fun _ => rfl⟩⟩, fun _ => rfl⟩
theorem ckr0_70 : (fkd 0 70 ≤ 3 ∧ (fkd 0 70 = 3 → (TZ 0 70).2.2.2 = true ∧ (tyZ 0 70).isReference = true ∧ ∀ a, fits (tyZ 0 70) (.ref a) = true)) ∧ (2 ≤ fkd 0 70 → defaultValue (tyZ 0 70) = .null) := ⟨⟨by decide, fun _ => ⟨rfl, rfl, fun _ => rfl⟩⟩, fun _ => rfl⟩
theorem ckr0_71 : (fkd 0 71 ≤ 3 ∧ (fkd 0 71 = 3 → (TZ 0 71).2.2.2 = true ∧ (tyZ 0 71).isReference = true ∧ ∀ a, fits (tyZ 0 71) (.ref a) = true)) ∧ (2 ≤ fkd 0 71 → defaultValue (tyZ 0 71) = .null) := ⟨⟨by decide, fun h => absurd h (by decide)⟩, fun h => absurd h (by decide)⟩
theorem ckr0_72 : (fkd 0 72 ≤ 3 ∧ (fkd 0 72 = 3 → (TZ 0 72).2.2.2 = true ∧ (tyZ 0 72).isReference = true ∧ ∀ a, fits (tyZ 0 72) (.ref a) = true)) ∧ (2 ≤ fkd 0 72 → defaultValue (tyZ 0 72) = .null) := ⟨⟨by decide, fun h => absurd h (by decide)⟩, fun h => absurd h (by decide)⟩
theorem ckr0_73 : (fkd 0 73 ≤ 3 ∧ (fkd 0 73 = 3 → (TZ 0 73).2.2.2 = true ∧ (tyZ 0 73).isReference = true ∧ ∀ a, fits (tyZ 0 73) (.ref a) = true)) ∧ (2 ≤ fkd 0 73 → defaultValue (tyZ 0 73) = .null) := ⟨⟨by decide, fun h => absurd h (by decide)⟩, fun h => absurd h (by decide)⟩
theorem ckr0_74 : (fkd 0 74 ≤ 3 ∧ (fkd 0 74 = 3 → (TZ 0 74).2.2.2 = true ∧ (tyZ 0 74).isReference = true ∧ ∀ a, fits (tyZ 0 74) (.ref a) = true)) ∧ (2 ≤ fkd 0 74 → defaultValue (tyZ 0 74) = .null) := ⟨⟨by decide, fun h => absurd h (by decide)⟩, fun h => absurd h (by decide)⟩
theorem ckr0_75 : (fkd 0 75 ≤ 3 ∧ (fkd 0 75 = 3 → (TZ 0 75).2.2.2 = true ∧ (tyZ 0 75).isReference = true ∧ ∀ a, fits (tyZ 0 75) (.ref a) = true)) ∧ (2 ≤ fkd 0 75 → defaultValue (tyZ 0 75) = .null) := ⟨⟨by decide, fun h => absurd h (by decide)⟩, fun h => absurd h (by decide)⟩
theorem ckr0 : ∀ k, k < nfZ 0 → (fkd 0 k ≤ 3 ∧ (fkd 0 k = 3 → (TZ 0 k).2.2.2 = true ∧ (tyZ 0 k).isReference = true ∧ ∀ a, fits (tyZ 0 k) (.ref a) = true)) ∧ (2 ≤ fkd 0 k → defaultValue (tyZ 0 k) = .null) := lt_s (lt_s (lt_s (lt_s (lt_s (lt_s (lt_s (lt_s (lt_s (lt_s (lt_s (lt_s (lt_s (lt_s (lt_s (lt_s (lt_s (lt_s (lt_s (lt_s (lt_s (lt_s (lt_s (lt_s (lt_s (lt_s (lt_s (lt_s (lt_s (lt_s (lt_s (lt_s (lt_s (lt_s (lt_s (lt_s (lt_s (lt_s (lt_s (lt_s (lt_s (lt_s (lt_s (lt_s (lt_s (lt_s (lt_s (lt_s (lt_s (lt_s (lt_s (lt_s (lt_s (lt_s (lt_s (lt_s (lt_s (lt_s (lt_s (lt_s (lt_s (lt_s (lt_s (lt_s (lt_s (lt_s (lt_s (lt_s (lt_s (lt_s (lt_s (lt_s (lt_s (lt_s (lt_s (lt_s lt_0 ckr0_0) ckr0_1) ckr0_2) ckr0_3) ckr0_4) ckr0_5) ckr0_6) ckr0_7) ckr0_8) ckr0_9) ckr0_10) ckr0_11) ckr0_12) ckr0_13) ckr0_14) ckr0_15) ckr0_16) ckr0_17) ckr0_18) ckr0_19) ckr0_20) ckr0_21) ckr0_22) ckr0_23) ckr0_24) ckr0_25) ckr0_26) ckr0_27) ckr0_28) ckr0_29) ckr0_30) ckr0_31) ckr0_32) ckr0_33) ckr0_34) ckr0_35) ckr0_36) ckr0_37) ckr0_38) ckr0_39) ckr0_40) ckr0_41) ckr0_42) ckr0_43) ckr0_44) ckr0_45) ckr0_46) ckr0_47) ckr0_48) ckr0_49) ckr0_50) ckr0_51) ckr0_52) ckr0_53) ckr0_54) ckr0_55) ckr0_56) ckr0_57) ckr0_58) ckr0_59) ckr0_60) ckr0_61) ckr0_62) ckr0_63) ckr0_64) ckr0_65) ckr0_66) ckr0_67) ckr0_68) ckr0_69) ckr0_70) ckr0_71) ckr0_72) ckr0_73) ckr0_74) ckr0_75
theorem ckr1_0 : (fkd 1 0 ≤ 3 ∧ (fkd 1 0 = 3 → (TZ 1 0).2.2.2 = true ∧ (tyZ 1 0).isReference = true ∧ ∀ a, fits (tyZ 1 0) (.ref a) = true)) ∧ (2 ≤ fkd 1 0 → defaultValue (tyZ 1 0) = .null) := ⟨⟨by decide, fun _ => ⟨rfl, rfl, fun _ => rfl⟩⟩, fun _ => rfl⟩
theorem ckr1_1 : (fkd 1 1 ≤ 3 ∧ (fkd 1 1 = 3 → (TZ 1 1).2.2.2 = true ∧ (tyZ 1 1).isReference = true ∧ ∀ a, fits (tyZ 1 1) (.ref a) = true)) ∧ (2 ≤ fkd 1 1 → defaultValue (tyZ 1 1) = .null) := ⟨⟨by decide, fun h => absurd h (by decide)⟩, fun h => absurd h (by decide)⟩
theorem ckr1_2 : (fkd 1 2 ≤ 3 ∧ (fkd 1 2 = 3 → (TZ 1 2).2.2.2 = true ∧ (tyZ 1 2).isReference = true ∧ ∀ a, fits (tyZ 1 2) (.ref a) = true)) ∧ (2 ≤ fkd 1 2 → defaultValue (tyZ 1 2) = .null) := ⟨⟨by decide, fun h => absurd h (by decide)⟩, fun h => absurd h (by decide)⟩
theorem ckr1_3 : (fkd 1 3 ≤ 3 ∧ (fkd 1 3 = 3 → (TZ 1 3).2.2.2 = true ∧ (tyZ 1 3).isReference = true ∧ ∀ a, fits (tyZ 1 3) (.ref a) = true)) ∧ (2 ≤ fkd 1 3 → defaultValue (tyZ 1 3) = .null) := ⟨⟨by decide, fun h => absurd h (by decide)⟩, fun h => absurd h (by decide)⟩
theorem ckr1_4 : (fkd 1 4 ≤ 3 ∧ (fkd 1 4 = 3 → (TZ 1 4).2.2.2 = true ∧ (tyZ 1 4).isReference = true ∧ ∀ a, fits (tyZ 1 4) (.ref a) = true)) ∧ (2 ≤ fkd 1 4 → defaultValue (tyZ 1 4) = .null) := ⟨⟨by decide, fun h => absurd h (by decide)⟩, fun _ => rfl⟩
theorem ckr1_5 : (fkd 1 5 ≤ 3 ∧ (fkd 1 5 = 3 → (TZ 1 5).2.2.2 = true ∧ (tyZ 1 5).isReference = true ∧ ∀ a, fits (tyZ 1 5) (.ref a) = true)) ∧ (2 ≤ fkd 1 5 → defaultValue (tyZ 1 5) = .null) := ⟨⟨by decide, fun h => absurd h (by decide)⟩, fun _ => rfl⟩
theorem ckr1_6 : (fkd 1 6 ≤ 3 ∧ (fkd 1 6 = 3 → (TZ 1 6).2.2.2 = true ∧ (tyZ 1 6).isReference = true ∧ ∀ a, fits (tyZ 1 6) (.ref a) = true)) ∧ (2 ≤ fkd 1 6 → defaultValue (tyZ 1 6) = .null) := ⟨⟨by decide, fun _ => ⟨rfl, rfl, fun _ => rfl⟩⟩, fun _ => rfl⟩
theorem ckr1_7 : (fkd 1 7 ≤ 3 ∧ (fkd 1 7 = 3 → (TZ 1 7).2.2.2 = true ∧ (tyZ 1 7).isReference = true ∧ ∀ a, fits (tyZ 1 7) (.ref a) = true)) ∧ (2 ≤ fkd 1 7 → defaultValue (tyZ 1 7) = .null) := ⟨⟨by decide, fun _ => ⟨rfl, rfl, fun _ => rfl⟩⟩, fun _ => rfl⟩
theorem ckr1_8 : (fkd 1 8 ≤ 3 ∧ (fkd 1 8 = 3 → (TZ 1 8).2.2.2 = true ∧ (tyZ 1 8).isReference = true ∧ ∀ a, fits (tyZ 1 8) (.ref a) = true)) ∧ (2 ≤ fkd 1 8 → defaultValue (tyZ 1 8) = .null) := ⟨⟨by decide, fun _ => ⟨rfl, rfl, fun _ => rfl⟩⟩, fun _ => rfl⟩
theorem ckr1_9 : (fkd 1 9 ≤ 3 ∧ (fkd 1 9 = 3 → (TZ 1 9).2.2.2 = true ∧ (tyZ 1 9).isReference = true ∧ ∀ a, fits (tyZ 1 9) (.ref a) = true)) ∧ (2 ≤ fkd 1 9 → defaultValue (tyZ 1 9) = .null) := ⟨⟨by decide, fun _ => ⟨rfl, rfl, fun _ => rfl⟩⟩, fun _ => rfl⟩
theorem ckr1_10 : (fkd 1 10 ≤ 3 ∧ (fkd 1 10 = 3 → (TZ 1 10).2.2.2 = true ∧ (tyZ 1 10).isReference = true ∧ ∀ a, fits (tyZ 1 10) (.ref a) = true)) ∧ (2 ≤ fkd 1 10 → defaultValue (tyZ 1 10) = .null) := ⟨⟨by decide, fun _ => ⟨rfl, rfl, fun _ => rfl⟩⟩, fun _ => rfl⟩
theorem ckr1 : ∀ k, k < nfZ 1 → (fkd 1 k ≤ 3 ∧ (fkd 1 k = 3 → (TZ 1 k).2.2.2 = true ∧ (tyZ 1 k).isReference = true ∧ ∀ a, fits (tyZ 1 k) (.ref a) = true)) ∧ (2 ≤ fkd 1 k → defaultValue (tyZ 1 k) = .null) := lt_s (lt_s (lt_s (lt_s (lt_s (lt_s (lt_s (lt_s (lt_s (lt_s (lt_s lt_0 ckr1_0) ckr1_1) ckr1_2) ckr1_3) ckr1_4) ckr1_5) ckr1_6) ckr1_7) ckr1_8) ckr1_9) ckr1_10
theorem ckr2_0 : (fkd 2 0 ≤ 3 ∧ (fkd 2 0 = 3 → (TZ 2 0).2.2.2 = true ∧ (tyZ 2 0).isReference = true ∧ ∀ a, fits (tyZ 2 0) (.ref a) = true)) ∧ (2 ≤ fkd 2 0 → defaultValue (tyZ 2 0) = .null) := ⟨⟨by decide, fun _ => ⟨rfl, rfl, fun _ => rfl⟩⟩, fun _ => rfl⟩
theorem ckr2_1 : (fkd 2 1 ≤ 3 ∧ (fkd 2 1 = 3 → (TZ 2 1).2.2.2 = true ∧ (tyZ 2 1).isReference = true ∧ ∀ a, fits (tyZ 2 1) (.ref a) = true)) ∧ (2 ≤ fkd 2 1 → defaultValue (tyZ 2 1) = .null) := ⟨⟨by decide, fun _ => ⟨rfl, rfl, fun _ => rfl⟩⟩, fun _ => rfl⟩
theorem ckr2_2 : (fkd 2 2 ≤ 3 ∧ (fkd 2 2 = 3 → (TZ 2 2).2.2.2 = true ∧ (tyZ 2 2).isReference = true ∧ ∀ a, fits (tyZ 2 2) (.ref a) = true)) ∧ (2 ≤ fkd 2 2 → defaultValue (tyZ 2 2) = .null) := ⟨⟨by decide, fun _ => ⟨rfl, rfl, fun _ => rfl⟩⟩, fun _ => rfl⟩
theorem ckr2_3 : (fkd 2 3 ≤ 3 ∧ (fkd 2 3 = 3 → (TZ 2 3).2.2.2 = true ∧ (tyZ 2 3).isReference = true ∧ ∀ a, fits (tyZ 2 3) (.ref a) = true)) ∧ (2 ≤ fkd 2 3 → defaultValue (tyZ 2 3) = .null) := ⟨⟨by decide, fun _ => ⟨rfl, rfl, fun _ => rfl⟩⟩, fun _ => rfl⟩
theorem ckr2_4 : (fkd 2 4 ≤ 3 ∧ (fkd 2 4 = 3 → (TZ 2 4).2.2.2 = true ∧ (tyZ 2 4).isReference = true ∧ ∀ a, fits (tyZ 2 4) (.ref a) = true)) ∧ (2 ≤ fkd 2 4 → defaultValue (tyZ 2 4) = .null) := ⟨⟨by decide, fun _ => ⟨rfl, rfl, fun _ => rfl⟩⟩, fun _ => rfl⟩
theorem ckr2_5 : (fkd 2 5 ≤ 3 ∧ (fkd 2 5 = 3 → (TZ 2 5).2.2.2 = true ∧ (tyZ 2 5).isReference = true ∧ ∀ a, fits (tyZ 2 5) (.ref a) = true)) ∧ (2 ≤ fkd 2 5 → defaultValue (tyZ 2 5) = .null) := ⟨⟨by decide, fun h => absurd h (by decide)⟩, fun _ => rfl⟩
theorem ckr2_6 : (fkd 2 6 ≤ 3 ∧ (fkd 2 6 = 3 → (TZ 2 6).2.2.2 = true ∧ (tyZ 2 6).isReference = true ∧ ∀ a, fits (tyZ 2 6) (.ref a) = true)) ∧ (2 ≤ fkd 2 6 → defaultValue (tyZ 2 6) = .null) := ⟨⟨by decide, fun h => absurd h (by decide)⟩, fun _ => rfl⟩
theorem ckr2 : ∀ k, k < nfZ 2 → (fkd 2 k ≤ 3 ∧ (fkd 2 k = 3 → (TZ 2 k).2.2.2 = true ∧ (tyZ 2 k).isReference = true ∧ ∀ a, fits (tyZ 2 k) (.ref a) = true)) ∧ (2 ≤ fkd 2 k → defaultValue (tyZ 2 k) = .null) := lt_s (lt_s (lt_s (lt_s (lt_s (lt_s (lt_s lt_0 ckr2_0) ckr2_1) ckr2_2) ckr2_3) ckr2_4) ckr2_5) ckr2_6
theorem ckr3_0 : (fkd 3 0 ≤ 3 ∧ (fkd 3 0 = 3 → (TZ 3 0).2.2.2 = true ∧ (tyZ 3 0).isReference = true ∧ ∀ a, fits (tyZ 3 0) (.ref a) = true)) ∧ (2 ≤ fkd 3 0 → defaultValue (tyZ 3 0) = .null) := ⟨⟨by decide, fun _ => ⟨rfl, rfl, fun _ => rfl⟩⟩, fun _ => rfl⟩
theorem ckr3_1 : (fkd 3 1 ≤ 3 ∧ (fkd 3 1 = 3 → (TZ 3 1).2.2.2 = true ∧ (tyZ 3 1).isReference = true ∧ ∀ a, fits (tyZ 3 1) (.ref a) = true)) ∧ (2 ≤ fkd 3 1 → defaultValue (tyZ 3 1) = .null) := ⟨⟨by decide, fun _ => ⟨rfl, rfl, fun _ => rfl⟩⟩, fun _ => rfl⟩
theorem ckr3_2 : (fkd 3 2 ≤ 3 ∧ (fkd 3 2 = 3 → (TZ 3 2).2.2.2 = true ∧ (tyZ 3 2).isReference = true ∧ ∀ a, fits (tyZ 3 2) (.ref a) = true)) ∧ (2 ≤ fkd 3 2 → defaultValue (tyZ 3 2) = .null) := ⟨⟨by decide, fun h => absurd h (by decide)⟩, fun h => absurd h (by decide)⟩
theorem ckr3_3 : (fkd 3 3 ≤ 3 ∧ (fkd 3 3 = 3 → (TZ 3 3).2.2.2 = true ∧ (tyZ 3 3).isReference = true ∧ ∀ a, fits (tyZ 3 3) (.ref a) = true)) ∧ (2 ≤ fkd 3 3 → defaultValue (tyZ 3 3) = .null) := ⟨⟨by decide, fun _ => ⟨rfl, rfl, fun _ => rfl⟩⟩, fun _ => rfl⟩
theorem ckr3_4 : (fkd 3 4 ≤ 3 ∧ (fkd 3 4 = 3 → (TZ 3 4).2.2.2 = true ∧ (tyZ 3 4).isReference = true ∧ ∀ a, fits (tyZ 3 4) (.ref a) = true)) ∧ (2 ≤ fkd 3 4 → defaultValue (tyZ 3 4) = .null) := ⟨⟨by decide, fun _ => ⟨rfl, rfl, fun _ => rfl⟩⟩, fun _ => rfl⟩
theorem ckr3_5 : (fkd 3 5 ≤ 3 ∧ (fkd 3 5 = 3 → (TZ 3 5).2.2.2 = true ∧ (tyZ 3 5).isReference = true ∧ ∀ a, fits (tyZ 3 5) (.ref a) = true)) ∧ (2 ≤ fkd 3 5 → defaultValue (tyZ 3 5) = .null) := ⟨⟨by decide, fun _ => ⟨rfl, rfl, fun _ => rfl⟩⟩, fun _ => rfl⟩
theorem ckr3_6 : (fkd 3 6 ≤ 3 ∧ (fkd 3 6 = 3 → (TZ 3 6).2.2.2 = true ∧ (tyZ 3 6).isReference = true ∧ ∀ a, fits (tyZ 3 6) (.ref a) = true)) ∧ (2 ≤ fkd 3 6 → defaultValue (tyZ 3 6) = .null) := ⟨⟨by decide, fun h => absurd h (by decide)⟩, fun h => absurd h (by decide)⟩
theorem ckr3_7 : (fkd 3 7 ≤ 3 ∧ (fkd 3 7 = 3 → (TZ 3 7).2.2.2 = true ∧ (tyZ 3 7).isReference = true ∧ ∀ a, fits (tyZ 3 7) (.ref a) = true)) ∧ (2 ≤ fkd 3 7 → defaultValue (tyZ 3 7) = .null) := ⟨⟨by decide, fun _ => ⟨rfl, rfl, fun _ => rfl⟩⟩, fun _ => rfl⟩
theorem ckr3_8 : (fkd 3 8 ≤ 3 ∧ (fkd 3 8 = 3 → (TZ 3 8).2.2.2 = true ∧ (tyZ 3 8).isReference = true ∧ ∀ a, fits (tyZ 3 8) (.ref a) = true)) ∧ (2 ≤ fkd 3 8 → defaultValue (tyZ 3 8) = .null) := ⟨⟨by decide, fun _ => ⟨rfl, rfl, fun _ => rfl⟩⟩, fun _ => rfl⟩
theorem ckr3_9 : (fkd 3 9 ≤ 3 ∧ (fkd 3 9 = 3 → (TZ 3 9).2.2.2 = true ∧ (tyZ 3 9).isReference = true ∧ ∀ a, fits (tyZ 3 9) (.ref a) = true)) ∧ (2 ≤ fkd 3 9 → defaultValue (tyZ 3 9) = .null) := ⟨⟨by decide, fun _ => ⟨rfl, rfl, fun _ => rfl⟩⟩, fun _ => rfl⟩
theorem ckr3_10 : (fkd 3 10 ≤ 3 ∧ (fkd 3 10 = 3 → (TZ 3 10).2.2.2 = true ∧ (tyZ 3 10).isReference = true ∧ ∀ a, fits (tyZ 3 10) (.ref a) = true)) ∧ (2 ≤ fkd 3 10 → defaultValue (tyZ 3 10) = .null) := ⟨⟨by decide, fun h => absurd h (by decide)⟩, fun h => absurd h (by decide)⟩
theorem ckr3_11 : (fkd 3 11 ≤ 3 ∧ (fkd 3 11 = 3 → (TZ 3 11).2.2.2 = true ∧ (tyZ 3 11).isReference = true ∧ ∀ a, fits (tyZ 3 11) (.ref a) = true)) ∧ (2 ≤ fkd 3 11 → defaultValue (tyZ 3 11) = .null) := ⟨⟨by decide, fun _ => ⟨rfl, rfl, fun _ => rfl⟩⟩, fun _ => rfl⟩
theorem ckr3_12 : (fkd 3 12 ≤ 3 ∧ (fkd 3 12 = 3 → (TZ 3 12).2.2.2 = true ∧ (tyZ 3 12).isReference = true ∧ ∀ a, fits (tyZ 3 12) (.ref a) = true)) ∧ (2 ≤ fkd 3 12 → defaultValue (tyZ 3 12) = .null) := ⟨⟨by decide, fun _ => ⟨rfl, rfl, fun _ => rfl⟩⟩, fun _ => rfl⟩
theorem ckr3_13 : (fkd 3 13 ≤ 3 ∧ (fkd 3 13 = 3 → (TZ 3 13).2.2.2 = true ∧ (tyZ 3 13).isReference = true ∧ ∀ a, fits (tyZ 3 13) (.ref a) = true)) ∧ (2 ≤ fkd 3 13 → defaultValue (tyZ 3 13) = .null) := ⟨⟨by decide, fun _ => ⟨rfl, rfl, fun _ => rfl⟩⟩, fun _ => rfl⟩
theorem ckr3_14 : (fkd 3 14 ≤ 3 ∧ (fkd 3 14 = 3 → (TZ 3 14).2.2.2 = true ∧ (tyZ 3 14).isReference = true ∧ ∀ a, fits (tyZ 3 14) (.ref a) = true)) ∧ (2 ≤ fkd 3 14 → defaultValue (tyZ 3 14) = .null) := ⟨⟨by decide, fun _ => ⟨rfl, rfl, fun _ => rfl⟩⟩, fun _ => rfl⟩
theorem ckr3_15 : (fkd 3 15 ≤ 3 ∧ (fkd 3 15 = 3 → (TZ 3 15).2.2.2 = true ∧ (tyZ 3 15).isReference = true ∧ ∀ a, fits (tyZ 3 15) (.ref a) = true)) ∧ (2 ≤ fkd 3 15 → defaultValue (tyZ 3 15) = .null) := ⟨⟨by decide, fun h => absurd h (by decide)⟩, fun h => absurd h (by decide)⟩
theorem ckr3 : ∀ k, k < nfZ 3 → (fkd 3 k ≤ 3 ∧ (fkd 3 k = 3 → (TZ 3 k).2.2.2 = true ∧ (tyZ 3 k).isReference = true ∧ ∀ a, fits (tyZ 3 k) (.ref a) = true)) ∧ (2 ≤ fkd 3 k → defaultValue (tyZ 3 k) = .null) := lt_s (lt_s (lt_s (lt_s (lt_s (lt_s (lt_s (lt_s (lt_s (lt_s (lt_s (lt_s (lt_s (lt_s (lt_s (lt_s lt_0 ckr3_0) ckr3_1) ckr3_2) ckr3_3) ckr3_4) ckr3_5) ckr3_6) ckr3_7) ckr3_8) ckr3_9) ckr3_10) ckr3_11) ckr3_12) ckr3_13) ckr3_14) ckr3_15
theorem ckr4_0 : (fkd 4 0 ≤ 3 ∧ (fkd 4 0 = 3 → (TZ 4 0).2.2.2 = true ∧ (tyZ 4 0).isReference = true ∧ ∀ a, fits (tyZ 4 0) (.ref a) = true)) ∧ (2 ≤ fkd 4 0 → defaultValue (tyZ 4 0) = .null) := ⟨⟨by decide, fun _ => ⟨rfl, rfl, fun _ => rfl⟩⟩, fun _ => rfl⟩
theorem ckr4_1 : (fkd 4 1 ≤ 3 ∧ (fkd 4 1 = 3 → (TZ 4 1).2.2.2 = true ∧ (tyZ 4 1).isReference = true ∧ ∀ a, fits (tyZ 4 1) (.ref a) = true)) ∧ (2 ≤ fkd 4 1 → defaultValue (tyZ 4 1) = .null) := ⟨⟨by decide, fun _ => ⟨rfl, rfl, fun _ => rfl⟩⟩, fun _ => rfl⟩
theorem ckr4 : ∀ k, k < nfZ 4 → (fkd 4 k ≤ 3 ∧ (fkd 4 k = 3 → (TZ 4 k).2.2.2 = true ∧ (tyZ 4 k).isReference = true ∧ ∀ a, fits (tyZ 4 k) (.ref a) = true)) ∧ (2 ≤ fkd 4 k → defaultValue (tyZ 4 k) = .null) := lt_s (lt_s lt_0 ckr4_0) ckr4_1
theorem ckr5_0 : (fkd 5 0 ≤ 3 ∧ (fkd 5 0 = 3 → (TZ 5 0).2.2.2 = true ∧ (tyZ 5 0).isReference = true ∧ ∀ a, fits (tyZ 5 0) (.ref a) = true)) ∧ (2 ≤ fkd 5 0 → defaultValue (tyZ 5 0) = .null) := ⟨⟨by decide, fun _ => ⟨rfl, rfl, fun _ => rfl⟩⟩, fun _ => rfl⟩
theorem ckr5_1 : (fkd 5 1 ≤ 3 ∧ (fkd 5 1 = 3 → (TZ 5 1).2.2.2 = true ∧ (tyZ 5 1).isReference = true ∧ ∀ a, fits (tyZ 5 1) (.ref a) = true)) ∧ (2 ≤ fkd 5 1 → defaultValue (tyZ 5 1) = .null) := ⟨⟨by decide, fun _ => ⟨rfl, rfl, fun _ => rfl⟩⟩, fun _ => rfl⟩
theorem ckr5_2 : (fkd 5 2 ≤ 3 ∧ (fkd 5 2 = 3 → (TZ 5 2).2.2.2 = true ∧ (tyZ 5 2).isReference = true ∧ ∀ a, fits (tyZ 5 2) (.ref a) = true)) ∧ (2 ≤ fkd 5 2 → defaultValue (tyZ 5 2) = .null) := ⟨⟨by decide, fun _ => ⟨rfl, rfl, fun _ => rfl⟩⟩, fun _ => rfl⟩
theorem ckr5_3 : (fkd 5 3 ≤ 3 ∧ (fkd 5 3 = 3 → (TZ 5 3).2.2.2 = true ∧ (tyZ 5 3).isReference = true ∧ ∀ a, fits (tyZ 5 3) (.ref a) = true)) ∧ (2 ≤ fkd 5 3 → defaultValue (tyZ 5 3) = .null) := ⟨⟨by decide, fun _ => ⟨rfl, rfl, fun _ => rfl⟩⟩, fun _ => rfl⟩
theorem ckr5_4 : (fkd 5 4 ≤ 3 ∧ (fkd 5 4 = 3 → (TZ 5 4).2.2.2 = true ∧ (tyZ 5 4).isReference = true ∧ ∀ a, fits (tyZ 5 4) (.ref a) = true)) ∧ (2 ≤ fkd 5 4 → defaultValue (tyZ 5 4) = .null) := ⟨⟨by decide, fun _ => ⟨rfl, rfl, fun _ => rfl⟩⟩, fun _ => rfl⟩
theorem ckr5_5 : (fkd 5 5 ≤ 3 ∧ (fkd 5 5 = 3 → (TZ 5 5).2.2.2 = true ∧ (tyZ 5 5).isReference = true ∧ ∀ a, fits (tyZ 5 5) (.ref a) = true)) ∧ (2 ≤ fkd 5 5 → defaultValue (tyZ 5 5) = .null) := ⟨⟨by decide, fun _ => ⟨rfl, rfl, fun _ => rfl⟩⟩, fun _ => rfl⟩
theorem ckr5_6 : (fkd 5 6 ≤ 3 ∧ (fkd 5 6 = 3 → (TZ 5 6).2.2.2 = true ∧ (tyZ 5 6).isReference = true ∧ ∀ a, fits (tyZ 5 6) (.ref a) = true)) ∧ (2 ≤ fkd 5 6 → defaultValue (tyZ 5 6) = .null) := ⟨⟨by decide, fun _ => ⟨rfl, rfl, fun _ => rfl⟩⟩, fun _ => rfl⟩
theorem ckr5_7 : (fkd 5 7 ≤ 3 ∧ (fkd 5 7 = 3 → (TZ 5 7).2.2.2 = true ∧ (tyZ 5 7).isReference = true ∧ ∀ a, fits (tyZ 5 7) (.ref a) = true)) ∧ (2 ≤ fkd 5 7 → defaultValue (tyZ 5 7) = .null) := ⟨⟨by decide, fun _ => ⟨rfl, rfl, fun _ => rfl⟩⟩, fun _ => rfl⟩
theorem ckr5_8 : (fkd 5 8 ≤ 3 ∧ (fkd 5 8 = 3 → (TZ 5 8).2.2.2 = true ∧ (tyZ 5 8).isReference = true ∧ ∀ a, fits (tyZ 5 8) (.ref a) = true)) ∧ (2 ≤ fkd 5 8 → defaultValue (tyZ 5 8) = .null) := ⟨⟨by decide, fun _ => ⟨rfl, rfl, fun _ => rfl⟩⟩, fun _ => rfl⟩
theorem ckr5_9 : (fkd 5 9 ≤ 3 ∧ (fkd 5 9 = 3 → (TZ 5 9).2.2.2 = true ∧ (tyZ 5 9).isReference = true ∧ ∀ a, fits (tyZ 5 9) (.ref a) = true)) ∧ (2 ≤ fkd 5 9 → defaultValue (tyZ 5 9) = .null) := ⟨⟨by decide, fun h => absurd h (by decide)⟩, fun h => absurd h (by decide)⟩
theorem ckr5_10 : (fkd 5 10 ≤ 3 ∧ (fkd 5 10 = 3 → (TZ 5 10).2.2.2 = true ∧ (tyZ 5 10).isReference = true ∧ ∀ a, fits (tyZ 5 10) (.ref a) = true)) ∧ (2 ≤ fkd 5 10 → defaultValue (tyZ 5 10) = .null) := ⟨⟨by decide, fun h => absurd h (by decide)⟩, fun h => absurd h (by decide)⟩
theorem ckr5 : ∀ k, k < nfZ 5 → (fkd 5 k ≤ 3 ∧ (fkd 5 k = 3 → (TZ 5 k).2.2.2 = true ∧ (tyZ 5 k).isReference = true ∧ ∀ a, fits (tyZ 5 k) (.ref a) = true)) ∧ (2 ≤ fkd 5 k → defaultValue (tyZ 5 k) = .null) := lt_s (lt_s (lt_s (lt_s (lt_s (lt_s (lt_s (lt_s (lt_s (lt_s (lt_s lt_0 ckr5_0) ckr5_1) ckr5_2) ckr5_3) ckr5_4) ckr5_5) ckr5_6) ckr5_7) ckr5_8) ckr5_9) ckr5_10
theorem ckr6_0 : (fkd 6 0 ≤ 3 ∧ (fkd 6 0 = 3 → (TZ 6 0).2.2.2 = true ∧ (tyZ 6 0).isReference = true ∧ ∀ a, fits (tyZ 6 0) (.ref a) = true)) ∧ (2 ≤ fkd 6 0 → defaultValue (tyZ 6 0) = .null) := ⟨⟨by decide, fun _ => ⟨rfl, rfl, fun _ => rfl⟩⟩, fun _ => rfl⟩
theorem ckr6_1 : (fkd 6 1 ≤ 3 ∧ (fkd 6 1 = 3 → (TZ 6 1).2.2.2 = true ∧ (tyZ 6 1).isReference = true ∧ ∀ a, fits (tyZ 6 1) (.ref a) = true)) ∧ (2 ≤ fkd 6 1 → defaultValue (tyZ 6 1) = .null) := ⟨⟨by decide, fun _ => ⟨rfl, rfl, fun _ => rfl⟩⟩, fun _ => rfl⟩
theorem ckr6_2 : (fkd 6 2 ≤ 3 ∧ (fkd 6 2 = 3 → (TZ 6 2).2.2.2 = true ∧ (tyZ 6 2).isReference = true ∧ ∀ a, fits (tyZ 6 2) (.ref a) = true)) ∧ (2 ≤ fkd 6 2 → defaultValue (tyZ 6 2) = .null) := ⟨⟨by decide, fun _ => ⟨rfl, rfl, fun _ => rfl⟩⟩, fun _ => rfl⟩
theorem ckr6_3 : (fkd 6 3 ≤ 3 ∧ (fkd 6 3 = 3 → (TZ 6 3).2.2.2 = true ∧ (tyZ 6 3).isReference = true ∧ ∀ a, fits (tyZ 6 3) (.ref a) = true)) ∧ (2 ≤ fkd 6 3 → defaultValue (tyZ 6 3) = .null) := ⟨⟨by decide, fun _ => ⟨rfl, rfl, fun _ => rfl⟩⟩, fun _ => rfl⟩
theorem ckr6_4 : (fkd 6 4 ≤ 3 ∧ (fkd 6 4 = 3 → (TZ 6 4).2.2.2 = true ∧ (tyZ 6 4).isReference = true ∧ ∀ a, fits (tyZ 6 4) (.ref a) = true)) ∧ (2 ≤ fkd 6 4 → defaultValue (tyZ 6 4) = .null) := ⟨⟨by decide, fun _ => ⟨rfl, rfl, fun _ => rfl⟩⟩, fun _ => rfl⟩
theorem ckr6_5 : (fkd 6 5 ≤ 3 ∧ (fkd 6 5 = 3 → (TZ 6 5).2.2.2 = true ∧ (tyZ 6 5).isReference = true ∧ ∀ a, fits (tyZ 6 5) (.ref a) = true)) ∧ (2 ≤ fkd 6 5 → defaultValue (tyZ 6 5) = .null) := ⟨⟨by decide, fun _ => ⟨rfl, rfl, fun _ => rfl⟩⟩, fun _ => rfl⟩
theorem ckr6_6 : (fkd 6 6 ≤ 3 ∧ (fkd 6 6 = 3 → (TZ 6 6).2.2.2 = true ∧ (tyZ 6 6).isReference = true ∧ ∀ a, fits (tyZ 6 6) (.ref a) = true)) ∧ (2 ≤ fkd 6 6 → defaultValue (tyZ 6 6) = .null) := ⟨⟨by decide, fun _ => ⟨rfl, rfl, fun _ => rfl⟩⟩, fun _ => rfl⟩
theorem ckr6_7 : (fkd 6 7 ≤ 3 ∧ (fkd 6 7 = 3 → (TZ 6 7).2.2.2 = true ∧ (tyZ 6 7).isReference = true ∧ ∀ a, fits (tyZ 6 7) (.ref a) = true)) ∧ (2 ≤ fkd 6 7 → defaultValue (tyZ 6 7) = .null) := ⟨⟨by decide, fun h => absurd h (by decide)⟩, fun h => absurd h (by decide)⟩
theorem ckr6 : ∀ k, k < nfZ 6 → (fkd 6 k ≤ 3 ∧ (fkd 6 k = 3 → (TZ 6 k).2.2.2 = true ∧ (tyZ 6 k).isReference = true ∧ ∀ a, fits (tyZ 6 k) (.ref a) = true)) ∧ (2 ≤ fkd 6 k → defaultValue (tyZ 6 k) = .null) := lt_s (lt_s (lt_s (lt_s (lt_s (lt_s (lt_s (lt_s lt_0 ckr6_0) ckr6_1) ckr6_2) ckr6_3) ckr6_4) ckr6_5) ckr6_6) ckr6_7
theorem ckr7_0 : (fkd 7 0 ≤ 3 ∧ (fkd 7 0 = 3 → (TZ 7 0).2.2.2 = true ∧ (tyZ 7 0).isReference = true ∧ ∀ a, fits (tyZ 7 0) (.ref a) = true)) ∧ (2 ≤ fkd 7 0 → defaultValue (tyZ 7 0) = .null) := ⟨⟨by decide, fun _ => ⟨rfl, rfl, fun _ => rfl⟩⟩, fun _ => rfl⟩
theorem ckr7_1 : (fkd 7 1 ≤ 3 ∧ (fkd 7 1 = 3 → (TZ 7 1).2.2.2 = true ∧ (tyZ 7 1).isReference = true ∧ ∀ a, fits (tyZ 7 1) (.ref a) = true)) ∧ (2 ≤ fkd 7 1 → defaultValue (tyZ 7 1) = .null) := ⟨⟨by decide, fun _ => ⟨rfl, rfl, fun _ => rfl⟩⟩, fun _ => rfl⟩
theorem ckr7_2 : (fkd 7 2 ≤ 3 ∧ (fkd 7 2 = 3 → (TZ 7 2).2.2.2 = true ∧ (tyZ 7 2).isReference = true ∧ ∀ a, fits (tyZ 7 2) (.ref a) = true)) ∧ (2 ≤ fkd 7 2 → defaultValue (tyZ 7 2) = .null) := ⟨⟨by decide, fun _ => ⟨rfl, rfl, fun _ => rfl⟩⟩, fun _ => rfl⟩
theorem ckr7_3 : (fkd 7 3 ≤ 3 ∧ (fkd 7 3 = 3 → (TZ 7 3).2.2.2 = true ∧ (tyZ 7 3).isReference = true ∧ ∀ a, fits (tyZ 7 3) (.ref a) = true)) ∧ (2 ≤ fkd 7 3 → defaultValue (tyZ 7 3) = .null) := ⟨⟨by decide, fun h => absurd h (by decide)⟩, fun _ => rfl⟩
theorem ckr7_4 : (fkd 7 4 ≤ 3 ∧ (fkd 7 4 = 3 → (TZ 7 4).2.2.2 = true ∧ (tyZ 7 4).isReference = true ∧ ∀ a, fits (tyZ 7 4) (.ref a) = true)) ∧ (2 ≤ fkd 7 4 → defaultValue (tyZ 7 4) = .null) := ⟨⟨by decide, fun h => absurd h (by decide)⟩, fun h => absurd h (by decide)⟩
theorem ckr7_5 : (fkd 7 5 ≤ 3 ∧ (fkd 7 5 = 3 → (TZ 7 5).2.2.2 = true ∧ (tyZ 7 5).isReference = true ∧ ∀ a, fits (tyZ 7 5) (.ref a) = true)) ∧ (2 ≤ fkd 7 5 → defaultValue (tyZ 7 5) = .null) := ⟨⟨by decide, fun h => absurd h (by decide)⟩, fun h => absurd h (by decide)⟩
theorem ckr7_6 : (fkd 7 6 ≤ 3 ∧ (fkd 7 6 = 3 → (TZ 7 6).2.2.2 = true ∧ (tyZ 7 6).isReference = true ∧ ∀ a, fits (tyZ 7 6) (.ref a) = true)) ∧ (2 ≤ fkd 7 6 → defaultValue (tyZ 7 6) = .null) := ⟨⟨by decide, fun h => absurd h (by decide)⟩, fun h => absurd h (by decide)⟩
theorem ckr7_7 : (fkd 7 7 ≤ 3 ∧ (fkd 7 7 = 3 → (TZ 7 7).2.2.2 = true ∧ (tyZ 7 7).isReference = true ∧ ∀ a, fits (tyZ 7 7) (.ref a) = true)) ∧ (2 ≤ fkd 7 7 → defaultValue (tyZ 7 7) = .null) := ⟨⟨by decide, fun _ => ⟨rfl, rfl, fun _ => rfl⟩⟩, fun _ => rfl⟩
theorem ckr7 : ∀ k, k < nfZ 7 → (fkd 7 k ≤ 3 ∧ (fkd 7 k = 3 → (TZ 7 k).2.2.2 = true ∧ (tyZ 7 k).isReference = true ∧ ∀ a, fits (tyZ 7 k) (.ref a) = true)) ∧ (2 ≤ fkd 7 k → defaultValue (tyZ 7 k) = .null) := lt_s (lt_s (lt_s (lt_s (lt_s (lt_s (lt_s (lt_s lt_0 ckr7_0) ckr7_1) ckr7_2) ckr7_3) ckr7_4) ckr7_5) ckr7_6) ckr7_7
theorem ckr8_0 : (fkd 8 0 ≤ 3 ∧ (fkd 8 0 = 3 → (TZ 8 0).2.2.2 = true ∧ (tyZ 8 0).isReference = true ∧ ∀ a, fits (tyZ 8 0) (.ref a) = true)) ∧ (2 ≤ fkd 8 0 → defaultValue (tyZ 8 0) = .null) := ⟨⟨by decide, fun _ => ⟨rfl, rfl, fun _ => rfl⟩⟩, fun _ => rfl⟩
theorem ckr8_1 : (fkd 8 1 ≤ 3 ∧ (fkd 8 1 = 3 → (TZ 8 1).2.2.2 = true ∧ (tyZ 8 1).isReference = true ∧ ∀ a, fits (tyZ 8 1) (.ref a) = true)) ∧ (2 ≤ fkd 8 1 → defaultValue (tyZ 8 1) = .null) := ⟨⟨by decide, fun _ => ⟨rfl, rfl, fun _ => rfl⟩⟩, fun _ => rfl⟩
theorem ckr8_2 : (fkd 8 2 ≤ 3 ∧ (fkd 8 2 = 3 → (TZ 8 2).2.2.2 = true ∧ (tyZ 8 2).isReference = true ∧ ∀ a, fits (tyZ 8 2) (.ref a) = true)) ∧ (2 ≤ fkd 8 2 → defaultValue (tyZ 8 2) = .null) := ⟨⟨by decide, fun _ => ⟨rfl, rfl, fun _ => rfl⟩⟩, fun _ => rfl⟩
theorem ckr8_3 : (fkd 8 3 ≤ 3 ∧ (fkd 8 3 = 3 → (TZ 8 3).2.2.2 = true ∧ (tyZ 8 3).isReference = true ∧ ∀ a, fits (tyZ 8 3) (.ref a) = true)) ∧ (2 ≤ fkd 8 3 → defaultValue (tyZ 8 3) = .null) := ⟨⟨by decide, fun _ => ⟨rfl, rfl, fun _ => rfl⟩⟩, fun _ => rfl⟩
theorem ckr8_4 : (fkd 8 4 ≤ 3 ∧ (fkd 8 4 = 3 → (TZ 8 4).2.2.2 = true ∧ (tyZ 8 4).isReference = true ∧ ∀ a, fits (tyZ 8 4) (.ref a) = true)) ∧ (2 ≤ fkd 8 4 → defaultValue (tyZ 8 4) = .null) := ⟨⟨by decide, fun _ => ⟨rfl, rfl, fun _ => rfl⟩⟩, fun _ => rfl⟩
theorem ckr8_5 : (fkd 8 5 ≤ 3 ∧ (fkd 8 5 = 3 → (TZ 8 5).2.2.2 = true ∧ (tyZ 8 5).isReference = true ∧ ∀ a, fits (tyZ 8 5) (.ref a) = true)) ∧ (2 ≤ fkd 8 5 → defaultValue (tyZ 8 5) = .null) := ⟨⟨by decide, fun _ => ⟨rfl, rfl, fun _ => rfl⟩⟩, fun _ => rfl⟩
theorem ckr8_6 : (fkd 8 6 ≤ 3 ∧ (fkd 8 6 = 3 → (TZ 8 6).2.2.2 = true ∧ (tyZ 8 6).isReference = true ∧ ∀ a, fits (tyZ 8 6) (.ref a) = true)) ∧ (2 ≤ fkd 8 6 → defaultValue (tyZ 8 6) = .null) := ⟨⟨by decide, fun h => absurd h (by decide)⟩, fun h => absurd h (by decide)⟩
theorem ckr8 : ∀ k, k < nfZ 8 → (fkd 8 k ≤ 3 ∧ (fkd 8 k = 3 → (TZ 8 k).2.2.2 = true ∧ (tyZ 8 k).isReference = true ∧ ∀ a, fits (tyZ 8 k) (.ref a) = true)) ∧ (2 ≤ fkd 8 k → defaultValue (tyZ 8 k) = .null) := lt_s (lt_s (lt_s (lt_s (lt_s (lt_s (lt_s lt_0 ckr8_0) ckr8_1) ckr8_2) ckr8_3) ckr8_4) ckr8_5) ckr8_6
theorem ckr9_0 : (fkd 9 0 ≤ 3 ∧ (fkd 9 0 = 3 → (TZ 9 0).2.2.2 = true ∧ (tyZ 9 0).isReference = true ∧ ∀ a, fits (tyZ 9 0) (.ref a) = true)) ∧ (2 ≤ fkd 9 0 → defaultValue (tyZ 9 0) = .null) := ⟨⟨by decide, fun _ => ⟨rfl, rfl, fun _ => rfl⟩⟩, fun _ => rfl⟩
theorem ckr9_1 : (fkd 9 1 ≤ 3 ∧ (fkd 9 1 = 3 → (TZ 9 1).2.2.2 = true ∧ (tyZ 9 1).isReference = true ∧ ∀ a, fits (tyZ 9 1) (.ref a) = true)) ∧ (2 ≤ fkd 9 1 → defaultValue (tyZ 9 1) = .null) := ⟨⟨by decide, fun _ => ⟨rfl, rfl, fun _ => rfl⟩⟩, fun _ => rfl⟩
theorem ckr9 : ∀ k, k < nfZ 9 → (fkd 9 k ≤ 3 ∧ (fkd 9 k = 3 → (TZ 9 k).2.2.2 = true ∧ (tyZ 9 k).isReference = true ∧ ∀ a, fits (tyZ 9 k) (.ref a) = true)) ∧ (2 ≤ fkd 9 k → defaultValue (tyZ 9 k) = .null) := lt_s (lt_s lt_0 ckr9_0) ckr9_1
theorem ckr10_0 : (fkd 10 0 ≤ 3 ∧ (fkd 10 0 = 3 → (TZ 10 0).2.2.2 = true ∧ (tyZ 10 0).isReference = true ∧ ∀ a, fits (tyZ 10 0) (.ref a) = true)) ∧ (2 ≤ fkd 10 0 → defaultValue (tyZ 10 0) = .null) := ⟨⟨by decide, fun _ => ⟨rfl, rfl, fun _ => rfl⟩⟩, fun _ => rfl⟩
theorem ckr10_1 : (fkd 10 1 ≤ 3 ∧ (fkd 10 1 = 3 → (TZ 10 1).2.2.2 = true ∧ (tyZ 10 1).isReference = true ∧ ∀ a, fits (tyZ 10 1) (.ref a) = true)) ∧ (2 ≤ fkd 10 1 → defaultValue (tyZ 10 1) = .null) := ⟨⟨by decide, fun _ => ⟨rfl, rfl, fun _ => rfl⟩⟩, fun _ => rfl⟩
theorem ckr10_2 : (fkd 10 2 ≤ 3 ∧ (fkd 10 2 = 3 → (TZ 10 2).2.2.2 = true ∧ (tyZ 10 2).isReference = true ∧ ∀ a, fits (tyZ 10 2) (.ref a) = true)) ∧ (2 ≤ fkd 10 2 → defaultValue (tyZ 10 2) = .null) := ⟨⟨by decide, fun _ => ⟨rfl, rfl, fun _ => rfl⟩⟩, fun _ => rfl⟩
theorem ckr10_3 : (fkd 10 3 ≤ 3 ∧ (fkd 10 3 = 3 → (TZ 10 3).2.2.2 = true ∧ (tyZ 10 3).isReference = true ∧ ∀ a, fits (tyZ 10 3) (.ref a) = true)) ∧ (2 ≤ fkd 10 3 → defaultValue (tyZ 10 3) = .null) := ⟨⟨by decide, fun _ => ⟨rfl, rfl, fun _ => rfl⟩⟩, fun _ => rfl⟩
theorem ckr10_4 : (fkd 10 4 ≤ 3 ∧ (fkd 10 4 = 3 → (TZ 10 4).2.2.2 = true ∧ (tyZ 10 4).isReference = true ∧ ∀ a, fits (tyZ 10 4) (.ref a) = true)) ∧ (2 ≤ fkd 10 4 → defaultValue (tyZ 10 4) = .null) := ⟨⟨by decide, fun h => absurd h (by decide)⟩, fun h => absurd h (by decide)⟩
theorem ckr10_5 : (fkd 10 5 ≤ 3 ∧ (fkd 10 5 = 3 → (TZ 10 5).2.2.2 = true ∧ (tyZ 10 5).isReference = true ∧ ∀ a, fits (tyZ 10 5) (.ref a) = true)) ∧ (2 ≤ fkd 10 5 → defaultValue (tyZ 10 5) = .null) := ⟨⟨by decide, fun _ => ⟨rfl, rfl, fun _ => rfl⟩⟩, fun _ => rfl⟩
theorem ckr10_6 : (fkd 10 6 ≤ 3 ∧ (fkd 10 6 = 3 → (TZ 10 6).2.2.2 = true ∧ (tyZ 10 6).isReference = true ∧ ∀ a, fits (tyZ 10 6) (.ref a) = true)) ∧ (2 ≤ fkd 10 6 → defaultValue (tyZ 10 6) = .null) := ⟨⟨by decide, fun h => absurd h (by decide)⟩, fun h => absurd h (by decide)⟩
theorem ckr10 : ∀ k, k < nfZ 10 → (fkd 10 k ≤ 3 ∧ (fkd 10 k = 3 → (TZ 10 k).2.2.2 = true ∧ (tyZ 10 k).isReference = true ∧ ∀ a, fits (tyZ 10 k) (.ref a) = true)) ∧ (2 ≤ fkd 10 k → defaultValue (tyZ 10 k) = .null) := lt_s (lt_s (lt_s (lt_s (lt_s (lt_s (lt_s lt_0 ckr10_0) ckr10_1) ckr10_2) ckr10_3) ckr10_4) ckr10_5) ckr10_6
theorem ckr11_0 : (fkd 11 0 ≤ 3 ∧ (fkd 11 0 = 3 → (TZ 11 0).2.2.2 = true ∧ (tyZ 11 0).isReference = true ∧ ∀ a, fits (tyZ 11 0) (.ref a) = true)) ∧ (2 ≤ fkd 11 0 → defaultValue (tyZ 11 0) = .null) := ⟨⟨by decide, fun _ => ⟨rfl, rfl, fun _ => rfl⟩⟩, fun _ => rfl⟩
theorem ckr11_1 : (fkd 11 1 ≤ 3 ∧ (fkd 11 1 = 3 → (TZ 11 1).2.2.2 = true ∧ (tyZ 11 1).isReference = true ∧ ∀ a, fits (tyZ 11 1) (.ref a) = true)) ∧ (2 ≤ fkd 11 1 → defaultValue (tyZ 11 1) = .null) := ⟨⟨by decide, fun _ => ⟨rfl, rfl, fun _ => rfl⟩⟩, fun _ => rfl⟩
theorem ckr11_2 : (fkd 11 2 ≤ 3 ∧ (fkd 11 2 = 3 → (TZ 11 2).2.2.2 = true ∧ (tyZ 11 2).isReference = true ∧ ∀ a, fits (tyZ 11 2) (.ref a) = true)) ∧ (2 ≤ fkd 11 2 → defaultValue (tyZ 11 2) = .null) := ⟨⟨by decide, fun _ => ⟨rfl, rfl, fun _ => rfl⟩⟩, fun _ => rfl⟩
theorem ckr11_3 : (fkd 11 3 ≤ 3 ∧ (fkd 11 3 = 3 → (TZ 11 3).2.2.2 = true ∧ (tyZ 11 3).isReference = true ∧ ∀ a, fits (tyZ 11 3) (.ref a) = true)) ∧ (2 ≤ fkd 11 3 → defaultValue (tyZ 11 3) = .null) := ⟨⟨by decide, fun h => absurd h (by decide)⟩, fun h => absurd h (by decide)⟩
theorem ckr11 : ∀ k, k < nfZ 11 → (fkd 11 k ≤ 3 ∧ (fkd 11 k = 3 → (TZ 11 k).2.2.2 = true ∧ (tyZ 11 k).isReference = true ∧ ∀ a, fits (tyZ 11 k) (.ref a) = true)) ∧ (2 ≤ fkd 11 k → defaultValue (tyZ 11 k) = .null) := lt_s (lt_s (lt_s (lt_s lt_0 ckr11_0) ckr11_1) ckr11_2) ckr11_3
theorem ckr12_0 : (fkd 12 0 ≤ 3 ∧ (fkd 12 0 = 3 → (TZ 12 0).2.2.2 = true ∧ (tyZ 12 0).isReference = true ∧ ∀ a, fits (tyZ 12 0) (.ref a) = true)) ∧ (2 ≤ fkd 12 0 → defaultValue (tyZ 12 0) = .null) := ⟨⟨by decide, fun _ => ⟨rfl, rfl, fun _ => rfl⟩⟩, fun _ => rfl⟩
theorem ckr12_1 : (fkd 12 1 ≤ 3 ∧ (fkd 12 1 = 3 → (TZ 12 1).2.2.2 = true ∧ (tyZ 12 1).isReference = true ∧ ∀ a, fits (tyZ 12 1) (.ref a) = true)) ∧ (2 ≤ fkd 12 1 → defaultValue (tyZ 12 1) = .null) := ⟨⟨by decide, fun _ => ⟨rfl, rfl, fun _ => rfl⟩⟩, fun _ => rfl⟩
theorem ckr12_2 : (fkd 12 2 ≤ 3 ∧ (fkd 12 2 = 3 → (TZ 12 2).2.2.2 = true ∧ (tyZ 12 2).isReference = true ∧ ∀ a, fits (tyZ 12 2) (.ref a) = true)) ∧ (2 ≤ fkd 12 2 → defaultValue (tyZ 12 2) = .null) := ⟨⟨by decide, fun _ => ⟨rfl, rfl, fun _ => rfl⟩⟩, fun _ => rfl⟩
theorem ckr12_3 : (fkd 12 3 ≤ 3 ∧ (fkd 12 3 = 3 → (TZ 12 3).2.2.2 = true ∧ (tyZ 12 3).isReference = true ∧ ∀ a, fits (tyZ 12 3) (.ref a) = true)) ∧ (2 ≤ fkd 12 3 → defaultValue (tyZ 12 3) = .null) := ⟨⟨by decide, fun _ => ⟨rfl, rfl, fun _ => rfl⟩⟩, fun _ => rfl⟩
theorem ckr12_4 : (fkd 12 4 ≤ 3 ∧ (fkd 12 4 = 3 → (TZ 12 4).2.2.2 = true ∧ (tyZ 12 4).isReference = true ∧ ∀ a, fits (tyZ 12 4) (.ref a) = true)) ∧ (2 ≤ fkd 12 4 → defaultValue (tyZ 12 4) = .null) := ⟨⟨by decide, fun h => absurd h (by decide)⟩, fun h => absurd h (by decide)⟩
theorem ckr12_5 : (fkd 12 5 ≤ 3 ∧ (fkd 12 5 = 3 → (TZ 12 5).2.2.2 = true ∧ (tyZ 12 5).isReference = true ∧ ∀ a, fits (tyZ 12 5) (.ref a) = true)) ∧ (2 ≤ fkd 12 5 → defaultValue (tyZ 12 5) = .null) := ⟨⟨by decide, fun _ => ⟨rfl, rfl, fun _ => rfl⟩⟩, fun _ => rfl⟩
theorem ckr12_6 : (fkd 12 6 ≤ 3 ∧ (fkd 12 6 = 3 → (TZ 12 6).2.2.2 = true ∧ (tyZ 12 6).isReference = true ∧ ∀ a, fits (tyZ 12 6) (.ref a) = true)) ∧ (2 ≤ fkd 12 6 → defaultValue (tyZ 12 6) = .null) := ⟨⟨by decide, fun _ => ⟨rfl, rfl, fun _ => rfl⟩⟩, fun _ => rfl⟩
theorem ckr12_7 : (fkd 12 7 ≤ 3 ∧ (fkd 12 7 = 3 → (TZ 12 7).2.2.2 = true ∧ (tyZ 12 7).isReference = true ∧ ∀ a, fits (tyZ 12 7) (.ref a) = true)) ∧ (2 ≤ fkd 12 7 → defaultValue (tyZ 12 7) = .null) := ⟨⟨by decide, fun _ => ⟨rfl, rfl, fun _ => rfl⟩⟩, fun _ => rfl⟩
theorem ckr12_8 : (fkd 12 8 ≤ 3 ∧ (fkd 12 8 = 3 → (TZ 12 8).2.2.2 = true ∧ (tyZ 12 8).isReference = true ∧ ∀ a, fits (tyZ 12 8) (.ref a) = true)) ∧ (2 ≤ fkd 12 8 → defaultValue (tyZ 12 8) = .null) := ⟨⟨by decide, fun _ => ⟨rfl, rfl, fun _ => rfl⟩⟩, fun _ => rfl⟩
theorem ckr12_9 : (fkd 12 9 ≤ 3 ∧ (fkd 12 9 = 3 → (TZ 12 9).2.2.2 = true ∧ (tyZ 12 9).isReference = true ∧ ∀ a, fits (tyZ 12 9) (.ref a) = true)) ∧ (2 ≤ fkd 12 9 → defaultValue (tyZ 12 9) = .null) := ⟨⟨by decide, fun _ => ⟨rfl, rfl, fun _ => rfl⟩⟩, fun _ => rfl⟩
theorem ckr12_10 : (fkd 12 10 ≤ 3 ∧ (fkd 12 10 = 3 → (TZ 12 10).2.2.2 = true ∧ (tyZ 12 10).isReference = true ∧ ∀ a, fits (tyZ 12 10) (.ref a) = true)) ∧ (2 ≤ fkd 12 10 → defaultValue (tyZ 12 10) = .null) := ⟨⟨by decide, fun h => absurd h (by decide)⟩, fun h => absurd h (by decide)⟩
theorem ckr12 : ∀ k, k < nfZ 12 → (fkd 12 k ≤ 3 ∧ (fkd 12 k = 3 → (TZ 12 k).2.2.2 = true ∧ (tyZ 12 k).isReference = true ∧ ∀ a, fits (tyZ 12 k) (.ref a) = true)) ∧ (2 ≤ fkd 12 k → defaultValue (tyZ 12 k) = .null) := lt_s (lt_s (lt_s (lt_s (lt_s (lt_s (lt_s (lt_s (lt_s (lt_s (lt_s lt_0 ckr12_0) ckr12_1) ckr12_2) ckr12_3) ckr12_4) ckr12_5) ckr12_6) ckr12_7) ckr12_8) ckr12_9) ckr12_10
theorem ckr : ∀ c, c < 13 → ∀ k, k < nfZ c → (fkd c k ≤ 3 ∧ (fkd c k = 3 → (TZ c k).2.2.2 = true ∧ (tyZ c k).isReference = true ∧ ∀ a, fits (tyZ c k) (.ref a) = true)) ∧ (2 ≤ fkd c k → defaultValue (tyZ c k) = .null) := lt_s (lt_s (lt_s (lt_s (lt_s (lt_s (lt_s (lt_s (lt_s (lt_s (lt_s (lt_s (lt_s lt_0 ckr0) ckr1) ckr2) ckr3) ckr4) ckr5) ckr6) ckr7) ckr8) ckr9) ckr10) ckr11) ckr12
set_option maxRecDepth 20000 in
theorem cmu : Cond.classLink (clsN 5) 18 "[[I" ∈ TBW := tb2 171 rfl rfl
def aov : Cond := Cond.arrayOver (.array .int)
/-- what the constructors leave -/
def cF1 : CFl := [[aR 1, aI 0, aI (-2), aI 0, aR 2, aR 28, aR 54, aR 75, aR 77, aR 80, aR 81], [], [aR 3, aR 10, aI 0, aR 18, aR 19, aR 20, aI 0, aR 21, aR 22, aR 23, aI 0, aR 24, aR 25, aR 26, aR 27, aI 0], [aR 4, aR 5, aR 6, aR 7, aR 8, aR 9, aI 0], [], [], [], [], [], [], [aR 11, aR 12, aR 13, aR 14, aR 15, aR 16, aR 17, aI 0], [], [], [], [], [], [], [], [], [], [], [], [], [], [], [], [], [], [aR 29, aR 36, aI 0, aR 44, aR 45, aR 46, aI 0, aR 47, aR 48, aR 49, aI 0, aR 50, aR 51, aR 52, aR 53, aI 0], [aR 30, aR 31, aR 32, aR 33, aR 34, aR 35, aI 0], [], [], [], [], [], [], [aR 37, aR 38, aR 39, aR 40, aR 41, aR 42, aR 43, aI 0], [], [], [], [], [], [], [], [], [], [], [], [], [], [], [], [], [], [aR 55, aR 56, aR 57, aI 0], [], [], [], [aR 59, aR 60, aR 61, aR 62, aI 0, aR 63, aR 64, aR 65, aR 66, aR 67, aI 0], [], [], [], [], [], [], [], [], [], [aR 69, aR 70, aR 71, aR 72, aI 0, aR 73, aI 0], [], [], [], [], [], [aR 58, aR 68], [aR 54, aR 58, aR 68, aJ, aI 0, aI 0, aI 0, aR 76], [], [aR 58, aR 68, aR 74, aR 78, aR 79, aJ, aJ], [], [], [aR 68, aR 74], [aR 68, aR 74, aR 82, aR 83, aR 84, aR 88, aR 92, aR 93, aR 94, aI 0, aI 0], [], [], [], [], [], [], [], [], [], [], [], [], []]
def cF2 : CFl := [[aR 1, aI 0, aI (-2), aI 0, aR 2, aR 28, aR 54, aR 75, aR 77, aR 80, aR 81], [], [aR 3, aR 10, aI 0, aR 18, aR 19, aR 20, aI 0, aR 21, aR 22, aR 23, aI 0, aR 24, aR 25, aR 26, aR 27, aI 0], [aR 4, aR 5, aR 6, aR 7, aR 8, aR 9, aI 0], [], [], [], [], [], [], [aR 11, aR 12, aR 13, aR 14, aR 15, aR 16, aR 17, aI 0], [], [], [], [], [], [], [], [], [], [], [], [], [], [], [], [], [], [aR 29, aR 36, aI 0, aR 44, aR 45, aR 46, aI 0, aR 47, aR 48, aR 49, aI 0, aR 50, aR 51, aR 52, aR 53, aI 0], [aR 30, aR 31, aR 32, aR 33, aR 34, aR 35, aI 0], [], [], [], [], [], [], [aR 37, aR 38, aR 39, aR 40, aR 41, aR 42, aR 43, aI 0], [], [], [], [], [], [], [], [], [], [], [], [], [], [], [], [], [], [aR 55, aR 56, aR 57, aI 0], [], [], [], [aR 59, aR 60, aR 61, aR 62, aI 0, aR 63, aR 64, aR 65, aR 66, aR 67, aI 0], [], [], [], [], [], [], [], [], [], [aR 69, aR 70, aR 71, aR 72, aI 0, aR 73, aI 0], [], [], [], [], [], [aR 58, aR 68], [aR 54, aR 58, aR 68, aJ, aI 0, aI 0, aI 0, aR 76], [], [aR 58, aR 68, aR 74, aR 78, aR 79, aJ, aJ], [], [], [aR 68, aR 74], [aR 68, aR 74, aR 82, aR 83, aR 84, aR 88, aR 92, aR 93, aR 94, aI 0, aI 0], [], [], [], [], [], [], [], [], [], [], [], [], [], [aR 96, aI 0, aI 0, aI (-2), aI 0, aI 0, aR 97, aR 98, aR 99, aR 100, aR 101, aR 102, aR 103, aR 104, aR 105, aR 106, aI 0, aI 0, aI 0, aR 107, aR 108, aR 109, aR 110, aR 111, aR 112, aR 113, aR 114, aR 115, aR 116, aR 117, aR 118, aR 119, aI 0, aR 120, aR 121, aR 122, aR 123, aR 124, aR 125, aR 126, aI 0, aR 127, aR 128, aR 129, aR 130, aR 131, aR 132, aR 133, aR 134, aR 135, aI 0, aI 0, aI 0, aI 0, aR 136, aR 137, aR 138, aI 0, aI 0, aR 139, aR 140, aR 141, aR 142, aR 143, aR 144, aR 145, aR 146, aR 147, aR 148, aR 149, aR 150, aI 0, aI 0, aI 0, aI 0, aI 0], [], [], [], [], [], [], [], [], [], [], [], [], [], [], [], [], [], [], [], [], [], [], [], [], [], [], [], [], [], [], [], [], [], [], [], [], [], [], [], [], [], [], [], [], [], [], [], [], [], [], [], [], [], [], []]
theorem cc1 : ccall 4 1 [aR 0] [cdf 1] = some cF1 := by decide +kernel
theorem cc2 : ccall 4 0 [aR 95] (cF1 ++ [cdf 0]) = some cF2 := by decide +kernel
