variable {d r q : Nat} {l0 l1 l2 l3 l4 l5 l6 l7 l8 l9 l10 l11 l12 l13 l14 l15 : AV} {st : List AV} {s : Mem} {a b z i n dp sp a0 a1 a2 a3 a4 a5 a6 : Int} {r0 r1 r2 r3 r4 : Nat}
theorem x162_0 : Ze d 162 0 [aR r, l1] st s = Ze d 162 1 [aR r, l1] (aR r :: st) s := Ze_n (i := (.aload_n 0)) (len := 1) (by decide +kernel) rfl
theorem x162_1 : Ze d 162 1 [l0, l1] st s = Ze d 162 2 [l0, l1] (aI 0 :: st) s := Ze_n (i := (.iconst 0)) (len := 1) (by decide +kernel) rfl
theorem x162_2 : Ze d 162 2 [l0, aI z] st s = Ze d 162 3 [l0, aI z] (aI z :: st) s := Ze_n (i := (.iload_n 1)) (len := 1) (by decide +kernel) rfl
theorem x162_3 : Ze d 162 3 [l0, l1] st s = Ze d 162 4 [l0, l1] (aI 0 :: st) s := Ze_n (i := (.iconst 0)) (len := 1) (by decide +kernel) rfl
theorem x162_4 : Ze d 162 4 [l0, l1] st s = Ze d 162 5 [l0, l1] (aI 1 :: st) s := Ze_n (i := (.iconst 1)) (len := 1) (by decide +kernel) rfl
theorem x162_5 (h : obC r = 12) (h6 : st.length ≤ 4) : Ze d 162 5 [l0, l1] (aI a4 :: aI a3 :: aI a2 :: aI a1 :: aR r :: st) s = zcI (Zc d 165 [aR r, aI a1, aI a2, aI a3, aI a4] s) d 162 8 [l0, l1] st := Ze_cvI (idx := 51) (len := 3) (as := [aI a1, aI a2, aI a3, aI a4]) (by decide +kernel) rfl (by decide +kernel) rfl h h6
theorem x162_8 : Ze d 162 8 [l0, l1] [aI z] s = rI z s := Ze_i1 (by decide +kernel) rfl
theorem en162 : Zc (d + 1) 162 [aR r, aI a1] s = Ze d 162 0 [aR r, aI a1] [] s := rfl
theorem x165_0 : Ze d 165 0 [aR r, l1, l2, l3, l4, l5] st s = Ze d 165 1 [aR r, l1, l2, l3, l4, l5] (aR r :: st) s := Ze_n (i := (.aload_n 0)) (len := 1) (by decide +kernel) rfl
theorem x165_1 (h : obC r = 12) : Ze d 165 1 [l0, l1, l2, l3, l4, l5] (aR r :: st) s = Ze d 165 4 [l0, l1, l2, l3, l4, l5] (aI (s r 4) :: st) s := Ze_gf (len := 3) (idx := 40) (by decide +kernel) rfl h rfl
theorem x165_4 : Ze d 165 4 [l0, l1, l2, l3, l4, l5] (aI z :: st) s = Ze d 165 6 [l0, l1, l2, l3, l4, aI z] st s := Ze_n (i := (.istore 5)) (len := 2) (by decide +kernel) rfl
theorem x165_6 : Ze d 165 6 [aR r, l1, l2, l3, l4, l5] st s = Ze d 165 7 [aR r, l1, l2, l3, l4, l5] (aR r :: st) s := Ze_n (i := (.aload_n 0)) (len := 1) (by decide +kernel) rfl
theorem x165_7 (h : obC r = 12) : Ze d 165 7 [l0, l1, l2, l3, l4, l5] (aR r :: st) s = Ze d 165 10 [l0, l1, l2, l3, l4, l5] (aR (fcn r 0) :: st) s := Ze_gf (len := 3) (idx := 9) (by decide +kernel) rfl h rfl
theorem x165_10 : Ze d 165 10 [l0, l1, l2, l3, l4, aI z] st s = Ze d 165 12 [l0, l1, l2, l3, l4, aI z] (aI z :: st) s := Ze_n (i := (.iload 5)) (len := 2) (by decide +kernel) rfl
theorem x165_12 : Ze d 165 12 [l0, aI z, l2, l3, l4, l5] st s = Ze d 165 13 [l0, aI z, l2, l3, l4, l5] (aI z :: st) s := Ze_n (i := (.iload_n 1)) (len := 1) (by decide +kernel) rfl
theorem x165_13 (h0 : 0 ≤ i) (h1 : i < aN1 r) : Ze d 165 13 [l0, l1, l2, l3, l4, l5] (aI z :: aI i :: aR r :: st) s = Ze d 165 14 [l0, l1, l2, l3, l4, l5] st (mu s r i.toNat z) := Ze_n (i := .iastore) (len := 1) (by decide +kernel) (if_pos ⟨h0, h1⟩)
theorem x165_14 : Ze d 165 14 [aR r, l1, l2, l3, l4, l5] st s = Ze d 165 15 [aR r, l1, l2, l3, l4, l5] (aR r :: st) s := Ze_n (i := (.aload_n 0)) (len := 1) (by decide +kernel) rfl
theorem x165_15 (h : obC r = 12) : Ze d 165 15 [l0, l1, l2, l3, l4, l5] (aR r :: st) s = Ze d 165 18 [l0, l1, l2, l3, l4, l5] (aR (fcn r 1) :: st) s := Ze_gf (len := 3) (idx := 15) (by decide +kernel) rfl h rfl
theorem x165_18 : Ze d 165 18 [l0, l1, l2, l3, l4, aI z] st s = Ze d 165 20 [l0, l1, l2, l3, l4, aI z] (aI z :: st) s := Ze_n (i := (.iload 5)) (len := 2) (by decide +kernel) rfl
theorem x165_20 : Ze d 165 20 [l0, l1, aI z, l3, l4, l5] st s = Ze d 165 21 [l0, l1, aI z, l3, l4, l5] (aI z :: st) s := Ze_n (i := (.iload_n 2)) (len := 1) (by decide +kernel) rfl
theorem x165_21 (h0 : 0 ≤ i) (h1 : i < aN1 r) : Ze d 165 21 [l0, l1, l2, l3, l4, l5] (aI z :: aI i :: aR r :: st) s = Ze d 165 22 [l0, l1, l2, l3, l4, l5] st (mu s r i.toNat z) := Ze_n (i := .iastore) (len := 1) (by decide +kernel) (if_pos ⟨h0, h1⟩)
theorem x165_22 : Ze d 165 22 [aR r, l1, l2, l3, l4, l5] st s = Ze d 165 23 [aR r, l1, l2, l3, l4, l5] (aR r :: st) s := Ze_n (i := (.aload_n 0)) (len := 1) (by decide +kernel) rfl
theorem x165_23 (h : obC r = 12) : Ze d 165 23 [l0, l1, l2, l3, l4, l5] (aR r :: st) s = Ze d 165 26 [l0, l1, l2, l3, l4, l5] (aR (fcn r 2) :: st) s := Ze_gf (len := 3) (idx := 18) (by decide +kernel) rfl h rfl
theorem x165_26 : Ze d 165 26 [l0, l1, l2, l3, l4, aI z] st s = Ze d 165 28 [l0, l1, l2, l3, l4, aI z] (aI z :: st) s := Ze_n (i := (.iload 5)) (len := 2) (by decide +kernel) rfl
theorem x165_28 : Ze d 165 28 [l0, l1, l2, aI z, l4, l5] st s = Ze d 165 29 [l0, l1, l2, aI z, l4, l5] (aI z :: st) s := Ze_n (i := (.iload_n 3)) (len := 1) (by decide +kernel) rfl
theorem x165_29 (h0 : 0 ≤ i) (h1 : i < aN1 r) : Ze d 165 29 [l0, l1, l2, l3, l4, l5] (aI z :: aI i :: aR r :: st) s = Ze d 165 30 [l0, l1, l2, l3, l4, l5] st (mu s r i.toNat z) := Ze_n (i := .iastore) (len := 1) (by decide +kernel) (if_pos ⟨h0, h1⟩)
theorem x165_30 : Ze d 165 30 [aR r, l1, l2, l3, l4, l5] st s = Ze d 165 31 [aR r, l1, l2, l3, l4, l5] (aR r :: st) s := Ze_n (i := (.aload_n 0)) (len := 1) (by decide +kernel) rfl
theorem x165_31 (h : obC r = 12) : Ze d 165 31 [l0, l1, l2, l3, l4, l5] (aR r :: st) s = Ze d 165 34 [l0, l1, l2, l3, l4, l5] (aR (fcn r 3) :: st) s := Ze_gf (len := 3) (idx := 21) (by decide +kernel) rfl h rfl
theorem x165_34 : Ze d 165 34 [l0, l1, l2, l3, l4, aI z] st s = Ze d 165 36 [l0, l1, l2, l3, l4, aI z] (aI z :: st) s := Ze_n (i := (.iload 5)) (len := 2) (by decide +kernel) rfl
theorem x165_36 : Ze d 165 36 [l0, l1, l2, l3, aI z, l5] st s = Ze d 165 38 [l0, l1, l2, l3, aI z, l5] (aI z :: st) s := Ze_n (i := (.iload 4)) (len := 2) (by decide +kernel) rfl
theorem x165_38 : Ze d 165 38 [l0, l1, l2, l3, l4, l5] st s = Ze d 165 40 [l0, l1, l2, l3, l4, l5] (aI 25 :: st) s := Ze_n (i := (.bipush 25)) (len := 2) (by decide +kernel) rfl
theorem x165_40 (h6 : st.length ≤ 4) : Ze d 165 40 [l0, l1, l2, l3, l4, l5] (aI b :: aI a :: st) s = Ze d 165 43 [l0, l1, l2, l3, l4, l5] (aI (min a b) :: st) s := Ze_n (i := (.invokestatic 55)) (len := 3) (by decide +kernel) (if_pos h6)
theorem x165_43 (h0 : 0 ≤ i) (h1 : i < aN1 r) : Ze d 165 43 [l0, l1, l2, l3, l4, l5] (aI z :: aI i :: aR r :: st) s = Ze d 165 44 [l0, l1, l2, l3, l4, l5] st (mu s r i.toNat z) := Ze_n (i := .iastore) (len := 1) (by decide +kernel) (if_pos ⟨h0, h1⟩)
theorem x165_44 : Ze d 165 44 [aR r, l1, l2, l3, l4, l5] st s = Ze d 165 45 [aR r, l1, l2, l3, l4, l5] (aR r :: st) s := Ze_n (i := (.aload_n 0)) (len := 1) (by decide +kernel) rfl
theorem x165_45 : Ze d 165 45 [l0, l1, l2, l3, l4, l5] (aR r :: st) s = Ze d 165 46 [l0, l1, l2, l3, l4, l5] (aR r :: aR r :: st) s := Ze_n (i := .dup) (len := 1) (by decide +kernel) rfl
theorem x165_45i : Ze d 165 45 [l0, l1, l2, l3, l4, l5] (aI a :: st) s = Ze d 165 46 [l0, l1, l2, l3, l4, l5] (aI a :: aI a :: st) s := Ze_n (i := .dup) (len := 1) (by decide +kernel) rfl
theorem x165_46 (h : obC r = 12) : Ze d 165 46 [l0, l1, l2, l3, l4, l5] (aR r :: st) s = Ze d 165 49 [l0, l1, l2, l3, l4, l5] (aI (s r 4) :: st) s := Ze_gf (len := 3) (idx := 40) (by decide +kernel) rfl h rfl
theorem x165_49 : Ze d 165 49 [l0, l1, l2, l3, l4, l5] st s = Ze d 165 50 [l0, l1, l2, l3, l4, l5] (aI 1 :: st) s := Ze_n (i := (.iconst 1)) (len := 1) (by decide +kernel) rfl
theorem x165_50 : Ze d 165 50 [l0, l1, l2, l3, l4, l5] (aI b :: aI a :: st) s = Ze d 165 51 [l0, l1, l2, l3, l4, l5] (aI (wrap (a + b)) :: st) s := Ze_n (i := .iadd) (len := 1) (by decide +kernel) rfl
theorem x165_51 (h : obC r = 12) : Ze d 165 51 [l0, l1, l2, l3, l4, l5] (aI z :: aR r :: st) s = Ze d 165 54 [l0, l1, l2, l3, l4, l5] st (mu s r 4 z) := Ze_n (i := .putfield 40) (len := 3) (by decide +kernel) (if_pos h)
theorem x165_54 : Ze d 165 54 [l0, l1, l2, l3, l4, aI z] st s = Ze d 165 56 [l0, l1, l2, l3, l4, aI z] (aI z :: st) s := Ze_n (i := (.iload 5)) (len := 2) (by decide +kernel) rfl
theorem x165_56 : Ze d 165 56 [l0, l1, l2, l3, l4, l5] [aI z] s = rI z s := Ze_i1 (by decide +kernel) rfl
theorem en165 : Zc (d + 1) 165 [aR r, aI a1, aI a2, aI a3, aI a4] s = Ze d 165 0 [aR r, aI a1, aI a2, aI a3, aI a4, aU] [] s := rfl
theorem x163_0 : Ze d 163 0 [aR r, l1, l2] st s = Ze d 163 1 [aR r, l1, l2] (aR r :: st) s := Ze_n (i := (.aload_n 0)) (len := 1) (by decide +kernel) rfl
theorem x163_1 : Ze d 163 1 [l0, l1, l2] st s = Ze d 163 2 [l0, l1, l2] (aI 2 :: st) s := Ze_n (i := (.iconst 2)) (len := 1) (by decide +kernel) rfl
theorem x163_2 : Ze d 163 2 [l0, aI z, l2] st s = Ze d 163 3 [l0, aI z, l2] (aI z :: st) s := Ze_n (i := (.iload_n 1)) (len := 1) (by decide +kernel) rfl
theorem x163_3 : Ze d 163 3 [l0, l1, aI z] st s = Ze d 163 4 [l0, l1, aI z] (aI z :: st) s := Ze_n (i := (.iload_n 2)) (len := 1) (by decide +kernel) rfl
theorem x163_4 : Ze d 163 4 [aR r, l1, l2] st s = Ze d 163 5 [aR r, l1, l2] (aR r :: st) s := Ze_n (i := (.aload_n 0)) (len := 1) (by decide +kernel) rfl
theorem x163_5 (h : obC r = 12) : Ze d 163 5 [l0, l1, l2] (aR r :: st) s = Ze d 163 8 [l0, l1, l2] (aR (fcn r 3) :: st) s := Ze_gf (len := 3) (idx := 21) (by decide +kernel) rfl h rfl
theorem x163_8 : Ze d 163 8 [l0, aI z, l2] st s = Ze d 163 9 [l0, aI z, l2] (aI z :: st) s := Ze_n (i := (.iload_n 1)) (len := 1) (by decide +kernel) rfl
theorem x163_9 (h0 : 0 ≤ i) (h1 : i < aN1 r) : Ze d 163 9 [l0, l1, l2] (aI i :: aR r :: st) s = Ze d 163 10 [l0, l1, l2] (aI (s r i.toNat) :: st) s := Ze_n (i := .iaload) (len := 1) (by decide +kernel) (if_pos ⟨h0, h1⟩)
theorem x163_10 : Ze d 163 10 [l0, l1, aI z] st s = Ze d 163 11 [l0, l1, aI z] (aI z :: st) s := Ze_n (i := (.iload_n 2)) (len := 1) (by decide +kernel) rfl
theorem x163_11 : Ze d 163 11 [l0, l1, l2] (aI b :: aI a :: st) s = Ze d 163 12 [l0, l1, l2] (aI (wrap (a * b)) :: st) s := Ze_n (i := .imul) (len := 1) (by decide +kernel) rfl
theorem x163_12 (h : obC r = 12) (h6 : st.length ≤ 4) : Ze d 163 12 [l0, l1, l2] (aI a4 :: aI a3 :: aI a2 :: aI a1 :: aR r :: st) s = zcI (Zc d 165 [aR r, aI a1, aI a2, aI a3, aI a4] s) d 163 15 [l0, l1, l2] st := Ze_cvI (idx := 51) (len := 3) (as := [aI a1, aI a2, aI a3, aI a4]) (by decide +kernel) rfl (by decide +kernel) rfl h h6
theorem x163_15 : Ze d 163 15 [l0, l1, l2] [aI z] s = rI z s := Ze_i1 (by decide +kernel) rfl
theorem en163 : Zc (d + 1) 163 [aR r, aI a1, aI a2] s = Ze d 163 0 [aR r, aI a1, aI a2] [] s := rfl
theorem x164_0 : Ze d 164 0 [l0, l1, l2, l3, l4] st s = Ze d 164 1 [l0, l1, l2, l3, l4] (aI 0 :: st) s := Ze_n (i := (.iconst 0)) (len := 1) (by decide +kernel) rfl
theorem x164_1 : Ze d 164 1 [l0, l1, l2, l3, l4] (aI z :: st) s = Ze d 164 2 [l0, l1, aI z, l3, l4] st s := Ze_n (i := (.istore_n 2)) (len := 1) (by decide +kernel) rfl
theorem x164_2 : Ze d 164 2 [l0, aI z, l2, l3, l4] st s = Ze d 164 3 [l0, aI z, l2, l3, l4] (aI z :: st) s := Ze_n (i := (.iload_n 1)) (len := 1) (by decide +kernel) rfl
theorem x164_3 : Ze d 164 3 [l0, l1, l2, l3, l4] (aI z :: st) s = Ze d 164 4 [l0, l1, l2, aI z, l4] st s := Ze_n (i := (.istore_n 3)) (len := 1) (by decide +kernel) rfl
theorem x164_4 : Ze d 164 4 [l0, l1, l2, l3, l4] st s = Ze d 164 5 [l0, l1, l2, l3, l4] (aI 0 :: st) s := Ze_n (i := (.iconst 0)) (len := 1) (by decide +kernel) rfl
theorem x164_5 : Ze d 164 5 [l0, l1, l2, l3, l4] (aI z :: st) s = Ze d 164 7 [l0, l1, l2, l3, aI z] st s := Ze_n (i := (.istore 4)) (len := 2) (by decide +kernel) rfl
theorem x164_7 : Ze d 164 7 [l0, l1, l2, l3, aI z] st s = Ze d 164 9 [l0, l1, l2, l3, aI z] (aI z :: st) s := Ze_n (i := (.iload 4)) (len := 2) (by decide +kernel) rfl
theorem x164_9 : Ze d 164 9 [aR r, l1, l2, l3, l4] st s = Ze d 164 10 [aR r, l1, l2, l3, l4] (aR r :: st) s := Ze_n (i := (.aload_n 0)) (len := 1) (by decide +kernel) rfl
theorem x164_10 (h : obC r = 12) : Ze d 164 10 [l0, l1, l2, l3, l4] (aR r :: st) s = Ze d 164 13 [l0, l1, l2, l3, l4] (aI (s r 10) :: st) s := Ze_gf (len := 3) (idx := 44) (by decide +kernel) rfl h rfl
theorem x164_13 : Ze d 164 13 [l0, l1, l2, l3, l4] (aI b :: aI a :: st) s = if a < b then Ze d 164 16 [l0, l1, l2, l3, l4] st s else Ze d 164 55 [l0, l1, l2, l3, l4] st s := Ze_b (i := (.if_icmp .ge 42)) (len := 3) (by decide +kernel) rfl
theorem x164_16 : Ze d 164 16 [l0, l1, l2, aI z, l4] st s = Ze d 164 17 [l0, l1, l2, aI z, l4] (aI z :: st) s := Ze_n (i := (.iload_n 3)) (len := 1) (by decide +kernel) rfl
theorem x164_17 : Ze d 164 17 [l0, l1, l2, l3, l4] st s = Ze d 164 18 [l0, l1, l2, l3, l4] (aI (-1) :: st) s := Ze_n (i := (.iconst (-1))) (len := 1) (by decide +kernel) rfl
theorem x164_18 : Ze d 164 18 [l0, l1, l2, l3, l4] (aI b :: aI a :: st) s = if a = b then Ze d 164 55 [l0, l1, l2, l3, l4] st s else Ze d 164 21 [l0, l1, l2, l3, l4] st s := Ze_b (i := (.if_icmp .eq 37)) (len := 3) (by decide +kernel) rfl
theorem x164_21 : Ze d 164 21 [aR r, l1, l2, l3, l4] st s = Ze d 164 22 [aR r, l1, l2, l3, l4] (aR r :: st) s := Ze_n (i := (.aload_n 0)) (len := 1) (by decide +kernel) rfl
theorem x164_22 (h : obC r = 12) : Ze d 164 22 [l0, l1, l2, l3, l4] (aR r :: st) s = Ze d 164 25 [l0, l1, l2, l3, l4] (aR (fcn r 8) :: st) s := Ze_gf (len := 3) (idx := 34) (by decide +kernel) rfl h rfl
theorem x164_25 : Ze d 164 25 [l0, l1, l2, aI z, l4] st s = Ze d 164 26 [l0, l1, l2, aI z, l4] (aI z :: st) s := Ze_n (i := (.iload_n 3)) (len := 1) (by decide +kernel) rfl
theorem x164_26 : Ze d 164 26 [l0, l1, aI z, l3, l4] st s = Ze d 164 27 [l0, l1, aI z, l3, l4] (aI z :: st) s := Ze_n (i := (.iload_n 2)) (len := 1) (by decide +kernel) rfl
theorem x164_27 (h0 : 0 ≤ i) (h1 : i < aN1 r) : Ze d 164 27 [l0, l1, l2, l3, l4] (aI z :: aI i :: aR r :: st) s = Ze d 164 28 [l0, l1, l2, l3, l4] st (mu s r i.toNat z) := Ze_n (i := .iastore) (len := 1) (by decide +kernel) (if_pos ⟨h0, h1⟩)
theorem x164_28 : Ze d 164 28 [l0, l1, aI z, l3, l4] st s = Ze d 164 29 [l0, l1, aI z, l3, l4] (aI z :: st) s := Ze_n (i := (.iload_n 2)) (len := 1) (by decide +kernel) rfl
theorem x164_29 : Ze d 164 29 [aR r, l1, l2, l3, l4] st s = Ze d 164 30 [aR r, l1, l2, l3, l4] (aR r :: st) s := Ze_n (i := (.aload_n 0)) (len := 1) (by decide +kernel) rfl
theorem x164_30 (h : obC r = 12) : Ze d 164 30 [l0, l1, l2, l3, l4] (aR r :: st) s = Ze d 164 33 [l0, l1, l2, l3, l4] (aR (fcn r 3) :: st) s := Ze_gf (len := 3) (idx := 21) (by decide +kernel) rfl h rfl
theorem x164_33 : Ze d 164 33 [aR r, l1, l2, l3, l4] st s = Ze d 164 34 [aR r, l1, l2, l3, l4] (aR r :: st) s := Ze_n (i := (.aload_n 0)) (len := 1) (by decide +kernel) rfl
theorem x164_34 (h : obC r = 12) : Ze d 164 34 [l0, l1, l2, l3, l4] (aR r :: st) s = Ze d 164 37 [l0, l1, l2, l3, l4] (aR (fcn r 7) :: st) s := Ze_gf (len := 3) (idx := 31) (by decide +kernel) rfl h rfl
theorem x164_37 : Ze d 164 37 [l0, l1, l2, aI z, l4] st s = Ze d 164 38 [l0, l1, l2, aI z, l4] (aI z :: st) s := Ze_n (i := (.iload_n 3)) (len := 1) (by decide +kernel) rfl
theorem x164_38 (h0 : 0 ≤ i) (h1 : i < aN1 r) : Ze d 164 38 [l0, l1, l2, l3, l4] (aI i :: aR r :: st) s = Ze d 164 39 [l0, l1, l2, l3, l4] (aI (s r i.toNat) :: st) s := Ze_n (i := .iaload) (len := 1) (by decide +kernel) (if_pos ⟨h0, h1⟩)
theorem x164_39 (h0 : 0 ≤ i) (h1 : i < aN1 r) : Ze d 164 39 [l0, l1, l2, l3, l4] (aI i :: aR r :: st) s = Ze d 164 40 [l0, l1, l2, l3, l4] (aI (s r i.toNat) :: st) s := Ze_n (i := .iaload) (len := 1) (by decide +kernel) (if_pos ⟨h0, h1⟩)
theorem x164_40 : Ze d 164 40 [l0, l1, l2, l3, l4] (aI b :: aI a :: st) s = Ze d 164 41 [l0, l1, l2, l3, l4] (aI (wrap (a + b)) :: st) s := Ze_n (i := .iadd) (len := 1) (by decide +kernel) rfl
theorem x164_41 : Ze d 164 41 [l0, l1, l2, l3, l4] (aI z :: st) s = Ze d 164 42 [l0, l1, aI z, l3, l4] st s := Ze_n (i := (.istore_n 2)) (len := 1) (by decide +kernel) rfl
theorem x164_42 : Ze d 164 42 [aR r, l1, l2, l3, l4] st s = Ze d 164 43 [aR r, l1, l2, l3, l4] (aR r :: st) s := Ze_n (i := (.aload_n 0)) (len := 1) (by decide +kernel) rfl
theorem x164_43 (h : obC r = 12) : Ze d 164 43 [l0, l1, l2, l3, l4] (aR r :: st) s = Ze d 164 46 [l0, l1, l2, l3, l4] (aR (fcn r 9) :: st) s := Ze_gf (len := 3) (idx := 37) (by decide +kernel) rfl h rfl
theorem x164_46 : Ze d 164 46 [l0, l1, l2, aI z, l4] st s = Ze d 164 47 [l0, l1, l2, aI z, l4] (aI z :: st) s := Ze_n (i := (.iload_n 3)) (len := 1) (by decide +kernel) rfl
theorem x164_47 (h0 : 0 ≤ i) (h1 : i < aN1 r) : Ze d 164 47 [l0, l1, l2, l3, l4] (aI i :: aR r :: st) s = Ze d 164 48 [l0, l1, l2, l3, l4] (aI (s r i.toNat) :: st) s := Ze_n (i := .iaload) (len := 1) (by decide +kernel) (if_pos ⟨h0, h1⟩)
theorem x164_48 : Ze d 164 48 [l0, l1, l2, l3, l4] (aI z :: st) s = Ze d 164 49 [l0, l1, l2, aI z, l4] st s := Ze_n (i := (.istore_n 3)) (len := 1) (by decide +kernel) rfl
theorem x164_49 : Ze d 164 49 [l0, l1, l2, l3, aI z] st s = Ze d 164 52 [l0, l1, l2, l3, aI (wrap (z + 1))] st s := Ze_n (i := (.iinc 4 1)) (len := 3) (by decide +kernel) rfl
theorem x164_52 : Ze d 164 52 [l0, l1, l2, l3, l4] st s = Ze d 164 7 [l0, l1, l2, l3, l4] st s := Ze_n (i := (.goto (-45))) (len := 3) (by decide +kernel) rfl
theorem x164_55 : Ze d 164 55 [aR r, l1, l2, l3, l4] st s = Ze d 164 56 [aR r, l1, l2, l3, l4] (aR r :: st) s := Ze_n (i := (.aload_n 0)) (len := 1) (by decide +kernel) rfl
theorem x164_56 : Ze d 164 56 [l0, l1, l2, l3, l4] st s = Ze d 164 57 [l0, l1, l2, l3, l4] (aI 1 :: st) s := Ze_n (i := (.iconst 1)) (len := 1) (by decide +kernel) rfl
theorem x164_57 : Ze d 164 57 [l0, aI z, l2, l3, l4] st s = Ze d 164 58 [l0, aI z, l2, l3, l4] (aI z :: st) s := Ze_n (i := (.iload_n 1)) (len := 1) (by decide +kernel) rfl
theorem x164_58 : Ze d 164 58 [l0, l1, l2, l3, l4] st s = Ze d 164 59 [l0, l1, l2, l3, l4] (aI 0 :: st) s := Ze_n (i := (.iconst 0)) (len := 1) (by decide +kernel) rfl
theorem x164_59 : Ze d 164 59 [l0, l1, aI z, l3, l4] st s = Ze d 164 60 [l0, l1, aI z, l3, l4] (aI z :: st) s := Ze_n (i := (.iload_n 2)) (len := 1) (by decide +kernel) rfl
theorem x164_60 (h : obC r = 12) (h6 : st.length ≤ 4) : Ze d 164 60 [l0, l1, l2, l3, l4] (aI a4 :: aI a3 :: aI a2 :: aI a1 :: aR r :: st) s = zcI (Zc d 165 [aR r, aI a1, aI a2, aI a3, aI a4] s) d 164 63 [l0, l1, l2, l3, l4] st := Ze_cvI (idx := 51) (len := 3) (as := [aI a1, aI a2, aI a3, aI a4]) (by decide +kernel) rfl (by decide +kernel) rfl h h6
theorem x164_63 : Ze d 164 63 [l0, l1, l2, l3, l4] [aI z] s = rI z s := Ze_i1 (by decide +kernel) rfl
theorem en164 : Zc (d + 1) 164 [aR r, aI a1] s = Ze d 164 0 [aR r, aI a1, aU, aU, aU] [] s := rfl
theorem x166_0 : Ze d 166 0 [aR r, l1, l2, l3, l4] st s = Ze d 166 1 [aR r, l1, l2, l3, l4] (aR r :: st) s := Ze_n (i := (.aload_n 0)) (len := 1) (by decide +kernel) rfl
theorem x166_1 (h : obC r = 12) : Ze d 166 1 [l0, l1, l2, l3, l4] (aR r :: st) s = Ze d 166 4 [l0, l1, l2, l3, l4] (aI (s r 10) :: st) s := Ze_gf (len := 3) (idx := 44) (by decide +kernel) rfl h rfl
theorem x166_4 : Ze d 166 4 [l0, l1, l2, l3, l4] (aI z :: st) s = Ze d 166 6 [l0, l1, l2, l3, aI z] st s := Ze_n (i := (.istore 4)) (len := 2) (by decide +kernel) rfl
theorem x166_6 : Ze d 166 6 [aR r, l1, l2, l3, l4] st s = Ze d 166 7 [aR r, l1, l2, l3, l4] (aR r :: st) s := Ze_n (i := (.aload_n 0)) (len := 1) (by decide +kernel) rfl
theorem x166_7 (h : obC r = 12) : Ze d 166 7 [l0, l1, l2, l3, l4] (aR r :: st) s = Ze d 166 10 [l0, l1, l2, l3, l4] (aR (fcn r 5) :: st) s := Ze_gf (len := 3) (idx := 24) (by decide +kernel) rfl h rfl
theorem x166_10 : Ze d 166 10 [l0, l1, l2, l3, aI z] st s = Ze d 166 12 [l0, l1, l2, l3, aI z] (aI z :: st) s := Ze_n (i := (.iload 4)) (len := 2) (by decide +kernel) rfl
theorem x166_12 : Ze d 166 12 [l0, aI z, l2, l3, l4] st s = Ze d 166 13 [l0, aI z, l2, l3, l4] (aI z :: st) s := Ze_n (i := (.iload_n 1)) (len := 1) (by decide +kernel) rfl
theorem x166_13 (h0 : 0 ≤ i) (h1 : i < aN1 r) : Ze d 166 13 [l0, l1, l2, l3, l4] (aI z :: aI i :: aR r :: st) s = Ze d 166 14 [l0, l1, l2, l3, l4] st (mu s r i.toNat z) := Ze_n (i := .iastore) (len := 1) (by decide +kernel) (if_pos ⟨h0, h1⟩)
theorem x166_14 : Ze d 166 14 [aR r, l1, l2, l3, l4] st s = Ze d 166 15 [aR r, l1, l2, l3, l4] (aR r :: st) s := Ze_n (i := (.aload_n 0)) (len := 1) (by decide +kernel) rfl
theorem x166_15 (h : obC r = 12) : Ze d 166 15 [l0, l1, l2, l3, l4] (aR r :: st) s = Ze d 166 18 [l0, l1, l2, l3, l4] (aR (fcn r 6) :: st) s := Ze_gf (len := 3) (idx := 27) (by decide +kernel) rfl h rfl
theorem x166_18 : Ze d 166 18 [l0, l1, l2, l3, aI z] st s = Ze d 166 20 [l0, l1, l2, l3, aI z] (aI z :: st) s := Ze_n (i := (.iload 4)) (len := 2) (by decide +kernel) rfl
theorem x166_20 : Ze d 166 20 [l0, l1, aI z, l3, l4] st s = Ze d 166 21 [l0, l1, aI z, l3, l4] (aI z :: st) s := Ze_n (i := (.iload_n 2)) (len := 1) (by decide +kernel) rfl
theorem x166_21 (h0 : 0 ≤ i) (h1 : i < aN2 r) (h2 : z = 0 ∨ z = 1) : Ze d 166 21 [l0, l1, l2, l3, l4] (aI z :: aI i :: aR r :: st) s = Ze d 166 22 [l0, l1, l2, l3, l4] st (mu s r i.toNat z) := Ze_n (i := .bastore) (len := 1) (by decide +kernel) (if_pos ⟨h0, h1, h2⟩)
theorem x166_22 : Ze d 166 22 [aR r, l1, l2, l3, l4] st s = Ze d 166 23 [aR r, l1, l2, l3, l4] (aR r :: st) s := Ze_n (i := (.aload_n 0)) (len := 1) (by decide +kernel) rfl
theorem x166_23 (h : obC r = 12) : Ze d 166 23 [l0, l1, l2, l3, l4] (aR r :: st) s = Ze d 166 26 [l0, l1, l2, l3, l4] (aR (fcn r 7) :: st) s := Ze_gf (len := 3) (idx := 31) (by decide +kernel) rfl h rfl
theorem x166_26 : Ze d 166 26 [l0, l1, l2, l3, aI z] st s = Ze d 166 28 [l0, l1, l2, l3, aI z] (aI z :: st) s := Ze_n (i := (.iload 4)) (len := 2) (by decide +kernel) rfl
theorem x166_28 : Ze d 166 28 [l0, l1, l2, aI z, l4] st s = Ze d 166 29 [l0, l1, l2, aI z, l4] (aI z :: st) s := Ze_n (i := (.iload_n 3)) (len := 1) (by decide +kernel) rfl
theorem x166_29 (h0 : 0 ≤ i) (h1 : i < aN1 r) : Ze d 166 29 [l0, l1, l2, l3, l4] (aI z :: aI i :: aR r :: st) s = Ze d 166 30 [l0, l1, l2, l3, l4] st (mu s r i.toNat z) := Ze_n (i := .iastore) (len := 1) (by decide +kernel) (if_pos ⟨h0, h1⟩)
theorem x166_30 : Ze d 166 30 [aR r, l1, l2, l3, l4] st s = Ze d 166 31 [aR r, l1, l2, l3, l4] (aR r :: st) s := Ze_n (i := (.aload_n 0)) (len := 1) (by decide +kernel) rfl
theorem x166_31 (h : obC r = 12) : Ze d 166 31 [l0, l1, l2, l3, l4] (aR r :: st) s = Ze d 166 34 [l0, l1, l2, l3, l4] (aR (fcn r 9) :: st) s := Ze_gf (len := 3) (idx := 37) (by decide +kernel) rfl h rfl
theorem x166_34 : Ze d 166 34 [l0, l1, l2, l3, aI z] st s = Ze d 166 36 [l0, l1, l2, l3, aI z] (aI z :: st) s := Ze_n (i := (.iload 4)) (len := 2) (by decide +kernel) rfl
theorem x166_36 : Ze d 166 36 [l0, l1, l2, l3, l4] st s = Ze d 166 37 [l0, l1, l2, l3, l4] (aI (-1) :: st) s := Ze_n (i := (.iconst (-1))) (len := 1) (by decide +kernel) rfl
theorem x166_37 (h0 : 0 ≤ i) (h1 : i < aN1 r) : Ze d 166 37 [l0, l1, l2, l3, l4] (aI z :: aI i :: aR r :: st) s = Ze d 166 38 [l0, l1, l2, l3, l4] st (mu s r i.toNat z) := Ze_n (i := .iastore) (len := 1) (by decide +kernel) (if_pos ⟨h0, h1⟩)
theorem x166_38 : Ze d 166 38 [aR r, l1, l2, l3, l4] st s = Ze d 166 39 [aR r, l1, l2, l3, l4] (aR r :: st) s := Ze_n (i := (.aload_n 0)) (len := 1) (by decide +kernel) rfl
theorem x166_39 : Ze d 166 39 [l0, l1, l2, l3, l4] (aR r :: st) s = Ze d 166 40 [l0, l1, l2, l3, l4] (aR r :: aR r :: st) s := Ze_n (i := .dup) (len := 1) (by decide +kernel) rfl
theorem x166_39i : Ze d 166 39 [l0, l1, l2, l3, l4] (aI a :: st) s = Ze d 166 40 [l0, l1, l2, l3, l4] (aI a :: aI a :: st) s := Ze_n (i := .dup) (len := 1) (by decide +kernel) rfl
theorem x166_40 (h : obC r = 12) : Ze d 166 40 [l0, l1, l2, l3, l4] (aR r :: st) s = Ze d 166 43 [l0, l1, l2, l3, l4] (aI (s r 10) :: st) s := Ze_gf (len := 3) (idx := 44) (by decide +kernel) rfl h rfl
theorem x166_43 : Ze d 166 43 [l0, l1, l2, l3, l4] st s = Ze d 166 44 [l0, l1, l2, l3, l4] (aI 1 :: st) s := Ze_n (i := (.iconst 1)) (len := 1) (by decide +kernel) rfl
theorem x166_44 : Ze d 166 44 [l0, l1, l2, l3, l4] (aI b :: aI a :: st) s = Ze d 166 45 [l0, l1, l2, l3, l4] (aI (wrap (a + b)) :: st) s := Ze_n (i := .iadd) (len := 1) (by decide +kernel) rfl
theorem x166_45 (h : obC r = 12) : Ze d 166 45 [l0, l1, l2, l3, l4] (aI z :: aR r :: st) s = Ze d 166 48 [l0, l1, l2, l3, l4] st (mu s r 10 z) := Ze_n (i := .putfield 44) (len := 3) (by decide +kernel) (if_pos h)
theorem x166_48 : Ze d 166 48 [l0, l1, l2, l3, aI z] st s = Ze d 166 50 [l0, l1, l2, l3, aI z] (aI z :: st) s := Ze_n (i := (.iload 4)) (len := 2) (by decide +kernel) rfl
theorem x166_50 : Ze d 166 50 [l0, l1, l2, l3, l4] [aI z] s = rI z s := Ze_i1 (by decide +kernel) rfl
theorem en166 : Zc (d + 1) 166 [aR r, aI a1, aI a2, aI a3] s = Ze d 166 0 [aR r, aI a1, aI a2, aI a3, aU] [] s := rfl
theorem x161_0 : Ze d 161 0 [aR r] st s = Ze d 161 1 [aR r] (aR r :: st) s := Ze_n (i := (.aload_n 0)) (len := 1) (by decide +kernel) rfl
theorem x161_1 : Ze d 161 1 [l0] st s = Ze d 161 2 [l0] (aI 0 :: st) s := Ze_n (i := (.iconst 0)) (len := 1) (by decide +kernel) rfl
theorem x161_2 (h : obC r = 12) : Ze d 161 2 [l0] (aI z :: aR r :: st) s = Ze d 161 5 [l0] st (mu s r 4 z) := Ze_n (i := .putfield 40) (len := 3) (by decide +kernel) (if_pos h)
theorem x161_5 : Ze d 161 5 [aR r] st s = Ze d 161 6 [aR r] (aR r :: st) s := Ze_n (i := (.aload_n 0)) (len := 1) (by decide +kernel) rfl
theorem x161_6 : Ze d 161 6 [l0] st s = Ze d 161 7 [l0] (aI 0 :: st) s := Ze_n (i := (.iconst 0)) (len := 1) (by decide +kernel) rfl
theorem x161_7 (h : obC r = 12) : Ze d 161 7 [l0] (aI z :: aR r :: st) s = Ze d 161 10 [l0] st (mu s r 10 z) := Ze_n (i := .putfield 44) (len := 3) (by decide +kernel) (if_pos h)
theorem x161_10 : Ze d 161 10 [aR r] st s = Ze d 161 11 [aR r] (aR r :: st) s := Ze_n (i := (.aload_n 0)) (len := 1) (by decide +kernel) rfl
theorem x161_11 : Ze d 161 11 [l0] st s = Ze d 161 12 [l0] (aI 0 :: st) s := Ze_n (i := (.iconst 0)) (len := 1) (by decide +kernel) rfl
theorem x161_12 (h : obC r = 12) (h6 : st.length ≤ 4) : Ze d 161 12 [l0] (aI a1 :: aR r :: st) s = zcI (Zc d 162 [aR r, aI a1] s) d 161 15 [l0] st := Ze_cvI (idx := 47) (len := 3) (as := [aI a1]) (by decide +kernel) rfl (by decide +kernel) rfl h h6
theorem x161_15 : Ze d 161 15 [l0] (aI a :: st) s = Ze d 161 16 [l0] st s := Ze_n (i := .pop) (len := 1) (by decide +kernel) rfl
theorem x161_16 : Ze d 161 16 [l0] [] s = rV s := Ze_v (by decide +kernel) rfl
theorem en161 : Zc (d + 1) 161 [aR r] s = Ze d 161 0 [aR r] [] s := rfl
theorem x130_0 : Ze d 130 0 [l0, aI z, l2, l3] st s = Ze d 130 1 [l0, aI z, l2, l3] (aI z :: st) s := Ze_n (i := (.iload_n 1)) (len := 1) (by decide +kernel) rfl
theorem x130_1 : Ze d 130 1 [l0, l1, l2, l3] st s = Ze d 130 2 [l0, l1, l2, l3] (aI 3 :: st) s := Ze_n (i := (.iconst 3)) (len := 1) (by decide +kernel) rfl
theorem x130_2 : Ze d 130 2 [l0, l1, l2, l3] (aI b :: aI a :: st) s = if b < a then Ze d 130 5 [l0, l1, l2, l3] st s else Ze d 130 10 [l0, l1, l2, l3] st s := Ze_b (i := (.if_icmp .le 8)) (len := 3) (by decide +kernel) rfl
theorem x130_5 : Ze d 130 5 [aR r, l1, l2, l3] st s = Ze d 130 6 [aR r, l1, l2, l3] (aR r :: st) s := Ze_n (i := (.aload_n 0)) (len := 1) (by decide +kernel) rfl
theorem x130_6 (h : obC r = 7) (h6 : st.length ≤ 4) : Ze d 130 6 [l0, l1, l2, l3] (aR r :: st) s = zcI (Zc d 142 [aR r] s) d 130 9 [l0, l1, l2, l3] st := Ze_cvI (idx := 75) (len := 3) (as := []) (by decide +kernel) rfl (by decide +kernel) rfl h h6
theorem x130_9 : Ze d 130 9 [l0, l1, l2, l3] [aI z] s = rI z s := Ze_i1 (by decide +kernel) rfl
theorem x130_10 : Ze d 130 10 [aR r, l1, l2, l3] st s = Ze d 130 11 [aR r, l1, l2, l3] (aR r :: st) s := Ze_n (i := (.aload_n 0)) (len := 1) (by decide +kernel) rfl
theorem x130_11 (h : obC r = 7) (h6 : st.length ≤ 4) : Ze d 130 11 [l0, l1, l2, l3] (aR r :: st) s = zcI (Zc d 138 [aR r] s) d 130 14 [l0, l1, l2, l3] st := Ze_cvI (idx := 38) (len := 3) (as := []) (by decide +kernel) rfl (by decide +kernel) rfl h h6
theorem x130_14 : Ze d 130 14 [l0, l1, l2, l3] st s = Ze d 130 16 [l0, l1, l2, l3] (aI 85 :: st) s := Ze_n (i := (.bipush 85)) (len := 2) (by decide +kernel) rfl
theorem x130_16 : Ze d 130 16 [l0, l1, l2, l3] (aI b :: aI a :: st) s = if a = b then Ze d 130 19 [l0, l1, l2, l3] st s else Ze d 130 27 [l0, l1, l2, l3] st s := Ze_b (i := (.if_icmp .ne 11)) (len := 3) (by decide +kernel) rfl
theorem x130_19 : Ze d 130 19 [aR r, l1, l2, l3] st s = Ze d 130 20 [aR r, l1, l2, l3] (aR r :: st) s := Ze_n (i := (.aload_n 0)) (len := 1) (by decide +kernel) rfl
theorem x130_20 (h : obC r = 7) (h6 : st.length ≤ 4) : Ze d 130 20 [l0, l1, l2, l3] (aR r :: st) s = zcI (Zc d 131 [aR r] s) d 130 23 [l0, l1, l2, l3] st := Ze_cvI (idx := 105) (len := 3) (as := []) (by decide +kernel) rfl (by decide +kernel) rfl h h6
theorem x130_23 : Ze d 130 23 [l0, l1, l2, l3] (aI z :: st) s = Ze d 130 24 [l0, l1, aI z, l3] st s := Ze_n (i := (.istore_n 2)) (len := 1) (by decide +kernel) rfl
theorem x130_24 : Ze d 130 24 [l0, l1, l2, l3] st s = Ze d 130 50 [l0, l1, l2, l3] st s := Ze_n (i := (.goto 26)) (len := 3) (by decide +kernel) rfl
theorem x130_27 : Ze d 130 27 [aR r, l1, l2, l3] st s = Ze d 130 28 [aR r, l1, l2, l3] (aR r :: st) s := Ze_n (i := (.aload_n 0)) (len := 1) (by decide +kernel) rfl
theorem x130_28 (h : obC r = 7) (h6 : st.length ≤ 4) : Ze d 130 28 [l0, l1, l2, l3] (aR r :: st) s = zcI (Zc d 138 [aR r] s) d 130 31 [l0, l1, l2, l3] st := Ze_cvI (idx := 38) (len := 3) (as := []) (by decide +kernel) rfl (by decide +kernel) rfl h h6
theorem x130_31 : Ze d 130 31 [l0, l1, l2, l3] st s = Ze d 130 33 [l0, l1, l2, l3] (aI 123 :: st) s := Ze_n (i := (.bipush 123)) (len := 2) (by decide +kernel) rfl
theorem x130_33 : Ze d 130 33 [l0, l1, l2, l3] (aI b :: aI a :: st) s = if a = b then Ze d 130 36 [l0, l1, l2, l3] st s else Ze d 130 45 [l0, l1, l2, l3] st s := Ze_b (i := (.if_icmp .ne 12)) (len := 3) (by decide +kernel) rfl
theorem x130_36 : Ze d 130 36 [aR r, l1, l2, l3] st s = Ze d 130 37 [aR r, l1, l2, l3] (aR r :: st) s := Ze_n (i := (.aload_n 0)) (len := 1) (by decide +kernel) rfl
theorem x130_37 : Ze d 130 37 [l0, aI z, l2, l3] st s = Ze d 130 38 [l0, aI z, l2, l3] (aI z :: st) s := Ze_n (i := (.iload_n 1)) (len := 1) (by decide +kernel) rfl
theorem x130_38 (h : obC r = 7) (h6 : st.length ≤ 4) : Ze d 130 38 [l0, l1, l2, l3] (aI a1 :: aR r :: st) s = zcI (Zc d 133 [aR r, aI a1] s) d 130 41 [l0, l1, l2, l3] st := Ze_cvI (idx := 108) (len := 3) (as := [aI a1]) (by decide +kernel) rfl (by decide +kernel) rfl h h6
theorem x130_41 : Ze d 130 41 [l0, l1, l2, l3] (aI z :: st) s = Ze d 130 42 [l0, l1, aI z, l3] st s := Ze_n (i := (.istore_n 2)) (len := 1) (by decide +kernel) rfl
theorem x130_42 : Ze d 130 42 [l0, l1, l2, l3] st s = Ze d 130 50 [l0, l1, l2, l3] st s := Ze_n (i := (.goto 8)) (len := 3) (by decide +kernel) rfl
theorem x130_45 : Ze d 130 45 [aR r, l1, l2, l3] st s = Ze d 130 46 [aR r, l1, l2, l3] (aR r :: st) s := Ze_n (i := (.aload_n 0)) (len := 1) (by decide +kernel) rfl
theorem x130_46 (h : obC r = 7) (h6 : st.length ≤ 4) : Ze d 130 46 [l0, l1, l2, l3] (aR r :: st) s = zcI (Zc d 142 [aR r] s) d 130 49 [l0, l1, l2, l3] st := Ze_cvI (idx := 75) (len := 3) (as := []) (by decide +kernel) rfl (by decide +kernel) rfl h h6
theorem x130_49 : Ze d 130 49 [l0, l1, l2, l3] [aI z] s = rI z s := Ze_i1 (by decide +kernel) rfl
theorem x130_50 : Ze d 130 50 [l0, l1, l2, l3] st s = Ze d 130 51 [l0, l1, l2, l3] (aI 0 :: st) s := Ze_n (i := (.iconst 0)) (len := 1) (by decide +kernel) rfl
theorem x130_51 : Ze d 130 51 [l0, l1, l2, l3] (aI z :: st) s = Ze d 130 52 [l0, l1, l2, aI z] st s := Ze_n (i := (.istore_n 3)) (len := 1) (by decide +kernel) rfl
theorem x130_52 : Ze d 130 52 [l0, l1, l2, aI z] st s = Ze d 130 53 [l0, l1, l2, aI z] (aI z :: st) s := Ze_n (i := (.iload_n 3)) (len := 1) (by decide +kernel) rfl
theorem x130_53 : Ze d 130 53 [l0, l1, l2, l3] st s = Ze d 130 56 [l0, l1, l2, l3] (aI 200 :: st) s := Ze_n (i := (.sipush 200)) (len := 3) (by decide +kernel) rfl
theorem x130_56 : Ze d 130 56 [l0, l1, l2, l3] (aI b :: aI a :: st) s = if a < b then Ze d 130 59 [l0, l1, l2, l3] st s else Ze d 130 85 [l0, l1, l2, l3] st s := Ze_b (i := (.if_icmp .ge 29)) (len := 3) (by decide +kernel) rfl
theorem x130_59 : Ze d 130 59 [l0, l1, aI z, l3] st s = Ze d 130 60 [l0, l1, aI z, l3] (aI z :: st) s := Ze_n (i := (.iload_n 2)) (len := 1) (by decide +kernel) rfl
theorem x130_60 : Ze d 130 60 [l0, l1, l2, l3] st s = Ze d 130 61 [l0, l1, l2, l3] (aI (-1) :: st) s := Ze_n (i := (.iconst (-1))) (len := 1) (by decide +kernel) rfl
theorem x130_61 : Ze d 130 61 [l0, l1, l2, l3] (aI b :: aI a :: st) s = if a = b then Ze d 130 85 [l0, l1, l2, l3] st s else Ze d 130 64 [l0, l1, l2, l3] st s := Ze_b (i := (.if_icmp .eq 24)) (len := 3) (by decide +kernel) rfl
theorem x130_64 : Ze d 130 64 [aR r, l1, l2, l3] st s = Ze d 130 65 [aR r, l1, l2, l3] (aR r :: st) s := Ze_n (i := (.aload_n 0)) (len := 1) (by decide +kernel) rfl
theorem x130_65 (h : obC r = 7) (h6 : st.length ≤ 4) : Ze d 130 65 [l0, l1, l2, l3] (aR r :: st) s = zcI (Zc d 138 [aR r] s) d 130 68 [l0, l1, l2, l3] st := Ze_cvI (idx := 38) (len := 3) (as := []) (by decide +kernel) rfl (by decide +kernel) rfl h h6
theorem x130_68 : Ze d 130 68 [l0, l1, l2, l3] st s = Ze d 130 70 [l0, l1, l2, l3] (aI 91 :: st) s := Ze_n (i := (.bipush 91)) (len := 2) (by decide +kernel) rfl
theorem x130_70 : Ze d 130 70 [l0, l1, l2, l3] (aI b :: aI a :: st) s = if a = b then Ze d 130 73 [l0, l1, l2, l3] st s else Ze d 130 85 [l0, l1, l2, l3] st s := Ze_b (i := (.if_icmp .ne 15)) (len := 3) (by decide +kernel) rfl
theorem x130_73 : Ze d 130 73 [aR r, l1, l2, l3] st s = Ze d 130 74 [aR r, l1, l2, l3] (aR r :: st) s := Ze_n (i := (.aload_n 0)) (len := 1) (by decide +kernel) rfl
theorem x130_74 : Ze d 130 74 [l0, l1, aI z, l3] st s = Ze d 130 75 [l0, l1, aI z, l3] (aI z :: st) s := Ze_n (i := (.iload_n 2)) (len := 1) (by decide +kernel) rfl
theorem x130_75 (h : obC r = 7) (h6 : st.length ≤ 4) : Ze d 130 75 [l0, l1, l2, l3] (aI a1 :: aR r :: st) s = zcI (Zc d 132 [aR r, aI a1] s) d 130 78 [l0, l1, l2, l3] st := Ze_cvI (idx := 111) (len := 3) (as := [aI a1]) (by decide +kernel) rfl (by decide +kernel) rfl h h6
theorem x130_78 : Ze d 130 78 [l0, l1, l2, l3] (aI z :: st) s = Ze d 130 79 [l0, l1, aI z, l3] st s := Ze_n (i := (.istore_n 2)) (len := 1) (by decide +kernel) rfl
theorem x130_79 : Ze d 130 79 [l0, l1, l2, aI z] st s = Ze d 130 82 [l0, l1, l2, aI (wrap (z + 1))] st s := Ze_n (i := (.iinc 3 1)) (len := 3) (by decide +kernel) rfl
theorem x130_82 : Ze d 130 82 [l0, l1, l2, l3] st s = Ze d 130 52 [l0, l1, l2, l3] st s := Ze_n (i := (.goto (-30))) (len := 3) (by decide +kernel) rfl
theorem x130_85 : Ze d 130 85 [l0, l1, aI z, l3] st s = Ze d 130 86 [l0, l1, aI z, l3] (aI z :: st) s := Ze_n (i := (.iload_n 2)) (len := 1) (by decide +kernel) rfl
theorem x130_86 : Ze d 130 86 [l0, l1, l2, l3] [aI z] s = rI z s := Ze_i1 (by decide +kernel) rfl
theorem en130 : Zc (d + 1) 130 [aR r, aI a1] s = Ze d 130 0 [aR r, aI a1, aU, aU] [] s := rfl
theorem x131_0 : Ze d 131 0 [aR r, l1] st s = Ze d 131 1 [aR r, l1] (aR r :: st) s := Ze_n (i := (.aload_n 0)) (len := 1) (by decide +kernel) rfl
theorem x131_1 : Ze d 131 1 [l0, l1] (aR r :: st) s = Ze d 131 2 [l0, l1] (aR r :: aR r :: st) s := Ze_n (i := .dup) (len := 1) (by decide +kernel) rfl
theorem x131_1i : Ze d 131 1 [l0, l1] (aI a :: st) s = Ze d 131 2 [l0, l1] (aI a :: aI a :: st) s := Ze_n (i := .dup) (len := 1) (by decide +kernel) rfl
theorem x131_2 (h : obC r = 7) : Ze d 131 2 [l0, l1] (aR r :: st) s = Ze d 131 5 [l0, l1] (aI (s r 4) :: st) s := Ze_gf (len := 3) (idx := 72) (by decide +kernel) rfl h rfl
theorem x131_5 : Ze d 131 5 [l0, l1] st s = Ze d 131 6 [l0, l1] (aI 1 :: st) s := Ze_n (i := (.iconst 1)) (len := 1) (by decide +kernel) rfl
theorem x131_6 : Ze d 131 6 [l0, l1] (aI b :: aI a :: st) s = Ze d 131 7 [l0, l1] (aI (wrap (a + b)) :: st) s := Ze_n (i := .iadd) (len := 1) (by decide +kernel) rfl
theorem x131_7 (h : obC r = 7) : Ze d 131 7 [l0, l1] (aI z :: aR r :: st) s = Ze d 131 10 [l0, l1] st (mu s r 4 z) := Ze_n (i := .putfield 72) (len := 3) (by decide +kernel) (if_pos h)
theorem x131_10 : Ze d 131 10 [aR r, l1] st s = Ze d 131 11 [aR r, l1] (aR r :: st) s := Ze_n (i := (.aload_n 0)) (len := 1) (by decide +kernel) rfl
theorem x131_11 (h : obC r = 7) (h6 : st.length ≤ 4) : Ze d 131 11 [l0, l1] (aR r :: st) s = zcI (Zc d 138 [aR r] s) d 131 14 [l0, l1] st := Ze_cvI (idx := 38) (len := 3) (as := []) (by decide +kernel) rfl (by decide +kernel) rfl h h6
theorem x131_14 : Ze d 131 14 [l0, l1] st s = Ze d 131 15 [l0, l1] (aI 2 :: st) s := Ze_n (i := (.iconst 2)) (len := 1) (by decide +kernel) rfl
theorem x131_15 : Ze d 131 15 [l0, l1] (aI b :: aI a :: st) s = if a = b then Ze d 131 27 [l0, l1] st s else Ze d 131 18 [l0, l1] st s := Ze_b (i := (.if_icmp .eq 12)) (len := 3) (by decide +kernel) rfl
theorem x131_18 : Ze d 131 18 [aR r, l1] st s = Ze d 131 19 [aR r, l1] (aR r :: st) s := Ze_n (i := (.aload_n 0)) (len := 1) (by decide +kernel) rfl
theorem x131_19 (h : obC r = 7) : Ze d 131 19 [l0, l1] (aR r :: st) s = Ze d 131 22 [l0, l1] (aR (fcn r 1) :: st) s := Ze_gf (len := 3) (idx := 19) (by decide +kernel) rfl h rfl
theorem x131_22 : Ze d 131 22 [l0, l1] st s = Ze d 131 23 [l0, l1] (aI 0 :: st) s := Ze_n (i := (.iconst 0)) (len := 1) (by decide +kernel) rfl
theorem x131_23 (h : obC r = 12) (h6 : st.length ≤ 4) : Ze d 131 23 [l0, l1] (aI a1 :: aR r :: st) s = zcI (Zc d 162 [aR r, aI a1] s) d 131 26 [l0, l1] st := Ze_cvI (idx := 114) (len := 3) (as := [aI a1]) (by decide +kernel) rfl (by decide +kernel) rfl h h6
theorem x131_26 : Ze d 131 26 [l0, l1] [aI z] s = rI z s := Ze_i1 (by decide +kernel) rfl
theorem x131_27 : Ze d 131 27 [aR r, l1] st s = Ze d 131 28 [aR r, l1] (aR r :: st) s := Ze_n (i := (.aload_n 0)) (len := 1) (by decide +kernel) rfl
theorem x131_28 : Ze d 131 28 [l0, l1] st s = Ze d 131 29 [l0, l1] (aI 1 :: st) s := Ze_n (i := (.iconst 1)) (len := 1) (by decide +kernel) rfl
theorem x131_29 : Ze d 131 29 [l0, l1] st s = Ze d 131 31 [l0, l1] (aI 16 :: st) s := Ze_n (i := (.bipush 16)) (len := 2) (by decide +kernel) rfl
theorem x131_31 (h : obC r = 7) (h6 : st.length ≤ 4) : Ze d 131 31 [l0, l1] (aI a2 :: aI a1 :: aR r :: st) s = zcI (Zc d 140 [aR r, aI a1, aI a2] s) d 131 34 [l0, l1] st := Ze_cvI (idx := 117) (len := 3) (as := [aI a1, aI a2]) (by decide +kernel) rfl (by decide +kernel) rfl h h6
theorem x131_34 : Ze d 131 34 [l0, l1] (aI z :: st) s = Ze d 131 35 [l0, aI z] st s := Ze_n (i := (.istore_n 1)) (len := 1) (by decide +kernel) rfl
theorem x131_35 : Ze d 131 35 [l0, aI z] st s = Ze d 131 36 [l0, aI z] (aI z :: st) s := Ze_n (i := (.iload_n 1)) (len := 1) (by decide +kernel) rfl
theorem x131_36 : Ze d 131 36 [l0, l1] st s = Ze d 131 37 [l0, l1] (aI (-1) :: st) s := Ze_n (i := (.iconst (-1))) (len := 1) (by decide +kernel) rfl
theorem x131_37 : Ze d 131 37 [l0, l1] (aI b :: aI a :: st) s = if a = b then Ze d 131 40 [l0, l1] st s else Ze d 131 44 [l0, l1] st s := Ze_b (i := (.if_icmp .ne 7)) (len := 3) (by decide +kernel) rfl
theorem x131_40 : Ze d 131 40 [l0, l1] st s = Ze d 131 41 [l0, l1] (aI (-1) :: st) s := Ze_n (i := (.iconst (-1))) (len := 1) (by decide +kernel) rfl
theorem x131_41 : Ze d 131 41 [l0, l1] st s = Ze d 131 52 [l0, l1] st s := Ze_n (i := (.goto 11)) (len := 3) (by decide +kernel) rfl
theorem x131_44 : Ze d 131 44 [aR r, l1] st s = Ze d 131 45 [aR r, l1] (aR r :: st) s := Ze_n (i := (.aload_n 0)) (len := 1) (by decide +kernel) rfl
theorem x131_45 (h : obC r = 7) : Ze d 131 45 [l0, l1] (aR r :: st) s = Ze d 131 48 [l0, l1] (aR (fcn r 1) :: st) s := Ze_gf (len := 3) (idx := 19) (by decide +kernel) rfl h rfl
theorem x131_48 : Ze d 131 48 [l0, aI z] st s = Ze d 131 49 [l0, aI z] (aI z :: st) s := Ze_n (i := (.iload_n 1)) (len := 1) (by decide +kernel) rfl
theorem x131_49 (h : obC r = 12) (h6 : st.length ≤ 4) : Ze d 131 49 [l0, l1] (aI a1 :: aR r :: st) s = zcI (Zc d 162 [aR r, aI a1] s) d 131 52 [l0, l1] st := Ze_cvI (idx := 114) (len := 3) (as := [aI a1]) (by decide +kernel) rfl (by decide +kernel) rfl h h6
theorem x131_52 : Ze d 131 52 [l0, l1] [aI z] s = rI z s := Ze_i1 (by decide +kernel) rfl
theorem en131 : Zc (d + 1) 131 [aR r] s = Ze d 131 0 [aR r, aU] [] s := rfl
theorem x132_0 : Ze d 132 0 [aR r, l1, l2] st s = Ze d 132 1 [aR r, l1, l2] (aR r :: st) s := Ze_n (i := (.aload_n 0)) (len := 1) (by decide +kernel) rfl
theorem x132_1 : Ze d 132 1 [l0, l1, l2] (aR r :: st) s = Ze d 132 2 [l0, l1, l2] (aR r :: aR r :: st) s := Ze_n (i := .dup) (len := 1) (by decide +kernel) rfl
theorem x132_1i : Ze d 132 1 [l0, l1, l2] (aI a :: st) s = Ze d 132 2 [l0, l1, l2] (aI a :: aI a :: st) s := Ze_n (i := .dup) (len := 1) (by decide +kernel) rfl
theorem x132_2 (h : obC r = 7) : Ze d 132 2 [l0, l1, l2] (aR r :: st) s = Ze d 132 5 [l0, l1, l2] (aI (s r 4) :: st) s := Ze_gf (len := 3) (idx := 72) (by decide +kernel) rfl h rfl
theorem x132_5 : Ze d 132 5 [l0, l1, l2] st s = Ze d 132 6 [l0, l1, l2] (aI 1 :: st) s := Ze_n (i := (.iconst 1)) (len := 1) (by decide +kernel) rfl
theorem x132_6 : Ze d 132 6 [l0, l1, l2] (aI b :: aI a :: st) s = Ze d 132 7 [l0, l1, l2] (aI (wrap (a + b)) :: st) s := Ze_n (i := .iadd) (len := 1) (by decide +kernel) rfl
theorem x132_7 (h : obC r = 7) : Ze d 132 7 [l0, l1, l2] (aI z :: aR r :: st) s = Ze d 132 10 [l0, l1, l2] st (mu s r 4 z) := Ze_n (i := .putfield 72) (len := 3) (by decide +kernel) (if_pos h)
theorem x132_10 : Ze d 132 10 [aR r, l1, l2] st s = Ze d 132 11 [aR r, l1, l2] (aR r :: st) s := Ze_n (i := (.aload_n 0)) (len := 1) (by decide +kernel) rfl
theorem x132_11 : Ze d 132 11 [l0, l1, l2] st s = Ze d 132 12 [l0, l1, l2] (aI 1 :: st) s := Ze_n (i := (.iconst 1)) (len := 1) (by decide +kernel) rfl
theorem x132_12 : Ze d 132 12 [l0, l1, l2] st s = Ze d 132 13 [l0, l1, l2] (aI 4 :: st) s := Ze_n (i := (.iconst 4)) (len := 1) (by decide +kernel) rfl
theorem x132_13 (h : obC r = 7) (h6 : st.length ≤ 4) : Ze d 132 13 [l0, l1, l2] (aI a2 :: aI a1 :: aR r :: st) s = zcI (Zc d 140 [aR r, aI a1, aI a2] s) d 132 16 [l0, l1, l2] st := Ze_cvI (idx := 117) (len := 3) (as := [aI a1, aI a2]) (by decide +kernel) rfl (by decide +kernel) rfl h h6
theorem x132_16 : Ze d 132 16 [l0, l1, l2] (aI z :: st) s = Ze d 132 17 [l0, l1, aI z] st s := Ze_n (i := (.istore_n 2)) (len := 1) (by decide +kernel) rfl
theorem x132_17 : Ze d 132 17 [l0, l1, aI z] st s = Ze d 132 18 [l0, l1, aI z] (aI z :: st) s := Ze_n (i := (.iload_n 2)) (len := 1) (by decide +kernel) rfl
theorem x132_18 : Ze d 132 18 [l0, l1, l2] st s = Ze d 132 19 [l0, l1, l2] (aI (-1) :: st) s := Ze_n (i := (.iconst (-1))) (len := 1) (by decide +kernel) rfl
theorem x132_19 : Ze d 132 19 [l0, l1, l2] (aI b :: aI a :: st) s = if a = b then Ze d 132 31 [l0, l1, l2] st s else Ze d 132 22 [l0, l1, l2] st s := Ze_b (i := (.if_icmp .eq 12)) (len := 3) (by decide +kernel) rfl
theorem x132_22 : Ze d 132 22 [aR r, l1, l2] st s = Ze d 132 23 [aR r, l1, l2] (aR r :: st) s := Ze_n (i := (.aload_n 0)) (len := 1) (by decide +kernel) rfl
theorem x132_23 : Ze d 132 23 [l0, l1, l2] st s = Ze d 132 25 [l0, l1, l2] (aI 93 :: st) s := Ze_n (i := (.bipush 93)) (len := 2) (by decide +kernel) rfl
theorem x132_25 (h : obC r = 7) (h6 : st.length ≤ 4) : Ze d 132 25 [l0, l1, l2] (aI a1 :: aR r :: st) s = zcI (Zc d 141 [aR r, aI a1] s) d 132 28 [l0, l1, l2] st := Ze_cvI (idx := 87) (len := 3) (as := [aI a1]) (by decide +kernel) rfl (by decide +kernel) rfl h h6
theorem x132_28 : Ze d 132 28 [l0, l1, l2] (aI a :: st) s = if a = 0 then Ze d 132 31 [l0, l1, l2] st s else Ze d 132 33 [l0, l1, l2] st s := Ze_b (i := (.ifCond .ne 5)) (len := 3) (by decide +kernel) rfl
theorem x132_31 : Ze d 132 31 [l0, l1, l2] st s = Ze d 132 32 [l0, l1, l2] (aI (-1) :: st) s := Ze_n (i := (.iconst (-1))) (len := 1) (by decide +kernel) rfl
theorem x132_32 : Ze d 132 32 [l0, l1, l2] [aI z] s = rI z s := Ze_i1 (by decide +kernel) rfl
theorem x132_33 : Ze d 132 33 [aR r, l1, l2] st s = Ze d 132 34 [aR r, l1, l2] (aR r :: st) s := Ze_n (i := (.aload_n 0)) (len := 1) (by decide +kernel) rfl
theorem x132_34 (h : obC r = 7) : Ze d 132 34 [l0, l1, l2] (aR r :: st) s = Ze d 132 37 [l0, l1, l2] (aR (fcn r 1) :: st) s := Ze_gf (len := 3) (idx := 19) (by decide +kernel) rfl h rfl
theorem x132_37 : Ze d 132 37 [l0, aI z, l2] st s = Ze d 132 38 [l0, aI z, l2] (aI z :: st) s := Ze_n (i := (.iload_n 1)) (len := 1) (by decide +kernel) rfl
theorem x132_38 : Ze d 132 38 [l0, l1, aI z] st s = Ze d 132 39 [l0, l1, aI z] (aI z :: st) s := Ze_n (i := (.iload_n 2)) (len := 1) (by decide +kernel) rfl
theorem x132_39 (h : obC r = 12) (h6 : st.length ≤ 4) : Ze d 132 39 [l0, l1, l2] (aI a2 :: aI a1 :: aR r :: st) s = zcI (Zc d 163 [aR r, aI a1, aI a2] s) d 132 42 [l0, l1, l2] st := Ze_cvI (idx := 121) (len := 3) (as := [aI a1, aI a2]) (by decide +kernel) rfl (by decide +kernel) rfl h h6
theorem x132_42 : Ze d 132 42 [l0, l1, l2] [aI z] s = rI z s := Ze_i1 (by decide +kernel) rfl
theorem en132 : Zc (d + 1) 132 [aR r, aI a1] s = Ze d 132 0 [aR r, aI a1, aU] [] s := rfl
theorem x133_0 : Ze d 133 0 [l0, l1, l2, l3, l4, l5] st s = Ze d 133 1 [l0, l1, l2, l3, l4, l5] (aI (-1) :: st) s := Ze_n (i := (.iconst (-1))) (len := 1) (by decide +kernel) rfl
theorem x133_1 : Ze d 133 1 [l0, l1, l2, l3, l4, l5] (aI z :: st) s = Ze d 133 2 [l0, l1, aI z, l3, l4, l5] st s := Ze_n (i := (.istore_n 2)) (len := 1) (by decide +kernel) rfl
theorem x133_2 : Ze d 133 2 [l0, l1, l2, l3, l4, l5] st s = Ze d 133 3 [l0, l1, l2, l3, l4, l5] (aI (-1) :: st) s := Ze_n (i := (.iconst (-1))) (len := 1) (by decide +kernel) rfl
theorem x133_3 : Ze d 133 3 [l0, l1, l2, l3, l4, l5] (aI z :: st) s = Ze d 133 4 [l0, l1, l2, aI z, l4, l5] st s := Ze_n (i := (.istore_n 3)) (len := 1) (by decide +kernel) rfl
theorem x133_4 : Ze d 133 4 [l0, l1, l2, l3, l4, l5] st s = Ze d 133 5 [l0, l1, l2, l3, l4, l5] (aI 0 :: st) s := Ze_n (i := (.iconst 0)) (len := 1) (by decide +kernel) rfl
theorem x133_5 : Ze d 133 5 [l0, l1, l2, l3, l4, l5] (aI z :: st) s = Ze d 133 7 [l0, l1, l2, l3, aI z, l5] st s := Ze_n (i := (.istore 4)) (len := 2) (by decide +kernel) rfl
theorem x133_7 : Ze d 133 7 [l0, l1, l2, l3, aI z, l5] st s = Ze d 133 9 [l0, l1, l2, l3, aI z, l5] (aI z :: st) s := Ze_n (i := (.iload 4)) (len := 2) (by decide +kernel) rfl
theorem x133_9 : Ze d 133 9 [l0, l1, l2, l3, l4, l5] st s = Ze d 133 12 [l0, l1, l2, l3, l4, l5] (aI 200 :: st) s := Ze_n (i := (.sipush 200)) (len := 3) (by decide +kernel) rfl
theorem x133_12 : Ze d 133 12 [l0, l1, l2, l3, l4, l5] (aI b :: aI a :: st) s = if a < b then Ze d 133 15 [l0, l1, l2, l3, l4, l5] st s else Ze d 133 85 [l0, l1, l2, l3, l4, l5] st s := Ze_b (i := (.if_icmp .ge 73)) (len := 3) (by decide +kernel) rfl
theorem x133_15 : Ze d 133 15 [l0, l1, l2, l3, aI z, l5] st s = Ze d 133 17 [l0, l1, l2, l3, aI z, l5] (aI z :: st) s := Ze_n (i := (.iload 4)) (len := 2) (by decide +kernel) rfl
theorem x133_17 : Ze d 133 17 [l0, l1, l2, l3, l4, l5] (aI a :: st) s = if a = 0 then Ze d 133 29 [l0, l1, l2, l3, l4, l5] st s else Ze d 133 20 [l0, l1, l2, l3, l4, l5] st s := Ze_b (i := (.ifCond .eq 12)) (len := 3) (by decide +kernel) rfl
theorem x133_20 : Ze d 133 20 [aR r, l1, l2, l3, l4, l5] st s = Ze d 133 21 [aR r, l1, l2, l3, l4, l5] (aR r :: st) s := Ze_n (i := (.aload_n 0)) (len := 1) (by decide +kernel) rfl
theorem x133_21 (h : obC r = 7) (h6 : st.length ≤ 4) : Ze d 133 21 [l0, l1, l2, l3, l4, l5] (aR r :: st) s = zcI (Zc d 138 [aR r] s) d 133 24 [l0, l1, l2, l3, l4, l5] st := Ze_cvI (idx := 38) (len := 3) (as := []) (by decide +kernel) rfl (by decide +kernel) rfl h h6
theorem x133_24 : Ze d 133 24 [l0, l1, l2, l3, l4, l5] st s = Ze d 133 26 [l0, l1, l2, l3, l4, l5] (aI 44 :: st) s := Ze_n (i := (.bipush 44)) (len := 2) (by decide +kernel) rfl
theorem x133_26 : Ze d 133 26 [l0, l1, l2, l3, l4, l5] (aI b :: aI a :: st) s = if a = b then Ze d 133 29 [l0, l1, l2, l3, l4, l5] st s else Ze d 133 85 [l0, l1, l2, l3, l4, l5] st s := Ze_b (i := (.if_icmp .ne 59)) (len := 3) (by decide +kernel) rfl
theorem x133_29 : Ze d 133 29 [aR r, l1, l2, l3, l4, l5] st s = Ze d 133 30 [aR r, l1, l2, l3, l4, l5] (aR r :: st) s := Ze_n (i := (.aload_n 0)) (len := 1) (by decide +kernel) rfl
theorem x133_30 : Ze d 133 30 [l0, l1, l2, l3, l4, l5] (aR r :: st) s = Ze d 133 31 [l0, l1, l2, l3, l4, l5] (aR r :: aR r :: st) s := Ze_n (i := .dup) (len := 1) (by decide +kernel) rfl
theorem x133_30i : Ze d 133 30 [l0, l1, l2, l3, l4, l5] (aI a :: st) s = Ze d 133 31 [l0, l1, l2, l3, l4, l5] (aI a :: aI a :: st) s := Ze_n (i := .dup) (len := 1) (by decide +kernel) rfl
theorem x133_31 (h : obC r = 7) : Ze d 133 31 [l0, l1, l2, l3, l4, l5] (aR r :: st) s = Ze d 133 34 [l0, l1, l2, l3, l4, l5] (aI (s r 4) :: st) s := Ze_gf (len := 3) (idx := 72) (by decide +kernel) rfl h rfl
theorem x133_34 : Ze d 133 34 [l0, l1, l2, l3, l4, l5] st s = Ze d 133 35 [l0, l1, l2, l3, l4, l5] (aI 1 :: st) s := Ze_n (i := (.iconst 1)) (len := 1) (by decide +kernel) rfl
theorem x133_35 : Ze d 133 35 [l0, l1, l2, l3, l4, l5] (aI b :: aI a :: st) s = Ze d 133 36 [l0, l1, l2, l3, l4, l5] (aI (wrap (a + b)) :: st) s := Ze_n (i := .iadd) (len := 1) (by decide +kernel) rfl
theorem x133_36 (h : obC r = 7) : Ze d 133 36 [l0, l1, l2, l3, l4, l5] (aI z :: aR r :: st) s = Ze d 133 39 [l0, l1, l2, l3, l4, l5] st (mu s r 4 z) := Ze_n (i := .putfield 72) (len := 3) (by decide +kernel) (if_pos h)
theorem x133_39 : Ze d 133 39 [aR r, l1, l2, l3, l4, l5] st s = Ze d 133 40 [aR r, l1, l2, l3, l4, l5] (aR r :: st) s := Ze_n (i := (.aload_n 0)) (len := 1) (by decide +kernel) rfl
theorem x133_40 : Ze d 133 40 [l0, aI z, l2, l3, l4, l5] st s = Ze d 133 41 [l0, aI z, l2, l3, l4, l5] (aI z :: st) s := Ze_n (i := (.iload_n 1)) (len := 1) (by decide +kernel) rfl
theorem x133_41 (h : obC r = 7) (h6 : st.length ≤ 4) : Ze d 133 41 [l0, l1, l2, l3, l4, l5] (aI a1 :: aR r :: st) s = zcI (Zc d 134 [aR r, aI a1] s) d 133 44 [l0, l1, l2, l3, l4, l5] st := Ze_cvI (idx := 124) (len := 3) (as := [aI a1]) (by decide +kernel) rfl (by decide +kernel) rfl h h6
theorem x133_44 : Ze d 133 44 [l0, l1, l2, l3, l4, l5] (aI z :: st) s = Ze d 133 46 [l0, l1, l2, l3, l4, aI z] st s := Ze_n (i := (.istore 5)) (len := 2) (by decide +kernel) rfl
theorem x133_46 : Ze d 133 46 [l0, l1, l2, l3, l4, aI z] st s = Ze d 133 48 [l0, l1, l2, l3, l4, aI z] (aI z :: st) s := Ze_n (i := (.iload 5)) (len := 2) (by decide +kernel) rfl
theorem x133_48 : Ze d 133 48 [l0, l1, l2, l3, l4, l5] st s = Ze d 133 49 [l0, l1, l2, l3, l4, l5] (aI (-1) :: st) s := Ze_n (i := (.iconst (-1))) (len := 1) (by decide +kernel) rfl
theorem x133_49 : Ze d 133 49 [l0, l1, l2, l3, l4, l5] (aI b :: aI a :: st) s = if a = b then Ze d 133 52 [l0, l1, l2, l3, l4, l5] st s else Ze d 133 54 [l0, l1, l2, l3, l4, l5] st s := Ze_b (i := (.if_icmp .ne 5)) (len := 3) (by decide +kernel) rfl
theorem x133_52 : Ze d 133 52 [l0, l1, l2, l3, l4, l5] st s = Ze d 133 53 [l0, l1, l2, l3, l4, l5] (aI (-1) :: st) s := Ze_n (i := (.iconst (-1))) (len := 1) (by decide +kernel) rfl
theorem x133_53 : Ze d 133 53 [l0, l1, l2, l3, l4, l5] [aI z] s = rI z s := Ze_i1 (by decide +kernel) rfl
theorem x133_54 : Ze d 133 54 [l0, l1, l2, aI z, l4, l5] st s = Ze d 133 55 [l0, l1, l2, aI z, l4, l5] (aI z :: st) s := Ze_n (i := (.iload_n 3)) (len := 1) (by decide +kernel) rfl
theorem x133_55 : Ze d 133 55 [l0, l1, l2, l3, l4, l5] st s = Ze d 133 56 [l0, l1, l2, l3, l4, l5] (aI (-1) :: st) s := Ze_n (i := (.iconst (-1))) (len := 1) (by decide +kernel) rfl
theorem x133_56 : Ze d 133 56 [l0, l1, l2, l3, l4, l5] (aI b :: aI a :: st) s = if a = b then Ze d 133 59 [l0, l1, l2, l3, l4, l5] st s else Ze d 133 65 [l0, l1, l2, l3, l4, l5] st s := Ze_b (i := (.if_icmp .ne 9)) (len := 3) (by decide +kernel) rfl
theorem x133_59 : Ze d 133 59 [l0, l1, l2, l3, l4, aI z] st s = Ze d 133 61 [l0, l1, l2, l3, l4, aI z] (aI z :: st) s := Ze_n (i := (.iload 5)) (len := 2) (by decide +kernel) rfl
theorem x133_61 : Ze d 133 61 [l0, l1, l2, l3, l4, l5] (aI z :: st) s = Ze d 133 62 [l0, l1, aI z, l3, l4, l5] st s := Ze_n (i := (.istore_n 2)) (len := 1) (by decide +kernel) rfl
theorem x133_62 : Ze d 133 62 [l0, l1, l2, l3, l4, l5] st s = Ze d 133 76 [l0, l1, l2, l3, l4, l5] st s := Ze_n (i := (.goto 14)) (len := 3) (by decide +kernel) rfl
theorem x133_65 : Ze d 133 65 [aR r, l1, l2, l3, l4, l5] st s = Ze d 133 66 [aR r, l1, l2, l3, l4, l5] (aR r :: st) s := Ze_n (i := (.aload_n 0)) (len := 1) (by decide +kernel) rfl
theorem x133_66 (h : obC r = 7) : Ze d 133 66 [l0, l1, l2, l3, l4, l5] (aR r :: st) s = Ze d 133 69 [l0, l1, l2, l3, l4, l5] (aR (fcn r 1) :: st) s := Ze_gf (len := 3) (idx := 19) (by decide +kernel) rfl h rfl
theorem x133_69 (h : obC r = 12) : Ze d 133 69 [l0, l1, l2, l3, l4, l5] (aR r :: st) s = Ze d 133 72 [l0, l1, l2, l3, l4, l5] (aR (fcn r 9) :: st) s := Ze_gf (len := 3) (idx := 127) (by decide +kernel) rfl h rfl
theorem x133_72 : Ze d 133 72 [l0, l1, l2, aI z, l4, l5] st s = Ze d 133 73 [l0, l1, l2, aI z, l4, l5] (aI z :: st) s := Ze_n (i := (.iload_n 3)) (len := 1) (by decide +kernel) rfl
theorem x133_73 : Ze d 133 73 [l0, l1, l2, l3, l4, aI z] st s = Ze d 133 75 [l0, l1, l2, l3, l4, aI z] (aI z :: st) s := Ze_n (i := (.iload 5)) (len := 2) (by decide +kernel) rfl
theorem x133_75 (h0 : 0 ≤ i) (h1 : i < aN1 r) : Ze d 133 75 [l0, l1, l2, l3, l4, l5] (aI z :: aI i :: aR r :: st) s = Ze d 133 76 [l0, l1, l2, l3, l4, l5] st (mu s r i.toNat z) := Ze_n (i := .iastore) (len := 1) (by decide +kernel) (if_pos ⟨h0, h1⟩)
theorem x133_76 : Ze d 133 76 [l0, l1, l2, l3, l4, aI z] st s = Ze d 133 78 [l0, l1, l2, l3, l4, aI z] (aI z :: st) s := Ze_n (i := (.iload 5)) (len := 2) (by decide +kernel) rfl
theorem x133_78 : Ze d 133 78 [l0, l1, l2, l3, l4, l5] (aI z :: st) s = Ze d 133 79 [l0, l1, l2, aI z, l4, l5] st s := Ze_n (i := (.istore_n 3)) (len := 1) (by decide +kernel) rfl
theorem x133_79 : Ze d 133 79 [l0, l1, l2, l3, aI z, l5] st s = Ze d 133 82 [l0, l1, l2, l3, aI (wrap (z + 1)), l5] st s := Ze_n (i := (.iinc 4 1)) (len := 3) (by decide +kernel) rfl
theorem x133_82 : Ze d 133 82 [l0, l1, l2, l3, l4, l5] st s = Ze d 133 7 [l0, l1, l2, l3, l4, l5] st s := Ze_n (i := (.goto (-75))) (len := 3) (by decide +kernel) rfl
theorem x133_85 : Ze d 133 85 [aR r, l1, l2, l3, l4, l5] st s = Ze d 133 86 [aR r, l1, l2, l3, l4, l5] (aR r :: st) s := Ze_n (i := (.aload_n 0)) (len := 1) (by decide +kernel) rfl
theorem x133_86 : Ze d 133 86 [l0, l1, l2, l3, l4, l5] st s = Ze d 133 88 [l0, l1, l2, l3, l4, l5] (aI 125 :: st) s := Ze_n (i := (.bipush 125)) (len := 2) (by decide +kernel) rfl
theorem x133_88 (h : obC r = 7) (h6 : st.length ≤ 4) : Ze d 133 88 [l0, l1, l2, l3, l4, l5] (aI a1 :: aR r :: st) s = zcI (Zc d 141 [aR r, aI a1] s) d 133 91 [l0, l1, l2, l3, l4, l5] st := Ze_cvI (idx := 87) (len := 3) (as := [aI a1]) (by decide +kernel) rfl (by decide +kernel) rfl h h6
theorem x133_91 : Ze d 133 91 [l0, l1, l2, l3, l4, l5] (aI a :: st) s = if a = 0 then Ze d 133 105 [l0, l1, l2, l3, l4, l5] st s else Ze d 133 94 [l0, l1, l2, l3, l4, l5] st s := Ze_b (i := (.ifCond .eq 14)) (len := 3) (by decide +kernel) rfl
theorem x133_94 : Ze d 133 94 [aR r, l1, l2, l3, l4, l5] st s = Ze d 133 95 [aR r, l1, l2, l3, l4, l5] (aR r :: st) s := Ze_n (i := (.aload_n 0)) (len := 1) (by decide +kernel) rfl
theorem x133_95 (h : obC r = 7) : Ze d 133 95 [l0, l1, l2, l3, l4, l5] (aR r :: st) s = Ze d 133 98 [l0, l1, l2, l3, l4, l5] (aR (fcn r 1) :: st) s := Ze_gf (len := 3) (idx := 19) (by decide +kernel) rfl h rfl
theorem x133_98 : Ze d 133 98 [l0, l1, aI z, l3, l4, l5] st s = Ze d 133 99 [l0, l1, aI z, l3, l4, l5] (aI z :: st) s := Ze_n (i := (.iload_n 2)) (len := 1) (by decide +kernel) rfl
theorem x133_99 (h : obC r = 12) (h6 : st.length ≤ 4) : Ze d 133 99 [l0, l1, l2, l3, l4, l5] (aI a1 :: aR r :: st) s = zcI (Zc d 164 [aR r, aI a1] s) d 133 102 [l0, l1, l2, l3, l4, l5] st := Ze_cvI (idx := 130) (len := 3) (as := [aI a1]) (by decide +kernel) rfl (by decide +kernel) rfl h h6
theorem x133_102 : Ze d 133 102 [l0, l1, l2, l3, l4, l5] st s = Ze d 133 106 [l0, l1, l2, l3, l4, l5] st s := Ze_n (i := (.goto 4)) (len := 3) (by decide +kernel) rfl
theorem x133_105 : Ze d 133 105 [l0, l1, l2, l3, l4, l5] st s = Ze d 133 106 [l0, l1, l2, l3, l4, l5] (aI (-1) :: st) s := Ze_n (i := (.iconst (-1))) (len := 1) (by decide +kernel) rfl
theorem x133_106 : Ze d 133 106 [l0, l1, l2, l3, l4, l5] [aI z] s = rI z s := Ze_i1 (by decide +kernel) rfl
theorem en133 : Zc (d + 1) 133 [aR r, aI a1] s = Ze d 133 0 [aR r, aI a1, aU, aU, aU, aU] [] s := rfl
theorem x134_0 : Ze d 134 0 [aR r, l1, l2, l3, l4] st s = Ze d 134 1 [aR r, l1, l2, l3, l4] (aR r :: st) s := Ze_n (i := (.aload_n 0)) (len := 1) (by decide +kernel) rfl
theorem x134_1 (h : obC r = 7) (h6 : st.length ≤ 4) : Ze d 134 1 [l0, l1, l2, l3, l4] (aR r :: st) s = zcI (Zc d 139 [aR r] s) d 134 4 [l0, l1, l2, l3, l4] st := Ze_cvI (idx := 84) (len := 3) (as := []) (by decide +kernel) rfl (by decide +kernel) rfl h h6
theorem x134_4 : Ze d 134 4 [l0, l1, l2, l3, l4] (aI z :: st) s = Ze d 134 5 [l0, l1, aI z, l3, l4] st s := Ze_n (i := (.istore_n 2)) (len := 1) (by decide +kernel) rfl
theorem x134_5 : Ze d 134 5 [l0, l1, aI z, l3, l4] st s = Ze d 134 6 [l0, l1, aI z, l3, l4] (aI z :: st) s := Ze_n (i := (.iload_n 2)) (len := 1) (by decide +kernel) rfl
theorem x134_6 : Ze d 134 6 [l0, l1, l2, l3, l4] st s = Ze d 134 7 [l0, l1, l2, l3, l4] (aI (-1) :: st) s := Ze_n (i := (.iconst (-1))) (len := 1) (by decide +kernel) rfl
theorem x134_7 : Ze d 134 7 [l0, l1, l2, l3, l4] (aI b :: aI a :: st) s = if a = b then Ze d 134 10 [l0, l1, l2, l3, l4] st s else Ze d 134 12 [l0, l1, l2, l3, l4] st s := Ze_b (i := (.if_icmp .ne 5)) (len := 3) (by decide +kernel) rfl
theorem x134_10 : Ze d 134 10 [l0, l1, l2, l3, l4] st s = Ze d 134 11 [l0, l1, l2, l3, l4] (aI (-1) :: st) s := Ze_n (i := (.iconst (-1))) (len := 1) (by decide +kernel) rfl
theorem x134_11 : Ze d 134 11 [l0, l1, l2, l3, l4] [aI z] s = rI z s := Ze_i1 (by decide +kernel) rfl
theorem x134_12 : Ze d 134 12 [aR r, l1, l2, l3, l4] st s = Ze d 134 13 [aR r, l1, l2, l3, l4] (aR r :: st) s := Ze_n (i := (.aload_n 0)) (len := 1) (by decide +kernel) rfl
theorem x134_13 (h : obC r = 7) (h6 : st.length ≤ 4) : Ze d 134 13 [l0, l1, l2, l3, l4] (aR r :: st) s = zcI (Zc d 138 [aR r] s) d 134 16 [l0, l1, l2, l3, l4] st := Ze_cvI (idx := 38) (len := 3) (as := []) (by decide +kernel) rfl (by decide +kernel) rfl h h6
theorem x134_16 : Ze d 134 16 [l0, l1, l2, l3, l4] st s = Ze d 134 18 [l0, l1, l2, l3, l4] (aI 126 :: st) s := Ze_n (i := (.bipush 126)) (len := 2) (by decide +kernel) rfl
theorem x134_18 : Ze d 134 18 [l0, l1, l2, l3, l4] (aI b :: aI a :: st) s = if a = b then Ze d 134 21 [l0, l1, l2, l3, l4] st s else Ze d 134 25 [l0, l1, l2, l3, l4] st s := Ze_b (i := (.if_icmp .ne 7)) (len := 3) (by decide +kernel) rfl
theorem x134_21 : Ze d 134 21 [l0, l1, l2, l3, l4] st s = Ze d 134 22 [l0, l1, l2, l3, l4] (aI 1 :: st) s := Ze_n (i := (.iconst 1)) (len := 1) (by decide +kernel) rfl
theorem x134_22 : Ze d 134 22 [l0, l1, l2, l3, l4] st s = Ze d 134 26 [l0, l1, l2, l3, l4] st s := Ze_n (i := (.goto 4)) (len := 3) (by decide +kernel) rfl
theorem x134_25 : Ze d 134 25 [l0, l1, l2, l3, l4] st s = Ze d 134 26 [l0, l1, l2, l3, l4] (aI 0 :: st) s := Ze_n (i := (.iconst 0)) (len := 1) (by decide +kernel) rfl
theorem x134_26 : Ze d 134 26 [l0, l1, l2, l3, l4] (aI z :: st) s = Ze d 134 27 [l0, l1, l2, aI z, l4] st s := Ze_n (i := (.istore_n 3)) (len := 1) (by decide +kernel) rfl
theorem x134_27 : Ze d 134 27 [l0, l1, l2, aI z, l4] st s = Ze d 134 28 [l0, l1, l2, aI z, l4] (aI z :: st) s := Ze_n (i := (.iload_n 3)) (len := 1) (by decide +kernel) rfl
theorem x134_28 : Ze d 134 28 [l0, l1, l2, l3, l4] (aI a :: st) s = if a = 0 then Ze d 134 41 [l0, l1, l2, l3, l4] st s else Ze d 134 31 [l0, l1, l2, l3, l4] st s := Ze_b (i := (.ifCond .eq 13)) (len := 3) (by decide +kernel) rfl
theorem x134_31 : Ze d 134 31 [aR r, l1, l2, l3, l4] st s = Ze d 134 32 [aR r, l1, l2, l3, l4] (aR r :: st) s := Ze_n (i := (.aload_n 0)) (len := 1) (by decide +kernel) rfl
theorem x134_32 : Ze d 134 32 [l0, l1, l2, l3, l4] (aR r :: st) s = Ze d 134 33 [l0, l1, l2, l3, l4] (aR r :: aR r :: st) s := Ze_n (i := .dup) (len := 1) (by decide +kernel) rfl
theorem x134_32i : Ze d 134 32 [l0, l1, l2, l3, l4] (aI a :: st) s = Ze d 134 33 [l0, l1, l2, l3, l4] (aI a :: aI a :: st) s := Ze_n (i := .dup) (len := 1) (by decide +kernel) rfl
theorem x134_33 (h : obC r = 7) : Ze d 134 33 [l0, l1, l2, l3, l4] (aR r :: st) s = Ze d 134 36 [l0, l1, l2, l3, l4] (aI (s r 4) :: st) s := Ze_gf (len := 3) (idx := 72) (by decide +kernel) rfl h rfl
theorem x134_36 : Ze d 134 36 [l0, l1, l2, l3, l4] st s = Ze d 134 37 [l0, l1, l2, l3, l4] (aI 1 :: st) s := Ze_n (i := (.iconst 1)) (len := 1) (by decide +kernel) rfl
theorem x134_37 : Ze d 134 37 [l0, l1, l2, l3, l4] (aI b :: aI a :: st) s = Ze d 134 38 [l0, l1, l2, l3, l4] (aI (wrap (a + b)) :: st) s := Ze_n (i := .iadd) (len := 1) (by decide +kernel) rfl
theorem x134_38 (h : obC r = 7) : Ze d 134 38 [l0, l1, l2, l3, l4] (aI z :: aR r :: st) s = Ze d 134 41 [l0, l1, l2, l3, l4] st (mu s r 4 z) := Ze_n (i := .putfield 72) (len := 3) (by decide +kernel) (if_pos h)
theorem x134_41 : Ze d 134 41 [aR r, l1, l2, l3, l4] st s = Ze d 134 42 [aR r, l1, l2, l3, l4] (aR r :: st) s := Ze_n (i := (.aload_n 0)) (len := 1) (by decide +kernel) rfl
theorem x134_42 : Ze d 134 42 [l0, l1, l2, l3, l4] st s = Ze d 134 44 [l0, l1, l2, l3, l4] (aI 58 :: st) s := Ze_n (i := (.bipush 58)) (len := 2) (by decide +kernel) rfl
theorem x134_44 (h : obC r = 7) (h6 : st.length ≤ 4) : Ze d 134 44 [l0, l1, l2, l3, l4] (aI a1 :: aR r :: st) s = zcI (Zc d 141 [aR r, aI a1] s) d 134 47 [l0, l1, l2, l3, l4] st := Ze_cvI (idx := 87) (len := 3) (as := [aI a1]) (by decide +kernel) rfl (by decide +kernel) rfl h h6
theorem x134_47 : Ze d 134 47 [l0, l1, l2, l3, l4] (aI a :: st) s = if a = 0 then Ze d 134 50 [l0, l1, l2, l3, l4] st s else Ze d 134 52 [l0, l1, l2, l3, l4] st s := Ze_b (i := (.ifCond .ne 5)) (len := 3) (by decide +kernel) rfl
theorem x134_50 : Ze d 134 50 [l0, l1, l2, l3, l4] st s = Ze d 134 51 [l0, l1, l2, l3, l4] (aI (-1) :: st) s := Ze_n (i := (.iconst (-1))) (len := 1) (by decide +kernel) rfl
theorem x134_51 : Ze d 134 51 [l0, l1, l2, l3, l4] [aI z] s = rI z s := Ze_i1 (by decide +kernel) rfl
theorem x134_52 : Ze d 134 52 [aR r, l1, l2, l3, l4] st s = Ze d 134 53 [aR r, l1, l2, l3, l4] (aR r :: st) s := Ze_n (i := (.aload_n 0)) (len := 1) (by decide +kernel) rfl
theorem x134_53 : Ze d 134 53 [l0, aI z, l2, l3, l4] st s = Ze d 134 54 [l0, aI z, l2, l3, l4] (aI z :: st) s := Ze_n (i := (.iload_n 1)) (len := 1) (by decide +kernel) rfl
theorem x134_54 : Ze d 134 54 [l0, l1, l2, l3, l4] st s = Ze d 134 55 [l0, l1, l2, l3, l4] (aI 1 :: st) s := Ze_n (i := (.iconst 1)) (len := 1) (by decide +kernel) rfl
theorem x134_55 : Ze d 134 55 [l0, l1, l2, l3, l4] (aI b :: aI a :: st) s = Ze d 134 56 [l0, l1, l2, l3, l4] (aI (wrap (a + b)) :: st) s := Ze_n (i := .iadd) (len := 1) (by decide +kernel) rfl
theorem x134_56 (h : obC r = 7) (h6 : st.length ≤ 4) : Ze d 134 56 [l0, l1, l2, l3, l4] (aI a1 :: aR r :: st) s = zcI (Zc d 130 [aR r, aI a1] s) d 134 59 [l0, l1, l2, l3, l4] st := Ze_cvI (idx := 91) (len := 3) (as := [aI a1]) (by decide +kernel) rfl (by decide +kernel) rfl h h6
theorem x134_59 : Ze d 134 59 [l0, l1, l2, l3, l4] (aI z :: st) s = Ze d 134 61 [l0, l1, l2, l3, aI z] st s := Ze_n (i := (.istore 4)) (len := 2) (by decide +kernel) rfl
theorem x134_61 : Ze d 134 61 [l0, l1, l2, l3, aI z] st s = Ze d 134 63 [l0, l1, l2, l3, aI z] (aI z :: st) s := Ze_n (i := (.iload 4)) (len := 2) (by decide +kernel) rfl
theorem x134_63 : Ze d 134 63 [l0, l1, l2, l3, l4] st s = Ze d 134 64 [l0, l1, l2, l3, l4] (aI (-1) :: st) s := Ze_n (i := (.iconst (-1))) (len := 1) (by decide +kernel) rfl
theorem x134_64 : Ze d 134 64 [l0, l1, l2, l3, l4] (aI b :: aI a :: st) s = if a = b then Ze d 134 67 [l0, l1, l2, l3, l4] st s else Ze d 134 71 [l0, l1, l2, l3, l4] st s := Ze_b (i := (.if_icmp .ne 7)) (len := 3) (by decide +kernel) rfl
theorem x134_67 : Ze d 134 67 [l0, l1, l2, l3, l4] st s = Ze d 134 68 [l0, l1, l2, l3, l4] (aI (-1) :: st) s := Ze_n (i := (.iconst (-1))) (len := 1) (by decide +kernel) rfl
theorem x134_68 : Ze d 134 68 [l0, l1, l2, l3, l4] st s = Ze d 134 82 [l0, l1, l2, l3, l4] st s := Ze_n (i := (.goto 14)) (len := 3) (by decide +kernel) rfl
theorem x134_71 : Ze d 134 71 [aR r, l1, l2, l3, l4] st s = Ze d 134 72 [aR r, l1, l2, l3, l4] (aR r :: st) s := Ze_n (i := (.aload_n 0)) (len := 1) (by decide +kernel) rfl
theorem x134_72 (h : obC r = 7) : Ze d 134 72 [l0, l1, l2, l3, l4] (aR r :: st) s = Ze d 134 75 [l0, l1, l2, l3, l4] (aR (fcn r 1) :: st) s := Ze_gf (len := 3) (idx := 19) (by decide +kernel) rfl h rfl
theorem x134_75 : Ze d 134 75 [l0, l1, aI z, l3, l4] st s = Ze d 134 76 [l0, l1, aI z, l3, l4] (aI z :: st) s := Ze_n (i := (.iload_n 2)) (len := 1) (by decide +kernel) rfl
theorem x134_76 : Ze d 134 76 [l0, l1, l2, aI z, l4] st s = Ze d 134 77 [l0, l1, l2, aI z, l4] (aI z :: st) s := Ze_n (i := (.iload_n 3)) (len := 1) (by decide +kernel) rfl
theorem x134_77 : Ze d 134 77 [l0, l1, l2, l3, aI z] st s = Ze d 134 79 [l0, l1, l2, l3, aI z] (aI z :: st) s := Ze_n (i := (.iload 4)) (len := 2) (by decide +kernel) rfl
theorem x134_79 (h : obC r = 12) (h6 : st.length ≤ 4) : Ze d 134 79 [l0, l1, l2, l3, l4] (aI a3 :: aI a2 :: aI a1 :: aR r :: st) s = zcI (Zc d 166 [aR r, aI a1, aI a2, aI a3] s) d 134 82 [l0, l1, l2, l3, l4] st := Ze_cvI (idx := 133) (len := 3) (as := [aI a1, aI a2, aI a3]) (by decide +kernel) rfl (by decide +kernel) rfl h h6
theorem x134_82 : Ze d 134 82 [l0, l1, l2, l3, l4] [aI z] s = rI z s := Ze_i1 (by decide +kernel) rfl
theorem en134 : Zc (d + 1) 134 [aR r, aI a1] s = Ze d 134 0 [aR r, aI a1, aU, aU, aU] [] s := rfl
