variable {d r q : Nat} {l0 l1 l2 l3 l4 l5 l6 l7 l8 l9 l10 l11 l12 l13 l14 l15 : AV} {st : List AV} {s : Mem} {a b z i n dp sp a0 a1 a2 a3 a4 a5 a6 : Int} {r0 r1 r2 r3 r4 : Nat}
theorem x89_0 : Ze d 89 0 [aR r, l1, l2, l3, l4, l5, l6, l7, l8, l9] st s = Ze d 89 1 [aR r, l1, l2, l3, l4, l5, l6, l7, l8, l9] (aR r :: st) s := Ze_n (i := (.aload_n 0)) (len := 1) (by decide +kernel) rfl
theorem x89_1 (h : obC r = 2) (h2 : 0 ≤ s r 6) : Ze d 89 1 [l0, l1, l2, l3, l4, l5, l6, l7, l8, l9] (aR r :: st) s = Ze d 89 4 [l0, l1, l2, l3, l4, l5, l6, l7, l8, l9] (aR (s r 6).toNat :: st) s := Ze_gf (len := 3) (idx := 41) (by decide +kernel) rfl h (fldV_dyn rfl h2)
theorem x89_4 (h : obC r = 6) : Ze d 89 4 [l0, l1, l2, l3, l4, l5, l6, l7, l8, l9] (aR r :: st) s = Ze d 89 7 [l0, l1, l2, l3, l4, l5, l6, l7, l8, l9] (aR (fcn r 3) :: st) s := Ze_gf (len := 3) (idx := 172) (by decide +kernel) rfl h rfl
theorem x89_7 : Ze d 89 7 [l0, aI z, l2, l3, l4, l5, l6, l7, l8, l9] st s = Ze d 89 8 [l0, aI z, l2, l3, l4, l5, l6, l7, l8, l9] (aI z :: st) s := Ze_n (i := (.iload_n 1)) (len := 1) (by decide +kernel) rfl
theorem x89_8 (h0 : 0 ≤ i) (h1 : i < aN1 r) : Ze d 89 8 [l0, l1, l2, l3, l4, l5, l6, l7, l8, l9] (aI i :: aR r :: st) s = Ze d 89 9 [l0, l1, l2, l3, l4, l5, l6, l7, l8, l9] (aI (s r i.toNat) :: st) s := Ze_n (i := .iaload) (len := 1) (by decide +kernel) (if_pos ⟨h0, h1⟩)
theorem x89_9 : Ze d 89 9 [l0, l1, l2, l3, l4, l5, l6, l7, l8, l9] (aI z :: st) s = Ze d 89 10 [l0, l1, aI z, l3, l4, l5, l6, l7, l8, l9] st s := Ze_n (i := (.istore_n 2)) (len := 1) (by decide +kernel) rfl
theorem x89_10 : Ze d 89 10 [aR r, l1, l2, l3, l4, l5, l6, l7, l8, l9] st s = Ze d 89 11 [aR r, l1, l2, l3, l4, l5, l6, l7, l8, l9] (aR r :: st) s := Ze_n (i := (.aload_n 0)) (len := 1) (by decide +kernel) rfl
theorem x89_11 (h : obC r = 2) : Ze d 89 11 [l0, l1, l2, l3, l4, l5, l6, l7, l8, l9] (aR r :: st) s = Ze d 89 14 [l0, l1, l2, l3, l4, l5, l6, l7, l8, l9] (aR (fcn r 3) :: st) s := Ze_gf (len := 3) (idx := 9) (by decide +kernel) rfl h rfl
theorem x89_14 : Ze d 89 14 [l0, l1, aI z, l3, l4, l5, l6, l7, l8, l9] st s = Ze d 89 15 [l0, l1, aI z, l3, l4, l5, l6, l7, l8, l9] (aI z :: st) s := Ze_n (i := (.iload_n 2)) (len := 1) (by decide +kernel) rfl
theorem x89_15 (h0 : 0 ≤ i) (h1 : i < aN1 r) : Ze d 89 15 [l0, l1, l2, l3, l4, l5, l6, l7, l8, l9] (aI i :: aR r :: st) s = Ze d 89 16 [l0, l1, l2, l3, l4, l5, l6, l7, l8, l9] (aI (s r i.toNat) :: st) s := Ze_n (i := .iaload) (len := 1) (by decide +kernel) (if_pos ⟨h0, h1⟩)
theorem x89_16 : Ze d 89 16 [l0, l1, l2, l3, l4, l5, l6, l7, l8, l9] st s = Ze d 89 17 [l0, l1, l2, l3, l4, l5, l6, l7, l8, l9] (aI (-1) :: st) s := Ze_n (i := (.iconst (-1))) (len := 1) (by decide +kernel) rfl
theorem x89_17 : Ze d 89 17 [l0, l1, l2, l3, l4, l5, l6, l7, l8, l9] (aI b :: aI a :: st) s = if a = b then Ze d 89 20 [l0, l1, l2, l3, l4, l5, l6, l7, l8, l9] st s else Ze d 89 22 [l0, l1, l2, l3, l4, l5, l6, l7, l8, l9] st s := Ze_b (i := (.if_icmp .ne 5)) (len := 3) (by decide +kernel) rfl
theorem x89_20 : Ze d 89 20 [l0, l1, l2, l3, l4, l5, l6, l7, l8, l9] st s = Ze d 89 21 [l0, l1, l2, l3, l4, l5, l6, l7, l8, l9] (aI 0 :: st) s := Ze_n (i := (.iconst 0)) (len := 1) (by decide +kernel) rfl
theorem x89_21 (h : z = 0 ∨ z = 1) : Ze d 89 21 [l0, l1, l2, l3, l4, l5, l6, l7, l8, l9] [aI z] s = rI z s := Ze_i2 (by decide +kernel) rfl h
theorem x89_22 : Ze d 89 22 [aR r, l1, l2, l3, l4, l5, l6, l7, l8, l9] st s = Ze d 89 23 [aR r, l1, l2, l3, l4, l5, l6, l7, l8, l9] (aR r :: st) s := Ze_n (i := (.aload_n 0)) (len := 1) (by decide +kernel) rfl
theorem x89_23 (h : obC r = 2) : Ze d 89 23 [l0, l1, l2, l3, l4, l5, l6, l7, l8, l9] (aR r :: st) s = Ze d 89 26 [l0, l1, l2, l3, l4, l5, l6, l7, l8, l9] (aR (fcn r 3) :: st) s := Ze_gf (len := 3) (idx := 9) (by decide +kernel) rfl h rfl
theorem x89_26 : Ze d 89 26 [l0, l1, aI z, l3, l4, l5, l6, l7, l8, l9] st s = Ze d 89 27 [l0, l1, aI z, l3, l4, l5, l6, l7, l8, l9] (aI z :: st) s := Ze_n (i := (.iload_n 2)) (len := 1) (by decide +kernel) rfl
theorem x89_27 (h0 : 0 ≤ i) (h1 : i < aN1 r) : Ze d 89 27 [l0, l1, l2, l3, l4, l5, l6, l7, l8, l9] (aI i :: aR r :: st) s = Ze d 89 28 [l0, l1, l2, l3, l4, l5, l6, l7, l8, l9] (aI (s r i.toNat) :: st) s := Ze_n (i := .iaload) (len := 1) (by decide +kernel) (if_pos ⟨h0, h1⟩)
theorem x89_28 : Ze d 89 28 [l0, l1, l2, l3, l4, l5, l6, l7, l8, l9] (aI z :: st) s = Ze d 89 29 [l0, l1, l2, aI z, l4, l5, l6, l7, l8, l9] st s := Ze_n (i := (.istore_n 3)) (len := 1) (by decide +kernel) rfl
theorem x89_29 : Ze d 89 29 [aR r, l1, l2, l3, l4, l5, l6, l7, l8, l9] st s = Ze d 89 30 [aR r, l1, l2, l3, l4, l5, l6, l7, l8, l9] (aR r :: st) s := Ze_n (i := (.aload_n 0)) (len := 1) (by decide +kernel) rfl
theorem x89_30 (h : obC r = 2) : Ze d 89 30 [l0, l1, l2, l3, l4, l5, l6, l7, l8, l9] (aR r :: st) s = Ze d 89 33 [l0, l1, l2, l3, l4, l5, l6, l7, l8, l9] (aR (fcn r 4) :: st) s := Ze_gf (len := 3) (idx := 15) (by decide +kernel) rfl h rfl
theorem x89_33 : Ze d 89 33 [l0, l1, aI z, l3, l4, l5, l6, l7, l8, l9] st s = Ze d 89 34 [l0, l1, aI z, l3, l4, l5, l6, l7, l8, l9] (aI z :: st) s := Ze_n (i := (.iload_n 2)) (len := 1) (by decide +kernel) rfl
theorem x89_34 (h0 : 0 ≤ i) (h1 : i < aN1 r) : Ze d 89 34 [l0, l1, l2, l3, l4, l5, l6, l7, l8, l9] (aI i :: aR r :: st) s = Ze d 89 35 [l0, l1, l2, l3, l4, l5, l6, l7, l8, l9] (aI (s r i.toNat) :: st) s := Ze_n (i := .iaload) (len := 1) (by decide +kernel) (if_pos ⟨h0, h1⟩)
theorem x89_35 : Ze d 89 35 [l0, l1, l2, l3, l4, l5, l6, l7, l8, l9] (aI z :: st) s = Ze d 89 37 [l0, l1, l2, l3, aI z, l5, l6, l7, l8, l9] st s := Ze_n (i := (.istore 4)) (len := 2) (by decide +kernel) rfl
theorem x89_37 : Ze d 89 37 [l0, l1, l2, l3, l4, l5, l6, l7, l8, l9] st s = Ze d 89 38 [l0, l1, l2, l3, l4, l5, l6, l7, l8, l9] (aI 0 :: st) s := Ze_n (i := (.iconst 0)) (len := 1) (by decide +kernel) rfl
theorem x89_38 : Ze d 89 38 [l0, l1, l2, l3, l4, l5, l6, l7, l8, l9] (aI z :: st) s = Ze d 89 40 [l0, l1, l2, l3, l4, aI z, l6, l7, l8, l9] st s := Ze_n (i := (.istore 5)) (len := 2) (by decide +kernel) rfl
theorem x89_40 : Ze d 89 40 [aR r, l1, l2, l3, l4, l5, l6, l7, l8, l9] st s = Ze d 89 41 [aR r, l1, l2, l3, l4, l5, l6, l7, l8, l9] (aR r :: st) s := Ze_n (i := (.aload_n 0)) (len := 1) (by decide +kernel) rfl
theorem x89_41 (h : obC r = 2) (h2 : 0 ≤ s r 6) : Ze d 89 41 [l0, l1, l2, l3, l4, l5, l6, l7, l8, l9] (aR r :: st) s = Ze d 89 44 [l0, l1, l2, l3, l4, l5, l6, l7, l8, l9] (aR (s r 6).toNat :: st) s := Ze_gf (len := 3) (idx := 41) (by decide +kernel) rfl h (fldV_dyn rfl h2)
theorem x89_44 (h : obC r = 6) : Ze d 89 44 [l0, l1, l2, l3, l4, l5, l6, l7, l8, l9] (aR r :: st) s = Ze d 89 47 [l0, l1, l2, l3, l4, l5, l6, l7, l8, l9] (aR (fcn r 1) :: st) s := Ze_gf (len := 3) (idx := 173) (by decide +kernel) rfl h rfl
theorem x89_47 : Ze d 89 47 [l0, aI z, l2, l3, l4, l5, l6, l7, l8, l9] st s = Ze d 89 48 [l0, aI z, l2, l3, l4, l5, l6, l7, l8, l9] (aI z :: st) s := Ze_n (i := (.iload_n 1)) (len := 1) (by decide +kernel) rfl
theorem x89_48 (h0 : 0 ≤ i) (h1 : i < aN1 r) : Ze d 89 48 [l0, l1, l2, l3, l4, l5, l6, l7, l8, l9] (aI i :: aR r :: st) s = Ze d 89 49 [l0, l1, l2, l3, l4, l5, l6, l7, l8, l9] (aI (s r i.toNat) :: st) s := Ze_n (i := .iaload) (len := 1) (by decide +kernel) (if_pos ⟨h0, h1⟩)
theorem x89_49 : Ze d 89 49 [aR r, l1, l2, l3, l4, l5, l6, l7, l8, l9] st s = Ze d 89 50 [aR r, l1, l2, l3, l4, l5, l6, l7, l8, l9] (aR r :: st) s := Ze_n (i := (.aload_n 0)) (len := 1) (by decide +kernel) rfl
theorem x89_50 (h : obC r = 2) (h2 : 0 ≤ s r 6) : Ze d 89 50 [l0, l1, l2, l3, l4, l5, l6, l7, l8, l9] (aR r :: st) s = Ze d 89 53 [l0, l1, l2, l3, l4, l5, l6, l7, l8, l9] (aR (s r 6).toNat :: st) s := Ze_gf (len := 3) (idx := 41) (by decide +kernel) rfl h (fldV_dyn rfl h2)
theorem x89_53 (h : obC r = 6) : Ze d 89 53 [l0, l1, l2, l3, l4, l5, l6, l7, l8, l9] (aR r :: st) s = Ze d 89 56 [l0, l1, l2, l3, l4, l5, l6, l7, l8, l9] (aR (fcn r 2) :: st) s := Ze_gf (len := 3) (idx := 159) (by decide +kernel) rfl h rfl
theorem x89_56 : Ze d 89 56 [l0, aI z, l2, l3, l4, l5, l6, l7, l8, l9] st s = Ze d 89 57 [l0, aI z, l2, l3, l4, l5, l6, l7, l8, l9] (aI z :: st) s := Ze_n (i := (.iload_n 1)) (len := 1) (by decide +kernel) rfl
theorem x89_57 (h0 : 0 ≤ i) (h1 : i < aN1 r) : Ze d 89 57 [l0, l1, l2, l3, l4, l5, l6, l7, l8, l9] (aI i :: aR r :: st) s = Ze d 89 58 [l0, l1, l2, l3, l4, l5, l6, l7, l8, l9] (aI (s r i.toNat) :: st) s := Ze_n (i := .iaload) (len := 1) (by decide +kernel) (if_pos ⟨h0, h1⟩)
theorem x89_58 : Ze d 89 58 [l0, l1, l2, l3, l4, l5, l6, l7, l8, l9] (aI b :: aI a :: st) s = Ze d 89 59 [l0, l1, l2, l3, l4, l5, l6, l7, l8, l9] (aI (wrap (a + b)) :: st) s := Ze_n (i := .iadd) (len := 1) (by decide +kernel) rfl
theorem x89_59 : Ze d 89 59 [l0, l1, l2, l3, l4, l5, l6, l7, l8, l9] (aI z :: st) s = Ze d 89 61 [l0, l1, l2, l3, l4, l5, aI z, l7, l8, l9] st s := Ze_n (i := (.istore 6)) (len := 2) (by decide +kernel) rfl
theorem x89_61 : Ze d 89 61 [aR r, l1, l2, l3, l4, l5, l6, l7, l8, l9] st s = Ze d 89 62 [aR r, l1, l2, l3, l4, l5, l6, l7, l8, l9] (aR r :: st) s := Ze_n (i := (.aload_n 0)) (len := 1) (by decide +kernel) rfl
theorem x89_62 (h : obC r = 2) (h2 : 0 ≤ s r 6) : Ze d 89 62 [l0, l1, l2, l3, l4, l5, l6, l7, l8, l9] (aR r :: st) s = Ze d 89 65 [l0, l1, l2, l3, l4, l5, l6, l7, l8, l9] (aR (s r 6).toNat :: st) s := Ze_gf (len := 3) (idx := 41) (by decide +kernel) rfl h (fldV_dyn rfl h2)
theorem x89_65 (h : obC r = 6) : Ze d 89 65 [l0, l1, l2, l3, l4, l5, l6, l7, l8, l9] (aR r :: st) s = Ze d 89 68 [l0, l1, l2, l3, l4, l5, l6, l7, l8, l9] (aR (fcn r 1) :: st) s := Ze_gf (len := 3) (idx := 173) (by decide +kernel) rfl h rfl
theorem x89_68 : Ze d 89 68 [l0, aI z, l2, l3, l4, l5, l6, l7, l8, l9] st s = Ze d 89 69 [l0, aI z, l2, l3, l4, l5, l6, l7, l8, l9] (aI z :: st) s := Ze_n (i := (.iload_n 1)) (len := 1) (by decide +kernel) rfl
theorem x89_69 (h0 : 0 ≤ i) (h1 : i < aN1 r) : Ze d 89 69 [l0, l1, l2, l3, l4, l5, l6, l7, l8, l9] (aI i :: aR r :: st) s = Ze d 89 70 [l0, l1, l2, l3, l4, l5, l6, l7, l8, l9] (aI (s r i.toNat) :: st) s := Ze_n (i := .iaload) (len := 1) (by decide +kernel) (if_pos ⟨h0, h1⟩)
theorem x89_70 : Ze d 89 70 [l0, l1, l2, l3, l4, l5, l6, l7, l8, l9] (aI z :: st) s = Ze d 89 72 [l0, l1, l2, l3, l4, l5, l6, aI z, l8, l9] st s := Ze_n (i := (.istore 7)) (len := 2) (by decide +kernel) rfl
theorem x89_72 : Ze d 89 72 [l0, l1, l2, l3, l4, l5, l6, aI z, l8, l9] st s = Ze d 89 74 [l0, l1, l2, l3, l4, l5, l6, aI z, l8, l9] (aI z :: st) s := Ze_n (i := (.iload 7)) (len := 2) (by decide +kernel) rfl
theorem x89_74 : Ze d 89 74 [l0, l1, l2, l3, l4, l5, aI z, l7, l8, l9] st s = Ze d 89 76 [l0, l1, l2, l3, l4, l5, aI z, l7, l8, l9] (aI z :: st) s := Ze_n (i := (.iload 6)) (len := 2) (by decide +kernel) rfl
theorem x89_76 : Ze d 89 76 [l0, l1, l2, l3, l4, l5, l6, l7, l8, l9] (aI b :: aI a :: st) s = if a < b then Ze d 89 79 [l0, l1, l2, l3, l4, l5, l6, l7, l8, l9] st s else Ze d 89 235 [l0, l1, l2, l3, l4, l5, l6, l7, l8, l9] st s := Ze_b (i := (.if_icmp .ge 159)) (len := 3) (by decide +kernel) rfl
theorem x89_79 : Ze d 89 79 [aR r, l1, l2, l3, l4, l5, l6, l7, l8, l9] st s = Ze d 89 80 [aR r, l1, l2, l3, l4, l5, l6, l7, l8, l9] (aR r :: st) s := Ze_n (i := (.aload_n 0)) (len := 1) (by decide +kernel) rfl
theorem x89_80 (h : obC r = 2) : Ze d 89 80 [l0, l1, l2, l3, l4, l5, l6, l7, l8, l9] (aR r :: st) s = Ze d 89 83 [l0, l1, l2, l3, l4, l5, l6, l7, l8, l9] (aR (fcn r 1) :: st) s := Ze_gf (len := 3) (idx := 22) (by decide +kernel) rfl h rfl
theorem x89_83 (h : obC r = 10) : Ze d 89 83 [l0, l1, l2, l3, l4, l5, l6, l7, l8, l9] (aR r :: st) s = Ze d 89 86 [l0, l1, l2, l3, l4, l5, l6, l7, l8, l9] (aR (fcn r 5) :: st) s := Ze_gf (len := 3) (idx := 174) (by decide +kernel) rfl h rfl
theorem x89_86 : Ze d 89 86 [l0, l1, l2, l3, l4, l5, l6, aI z, l8, l9] st s = Ze d 89 88 [l0, l1, l2, l3, l4, l5, l6, aI z, l8, l9] (aI z :: st) s := Ze_n (i := (.iload 7)) (len := 2) (by decide +kernel) rfl
theorem x89_88 (h0 : 0 ≤ i) (h1 : i < aN1 r) : Ze d 89 88 [l0, l1, l2, l3, l4, l5, l6, l7, l8, l9] (aI i :: aR r :: st) s = Ze d 89 89 [l0, l1, l2, l3, l4, l5, l6, l7, l8, l9] (aI (s r i.toNat) :: st) s := Ze_n (i := .iaload) (len := 1) (by decide +kernel) (if_pos ⟨h0, h1⟩)
theorem x89_89 : Ze d 89 89 [l0, l1, l2, l3, l4, l5, l6, l7, l8, l9] (aI z :: st) s = Ze d 89 91 [l0, l1, l2, l3, l4, l5, l6, l7, aI z, l9] st s := Ze_n (i := (.istore 8)) (len := 2) (by decide +kernel) rfl
theorem x89_91 : Ze d 89 91 [l0, l1, l2, l3, l4, l5, l6, l7, aI z, l9] st s = Ze d 89 93 [l0, l1, l2, l3, l4, l5, l6, l7, aI z, l9] (aI z :: st) s := Ze_n (i := (.iload 8)) (len := 2) (by decide +kernel) rfl
theorem x89_93 : Ze d 89 93 [l0, l1, l2, l3, l4, l5, l6, l7, l8, l9] (aI a :: st) s = if a < 0 then Ze d 89 158 [l0, l1, l2, l3, l4, l5, l6, l7, l8, l9] st s else Ze d 89 96 [l0, l1, l2, l3, l4, l5, l6, l7, l8, l9] st s := Ze_b (i := (.ifCond .lt 65)) (len := 3) (by decide +kernel) rfl
theorem x89_96 : Ze d 89 96 [aR r, l1, l2, l3, l4, l5, l6, l7, l8, l9] st s = Ze d 89 97 [aR r, l1, l2, l3, l4, l5, l6, l7, l8, l9] (aR r :: st) s := Ze_n (i := (.aload_n 0)) (len := 1) (by decide +kernel) rfl
theorem x89_97 (h : obC r = 2) : Ze d 89 97 [l0, l1, l2, l3, l4, l5, l6, l7, l8, l9] (aR r :: st) s = Ze d 89 100 [l0, l1, l2, l3, l4, l5, l6, l7, l8, l9] (aR (fcn r 0) :: st) s := Ze_gf (len := 3) (idx := 18) (by decide +kernel) rfl h rfl
theorem x89_100 (h : obC r = 12) : Ze d 89 100 [l0, l1, l2, l3, l4, l5, l6, l7, l8, l9] (aR r :: st) s = Ze d 89 103 [l0, l1, l2, l3, l4, l5, l6, l7, l8, l9] (aR (fcn r 0) :: st) s := Ze_gf (len := 3) (idx := 120) (by decide +kernel) rfl h rfl
theorem x89_103 : Ze d 89 103 [l0, l1, l2, l3, aI z, l5, l6, l7, l8, l9] st s = Ze d 89 105 [l0, l1, l2, l3, aI z, l5, l6, l7, l8, l9] (aI z :: st) s := Ze_n (i := (.iload 4)) (len := 2) (by decide +kernel) rfl
theorem x89_105 (h0 : 0 ≤ i) (h1 : i < aN1 r) : Ze d 89 105 [l0, l1, l2, l3, l4, l5, l6, l7, l8, l9] (aI i :: aR r :: st) s = Ze d 89 106 [l0, l1, l2, l3, l4, l5, l6, l7, l8, l9] (aI (s r i.toNat) :: st) s := Ze_n (i := .iaload) (len := 1) (by decide +kernel) (if_pos ⟨h0, h1⟩)
theorem x89_106 : Ze d 89 106 [l0, l1, l2, l3, l4, l5, l6, l7, l8, l9] st s = Ze d 89 107 [l0, l1, l2, l3, l4, l5, l6, l7, l8, l9] (aI 2 :: st) s := Ze_n (i := (.iconst 2)) (len := 1) (by decide +kernel) rfl
theorem x89_107 : Ze d 89 107 [l0, l1, l2, l3, l4, l5, l6, l7, l8, l9] (aI b :: aI a :: st) s = if a = b then Ze d 89 110 [l0, l1, l2, l3, l4, l5, l6, l7, l8, l9] st s else Ze d 89 125 [l0, l1, l2, l3, l4, l5, l6, l7, l8, l9] st s := Ze_b (i := (.if_icmp .ne 18)) (len := 3) (by decide +kernel) rfl
theorem x89_110 : Ze d 89 110 [l0, l1, l2, l3, l4, l5, l6, l7, aI z, l9] st s = Ze d 89 112 [l0, l1, l2, l3, l4, l5, l6, l7, aI z, l9] (aI z :: st) s := Ze_n (i := (.iload 8)) (len := 2) (by decide +kernel) rfl
theorem x89_112 : Ze d 89 112 [aR r, l1, l2, l3, l4, l5, l6, l7, l8, l9] st s = Ze d 89 113 [aR r, l1, l2, l3, l4, l5, l6, l7, l8, l9] (aR r :: st) s := Ze_n (i := (.aload_n 0)) (len := 1) (by decide +kernel) rfl
theorem x89_113 (h : obC r = 2) : Ze d 89 113 [l0, l1, l2, l3, l4, l5, l6, l7, l8, l9] (aR r :: st) s = Ze d 89 116 [l0, l1, l2, l3, l4, l5, l6, l7, l8, l9] (aR (fcn r 0) :: st) s := Ze_gf (len := 3) (idx := 18) (by decide +kernel) rfl h rfl
theorem x89_116 (h : obC r = 12) : Ze d 89 116 [l0, l1, l2, l3, l4, l5, l6, l7, l8, l9] (aR r :: st) s = Ze d 89 119 [l0, l1, l2, l3, l4, l5, l6, l7, l8, l9] (aR (fcn r 2) :: st) s := Ze_gf (len := 3) (idx := 123) (by decide +kernel) rfl h rfl
theorem x89_119 : Ze d 89 119 [l0, l1, l2, l3, aI z, l5, l6, l7, l8, l9] st s = Ze d 89 121 [l0, l1, l2, l3, aI z, l5, l6, l7, l8, l9] (aI z :: st) s := Ze_n (i := (.iload 4)) (len := 2) (by decide +kernel) rfl
theorem x89_121 (h0 : 0 ≤ i) (h1 : i < aN1 r) : Ze d 89 121 [l0, l1, l2, l3, l4, l5, l6, l7, l8, l9] (aI i :: aR r :: st) s = Ze d 89 122 [l0, l1, l2, l3, l4, l5, l6, l7, l8, l9] (aI (s r i.toNat) :: st) s := Ze_n (i := .iaload) (len := 1) (by decide +kernel) (if_pos ⟨h0, h1⟩)
theorem x89_122 : Ze d 89 122 [l0, l1, l2, l3, l4, l5, l6, l7, l8, l9] (aI b :: aI a :: st) s = if a < b then Ze d 89 127 [l0, l1, l2, l3, l4, l5, l6, l7, l8, l9] st s else Ze d 89 125 [l0, l1, l2, l3, l4, l5, l6, l7, l8, l9] st s := Ze_b (i := (.if_icmp .lt 5)) (len := 3) (by decide +kernel) rfl
theorem x89_125 : Ze d 89 125 [l0, l1, l2, l3, l4, l5, l6, l7, l8, l9] st s = Ze d 89 126 [l0, l1, l2, l3, l4, l5, l6, l7, l8, l9] (aI 0 :: st) s := Ze_n (i := (.iconst 0)) (len := 1) (by decide +kernel) rfl
theorem x89_126 (h : z = 0 ∨ z = 1) : Ze d 89 126 [l0, l1, l2, l3, l4, l5, l6, l7, l8, l9] [aI z] s = rI z s := Ze_i2 (by decide +kernel) rfl h
theorem x89_127 : Ze d 89 127 [aR r, l1, l2, l3, l4, l5, l6, l7, l8, l9] st s = Ze d 89 128 [aR r, l1, l2, l3, l4, l5, l6, l7, l8, l9] (aR r :: st) s := Ze_n (i := (.aload_n 0)) (len := 1) (by decide +kernel) rfl
theorem x89_128 (h : obC r = 2) : Ze d 89 128 [l0, l1, l2, l3, l4, l5, l6, l7, l8, l9] (aR r :: st) s = Ze d 89 131 [l0, l1, l2, l3, l4, l5, l6, l7, l8, l9] (aR (fcn r 0) :: st) s := Ze_gf (len := 3) (idx := 18) (by decide +kernel) rfl h rfl
theorem x89_131 (h : obC r = 12) : Ze d 89 131 [l0, l1, l2, l3, l4, l5, l6, l7, l8, l9] (aR r :: st) s = Ze d 89 134 [l0, l1, l2, l3, l4, l5, l6, l7, l8, l9] (aR (fcn r 1) :: st) s := Ze_gf (len := 3) (idx := 126) (by decide +kernel) rfl h rfl
theorem x89_134 : Ze d 89 134 [l0, l1, l2, l3, aI z, l5, l6, l7, l8, l9] st s = Ze d 89 136 [l0, l1, l2, l3, aI z, l5, l6, l7, l8, l9] (aI z :: st) s := Ze_n (i := (.iload 4)) (len := 2) (by decide +kernel) rfl
theorem x89_136 (h0 : 0 ≤ i) (h1 : i < aN1 r) : Ze d 89 136 [l0, l1, l2, l3, l4, l5, l6, l7, l8, l9] (aI i :: aR r :: st) s = Ze d 89 137 [l0, l1, l2, l3, l4, l5, l6, l7, l8, l9] (aI (s r i.toNat) :: st) s := Ze_n (i := .iaload) (len := 1) (by decide +kernel) (if_pos ⟨h0, h1⟩)
theorem x89_137 : Ze d 89 137 [l0, l1, l2, l3, l4, l5, l6, l7, l8, l9] (aI z :: st) s = Ze d 89 139 [l0, l1, l2, l3, aI z, l5, l6, l7, l8, l9] st s := Ze_n (i := (.istore 4)) (len := 2) (by decide +kernel) rfl
theorem x89_139 : Ze d 89 139 [l0, l1, l2, aI z, l4, l5, l6, l7, l8, l9] st s = Ze d 89 140 [l0, l1, l2, aI z, l4, l5, l6, l7, l8, l9] (aI z :: st) s := Ze_n (i := (.iload_n 3)) (len := 1) (by decide +kernel) rfl
theorem x89_140 : Ze d 89 140 [l0, l1, l2, l3, l4, l5, l6, l7, aI z, l9] st s = Ze d 89 142 [l0, l1, l2, l3, l4, l5, l6, l7, aI z, l9] (aI z :: st) s := Ze_n (i := (.iload 8)) (len := 2) (by decide +kernel) rfl
theorem x89_142 : Ze d 89 142 [aR r, l1, l2, l3, l4, l5, l6, l7, l8, l9] st s = Ze d 89 143 [aR r, l1, l2, l3, l4, l5, l6, l7, l8, l9] (aR r :: st) s := Ze_n (i := (.aload_n 0)) (len := 1) (by decide +kernel) rfl
theorem x89_143 (h : obC r = 2) : Ze d 89 143 [l0, l1, l2, l3, l4, l5, l6, l7, l8, l9] (aR r :: st) s = Ze d 89 146 [l0, l1, l2, l3, l4, l5, l6, l7, l8, l9] (aR (fcn r 0) :: st) s := Ze_gf (len := 3) (idx := 18) (by decide +kernel) rfl h rfl
theorem x89_146 (h : obC r = 12) : Ze d 89 146 [l0, l1, l2, l3, l4, l5, l6, l7, l8, l9] (aR r :: st) s = Ze d 89 149 [l0, l1, l2, l3, l4, l5, l6, l7, l8, l9] (aR (fcn r 3) :: st) s := Ze_gf (len := 3) (idx := 99) (by decide +kernel) rfl h rfl
theorem x89_149 : Ze d 89 149 [l0, l1, l2, l3, aI z, l5, l6, l7, l8, l9] st s = Ze d 89 151 [l0, l1, l2, l3, aI z, l5, l6, l7, l8, l9] (aI z :: st) s := Ze_n (i := (.iload 4)) (len := 2) (by decide +kernel) rfl
theorem x89_151 (h0 : 0 ≤ i) (h1 : i < aN1 r) : Ze d 89 151 [l0, l1, l2, l3, l4, l5, l6, l7, l8, l9] (aI i :: aR r :: st) s = Ze d 89 152 [l0, l1, l2, l3, l4, l5, l6, l7, l8, l9] (aI (s r i.toNat) :: st) s := Ze_n (i := .iaload) (len := 1) (by decide +kernel) (if_pos ⟨h0, h1⟩)
theorem x89_152 : Ze d 89 152 [l0, l1, l2, l3, l4, l5, l6, l7, l8, l9] (aI b :: aI a :: st) s = Ze d 89 153 [l0, l1, l2, l3, l4, l5, l6, l7, l8, l9] (aI (wrap (a * b)) :: st) s := Ze_n (i := .imul) (len := 1) (by decide +kernel) rfl
theorem x89_153 : Ze d 89 153 [l0, l1, l2, l3, l4, l5, l6, l7, l8, l9] (aI b :: aI a :: st) s = Ze d 89 154 [l0, l1, l2, l3, l4, l5, l6, l7, l8, l9] (aI (wrap (a + b)) :: st) s := Ze_n (i := .iadd) (len := 1) (by decide +kernel) rfl
theorem x89_154 : Ze d 89 154 [l0, l1, l2, l3, l4, l5, l6, l7, l8, l9] (aI z :: st) s = Ze d 89 155 [l0, l1, l2, aI z, l4, l5, l6, l7, l8, l9] st s := Ze_n (i := (.istore_n 3)) (len := 1) (by decide +kernel) rfl
theorem x89_155 : Ze d 89 155 [l0, l1, l2, l3, l4, l5, l6, l7, l8, l9] st s = Ze d 89 229 [l0, l1, l2, l3, l4, l5, l6, l7, l8, l9] st s := Ze_n (i := (.goto 74)) (len := 3) (by decide +kernel) rfl
theorem x89_158 : Ze d 89 158 [aR r, l1, l2, l3, l4, l5, l6, l7, l8, l9] st s = Ze d 89 159 [aR r, l1, l2, l3, l4, l5, l6, l7, l8, l9] (aR r :: st) s := Ze_n (i := (.aload_n 0)) (len := 1) (by decide +kernel) rfl
theorem x89_159 (h : obC r = 2) : Ze d 89 159 [l0, l1, l2, l3, l4, l5, l6, l7, l8, l9] (aR r :: st) s = Ze d 89 162 [l0, l1, l2, l3, l4, l5, l6, l7, l8, l9] (aR (fcn r 0) :: st) s := Ze_gf (len := 3) (idx := 18) (by decide +kernel) rfl h rfl
theorem x89_162 : Ze d 89 162 [l0, l1, l2, l3, aI z, l5, l6, l7, l8, l9] st s = Ze d 89 164 [l0, l1, l2, l3, aI z, l5, l6, l7, l8, l9] (aI z :: st) s := Ze_n (i := (.iload 4)) (len := 2) (by decide +kernel) rfl
theorem x89_164 : Ze d 89 164 [l0, l1, l2, l3, l4, l5, l6, l7, aI z, l9] st s = Ze d 89 166 [l0, l1, l2, l3, l4, l5, l6, l7, aI z, l9] (aI z :: st) s := Ze_n (i := (.iload 8)) (len := 2) (by decide +kernel) rfl
theorem x89_166 (h6 : st.length ≤ 4) : Ze d 89 166 [l0, l1, l2, l3, l4, l5, l6, l7, l8, l9] (aI a0 :: st) s = zcI (Zc d 156 [aI a0] s) d 89 169 [l0, l1, l2, l3, l4, l5, l6, l7, l8, l9] st := Ze_csI (idx := 177) (len := 3) (as := [aI a0]) (by decide +kernel) rfl rfl (by decide +kernel) rfl h6
theorem x89_169 (h : obC r = 12) (h6 : st.length ≤ 4) : Ze d 89 169 [l0, l1, l2, l3, l4, l5, l6, l7, l8, l9] (aI a2 :: aI a1 :: aR r :: st) s = zcI (Zc d 167 [aR r, aI a1, aI a2] s) d 89 172 [l0, l1, l2, l3, l4, l5, l6, l7, l8, l9] st := Ze_cvI (idx := 180) (len := 3) (as := [aI a1, aI a2]) (by decide +kernel) rfl (by decide +kernel) rfl h h6
theorem x89_172 : Ze d 89 172 [l0, l1, l2, l3, l4, l5, l6, l7, l8, l9] (aI z :: st) s = Ze d 89 174 [l0, l1, l2, l3, l4, l5, l6, l7, l8, aI z] st s := Ze_n (i := (.istore 9)) (len := 2) (by decide +kernel) rfl
theorem x89_174 : Ze d 89 174 [l0, l1, l2, l3, l4, l5, l6, l7, l8, aI z] st s = Ze d 89 176 [l0, l1, l2, l3, l4, l5, l6, l7, l8, aI z] (aI z :: st) s := Ze_n (i := (.iload 9)) (len := 2) (by decide +kernel) rfl
theorem x89_176 : Ze d 89 176 [l0, l1, l2, l3, l4, l5, l6, l7, l8, l9] st s = Ze d 89 177 [l0, l1, l2, l3, l4, l5, l6, l7, l8, l9] (aI (-1) :: st) s := Ze_n (i := (.iconst (-1))) (len := 1) (by decide +kernel) rfl
theorem x89_177 : Ze d 89 177 [l0, l1, l2, l3, l4, l5, l6, l7, l8, l9] (aI b :: aI a :: st) s = if a = b then Ze d 89 180 [l0, l1, l2, l3, l4, l5, l6, l7, l8, l9] st s else Ze d 89 182 [l0, l1, l2, l3, l4, l5, l6, l7, l8, l9] st s := Ze_b (i := (.if_icmp .ne 5)) (len := 3) (by decide +kernel) rfl
theorem x89_180 : Ze d 89 180 [l0, l1, l2, l3, l4, l5, l6, l7, l8, l9] st s = Ze d 89 181 [l0, l1, l2, l3, l4, l5, l6, l7, l8, l9] (aI 0 :: st) s := Ze_n (i := (.iconst 0)) (len := 1) (by decide +kernel) rfl
theorem x89_181 (h : z = 0 ∨ z = 1) : Ze d 89 181 [l0, l1, l2, l3, l4, l5, l6, l7, l8, l9] [aI z] s = rI z s := Ze_i2 (by decide +kernel) rfl h
theorem x89_182 : Ze d 89 182 [aR r, l1, l2, l3, l4, l5, l6, l7, l8, l9] st s = Ze d 89 183 [aR r, l1, l2, l3, l4, l5, l6, l7, l8, l9] (aR r :: st) s := Ze_n (i := (.aload_n 0)) (len := 1) (by decide +kernel) rfl
theorem x89_183 (h : obC r = 2) : Ze d 89 183 [l0, l1, l2, l3, l4, l5, l6, l7, l8, l9] (aR r :: st) s = Ze d 89 186 [l0, l1, l2, l3, l4, l5, l6, l7, l8, l9] (aR (fcn r 0) :: st) s := Ze_gf (len := 3) (idx := 18) (by decide +kernel) rfl h rfl
theorem x89_186 (h : obC r = 12) : Ze d 89 186 [l0, l1, l2, l3, l4, l5, l6, l7, l8, l9] (aR r :: st) s = Ze d 89 189 [l0, l1, l2, l3, l4, l5, l6, l7, l8, l9] (aR (fcn r 7) :: st) s := Ze_gf (len := 3) (idx := 135) (by decide +kernel) rfl h rfl
theorem x89_189 : Ze d 89 189 [l0, l1, l2, l3, l4, l5, l6, l7, l8, aI z] st s = Ze d 89 191 [l0, l1, l2, l3, l4, l5, l6, l7, l8, aI z] (aI z :: st) s := Ze_n (i := (.iload 9)) (len := 2) (by decide +kernel) rfl
theorem x89_191 (h0 : 0 ≤ i) (h1 : i < aN1 r) : Ze d 89 191 [l0, l1, l2, l3, l4, l5, l6, l7, l8, l9] (aI i :: aR r :: st) s = Ze d 89 192 [l0, l1, l2, l3, l4, l5, l6, l7, l8, l9] (aI (s r i.toNat) :: st) s := Ze_n (i := .iaload) (len := 1) (by decide +kernel) (if_pos ⟨h0, h1⟩)
theorem x89_192 : Ze d 89 192 [l0, l1, l2, l3, l4, l5, l6, l7, l8, l9] (aI z :: st) s = Ze d 89 194 [l0, l1, l2, l3, aI z, l5, l6, l7, l8, l9] st s := Ze_n (i := (.istore 4)) (len := 2) (by decide +kernel) rfl
theorem x89_194 : Ze d 89 194 [l0, l1, l2, aI z, l4, l5, l6, l7, l8, l9] st s = Ze d 89 195 [l0, l1, l2, aI z, l4, l5, l6, l7, l8, l9] (aI z :: st) s := Ze_n (i := (.iload_n 3)) (len := 1) (by decide +kernel) rfl
theorem x89_195 : Ze d 89 195 [aR r, l1, l2, l3, l4, l5, l6, l7, l8, l9] st s = Ze d 89 196 [aR r, l1, l2, l3, l4, l5, l6, l7, l8, l9] (aR r :: st) s := Ze_n (i := (.aload_n 0)) (len := 1) (by decide +kernel) rfl
theorem x89_196 (h : obC r = 2) : Ze d 89 196 [l0, l1, l2, l3, l4, l5, l6, l7, l8, l9] (aR r :: st) s = Ze d 89 199 [l0, l1, l2, l3, l4, l5, l6, l7, l8, l9] (aR (fcn r 0) :: st) s := Ze_gf (len := 3) (idx := 18) (by decide +kernel) rfl h rfl
theorem x89_199 (h : obC r = 12) : Ze d 89 199 [l0, l1, l2, l3, l4, l5, l6, l7, l8, l9] (aR r :: st) s = Ze d 89 202 [l0, l1, l2, l3, l4, l5, l6, l7, l8, l9] (aR (fcn r 8) :: st) s := Ze_gf (len := 3) (idx := 184) (by decide +kernel) rfl h rfl
theorem x89_202 : Ze d 89 202 [l0, l1, l2, l3, l4, l5, l6, l7, l8, aI z] st s = Ze d 89 204 [l0, l1, l2, l3, l4, l5, l6, l7, l8, aI z] (aI z :: st) s := Ze_n (i := (.iload 9)) (len := 2) (by decide +kernel) rfl
theorem x89_204 (h0 : 0 ≤ i) (h1 : i < aN1 r) : Ze d 89 204 [l0, l1, l2, l3, l4, l5, l6, l7, l8, l9] (aI i :: aR r :: st) s = Ze d 89 205 [l0, l1, l2, l3, l4, l5, l6, l7, l8, l9] (aI (s r i.toNat) :: st) s := Ze_n (i := .iaload) (len := 1) (by decide +kernel) (if_pos ⟨h0, h1⟩)
theorem x89_205 : Ze d 89 205 [l0, l1, l2, l3, l4, l5, l6, l7, l8, l9] (aI b :: aI a :: st) s = Ze d 89 206 [l0, l1, l2, l3, l4, l5, l6, l7, l8, l9] (aI (wrap (a + b)) :: st) s := Ze_n (i := .iadd) (len := 1) (by decide +kernel) rfl
theorem x89_206 : Ze d 89 206 [l0, l1, l2, l3, l4, l5, l6, l7, l8, l9] (aI z :: st) s = Ze d 89 207 [l0, l1, l2, aI z, l4, l5, l6, l7, l8, l9] st s := Ze_n (i := (.istore_n 3)) (len := 1) (by decide +kernel) rfl
theorem x89_207 : Ze d 89 207 [l0, l1, l2, l3, l4, aI z, l6, l7, l8, l9] st s = Ze d 89 209 [l0, l1, l2, l3, l4, aI z, l6, l7, l8, l9] (aI z :: st) s := Ze_n (i := (.iload 5)) (len := 2) (by decide +kernel) rfl
theorem x89_209 : Ze d 89 209 [aR r, l1, l2, l3, l4, l5, l6, l7, l8, l9] st s = Ze d 89 210 [aR r, l1, l2, l3, l4, l5, l6, l7, l8, l9] (aR r :: st) s := Ze_n (i := (.aload_n 0)) (len := 1) (by decide +kernel) rfl
theorem x89_210 (h : obC r = 2) : Ze d 89 210 [l0, l1, l2, l3, l4, l5, l6, l7, l8, l9] (aR r :: st) s = Ze d 89 213 [l0, l1, l2, l3, l4, l5, l6, l7, l8, l9] (aR (fcn r 0) :: st) s := Ze_gf (len := 3) (idx := 18) (by decide +kernel) rfl h rfl
theorem x89_213 (h : obC r = 12) : Ze d 89 213 [l0, l1, l2, l3, l4, l5, l6, l7, l8, l9] (aR r :: st) s = Ze d 89 216 [l0, l1, l2, l3, l4, l5, l6, l7, l8, l9] (aR (fcn r 6) :: st) s := Ze_gf (len := 3) (idx := 138) (by decide +kernel) rfl h rfl
theorem x89_216 : Ze d 89 216 [l0, l1, l2, l3, l4, l5, l6, l7, l8, aI z] st s = Ze d 89 218 [l0, l1, l2, l3, l4, l5, l6, l7, l8, aI z] (aI z :: st) s := Ze_n (i := (.iload 9)) (len := 2) (by decide +kernel) rfl
theorem x89_218 (h0 : 0 ≤ i) (h1 : i < aN2 r) : Ze d 89 218 [l0, l1, l2, l3, l4, l5, l6, l7, l8, l9] (aI i :: aR r :: st) s = Ze d 89 219 [l0, l1, l2, l3, l4, l5, l6, l7, l8, l9] (aI (s r i.toNat) :: st) s := Ze_n (i := .baload) (len := 1) (by decide +kernel) (if_pos ⟨h0, h1⟩)
theorem x89_219 : Ze d 89 219 [l0, l1, l2, l3, l4, l5, l6, l7, l8, l9] (aI b :: aI a :: st) s = if a = b then Ze d 89 226 [l0, l1, l2, l3, l4, l5, l6, l7, l8, l9] st s else Ze d 89 222 [l0, l1, l2, l3, l4, l5, l6, l7, l8, l9] st s := Ze_b (i := (.if_icmp .eq 7)) (len := 3) (by decide +kernel) rfl
theorem x89_222 : Ze d 89 222 [l0, l1, l2, l3, l4, l5, l6, l7, l8, l9] st s = Ze d 89 223 [l0, l1, l2, l3, l4, l5, l6, l7, l8, l9] (aI 1 :: st) s := Ze_n (i := (.iconst 1)) (len := 1) (by decide +kernel) rfl
theorem x89_223 : Ze d 89 223 [l0, l1, l2, l3, l4, l5, l6, l7, l8, l9] st s = Ze d 89 227 [l0, l1, l2, l3, l4, l5, l6, l7, l8, l9] st s := Ze_n (i := (.goto 4)) (len := 3) (by decide +kernel) rfl
theorem x89_226 : Ze d 89 226 [l0, l1, l2, l3, l4, l5, l6, l7, l8, l9] st s = Ze d 89 227 [l0, l1, l2, l3, l4, l5, l6, l7, l8, l9] (aI 0 :: st) s := Ze_n (i := (.iconst 0)) (len := 1) (by decide +kernel) rfl
theorem x89_227 : Ze d 89 227 [l0, l1, l2, l3, l4, l5, l6, l7, l8, l9] (aI z :: st) s = Ze d 89 229 [l0, l1, l2, l3, l4, aI z, l6, l7, l8, l9] st s := Ze_n (i := (.istore 5)) (len := 2) (by decide +kernel) rfl
theorem x89_229 : Ze d 89 229 [l0, l1, l2, l3, l4, l5, l6, aI z, l8, l9] st s = Ze d 89 232 [l0, l1, l2, l3, l4, l5, l6, aI (wrap (z + 1)), l8, l9] st s := Ze_n (i := (.iinc 7 1)) (len := 3) (by decide +kernel) rfl
theorem x89_232 : Ze d 89 232 [l0, l1, l2, l3, l4, l5, l6, l7, l8, l9] st s = Ze d 89 72 [l0, l1, l2, l3, l4, l5, l6, l7, l8, l9] st s := Ze_n (i := (.goto (-160))) (len := 3) (by decide +kernel) rfl
theorem x89_235 : Ze d 89 235 [aR r, l1, l2, l3, l4, l5, l6, l7, l8, l9] st s = Ze d 89 236 [aR r, l1, l2, l3, l4, l5, l6, l7, l8, l9] (aR r :: st) s := Ze_n (i := (.aload_n 0)) (len := 1) (by decide +kernel) rfl
theorem x89_236 (h : obC r = 2) (h2 : 0 ≤ s r 6) : Ze d 89 236 [l0, l1, l2, l3, l4, l5, l6, l7, l8, l9] (aR r :: st) s = Ze d 89 239 [l0, l1, l2, l3, l4, l5, l6, l7, l8, l9] (aR (s r 6).toNat :: st) s := Ze_gf (len := 3) (idx := 41) (by decide +kernel) rfl h (fldV_dyn rfl h2)
theorem x89_239 (h : obC r = 6) : Ze d 89 239 [l0, l1, l2, l3, l4, l5, l6, l7, l8, l9] (aR r :: st) s = Ze d 89 242 [l0, l1, l2, l3, l4, l5, l6, l7, l8, l9] (aR (fcn r 0) :: st) s := Ze_gf (len := 3) (idx := 150) (by decide +kernel) rfl h rfl
theorem x89_242 : Ze d 89 242 [l0, aI z, l2, l3, l4, l5, l6, l7, l8, l9] st s = Ze d 89 243 [l0, aI z, l2, l3, l4, l5, l6, l7, l8, l9] (aI z :: st) s := Ze_n (i := (.iload_n 1)) (len := 1) (by decide +kernel) rfl
theorem x89_243 : Ze d 89 243 [l0, l1, l2, l3, l4, l5, l6, l7, l8, l9] st s = Ze d 89 244 [l0, l1, l2, l3, l4, l5, l6, l7, l8, l9] (aI 5 :: st) s := Ze_n (i := (.iconst 5)) (len := 1) (by decide +kernel) rfl
theorem x89_244 (h0 : 0 ≤ i) (h1 : i < aN1 r) : Ze d 89 244 [l0, l1, l2, l3, l4, l5, l6, l7, l8, l9] (aI z :: aI i :: aR r :: st) s = Ze d 89 245 [l0, l1, l2, l3, l4, l5, l6, l7, l8, l9] st (mu s r i.toNat z) := Ze_n (i := .iastore) (len := 1) (by decide +kernel) (if_pos ⟨h0, h1⟩)
theorem x89_245 : Ze d 89 245 [aR r, l1, l2, l3, l4, l5, l6, l7, l8, l9] st s = Ze d 89 246 [aR r, l1, l2, l3, l4, l5, l6, l7, l8, l9] (aR r :: st) s := Ze_n (i := (.aload_n 0)) (len := 1) (by decide +kernel) rfl
theorem x89_246 (h : obC r = 2) (h2 : 0 ≤ s r 6) : Ze d 89 246 [l0, l1, l2, l3, l4, l5, l6, l7, l8, l9] (aR r :: st) s = Ze d 89 249 [l0, l1, l2, l3, l4, l5, l6, l7, l8, l9] (aR (s r 6).toNat :: st) s := Ze_gf (len := 3) (idx := 41) (by decide +kernel) rfl h (fldV_dyn rfl h2)
theorem x89_249 (h : obC r = 6) : Ze d 89 249 [l0, l1, l2, l3, l4, l5, l6, l7, l8, l9] (aR r :: st) s = Ze d 89 252 [l0, l1, l2, l3, l4, l5, l6, l7, l8, l9] (aR (fcn r 1) :: st) s := Ze_gf (len := 3) (idx := 173) (by decide +kernel) rfl h rfl
theorem x89_252 : Ze d 89 252 [l0, aI z, l2, l3, l4, l5, l6, l7, l8, l9] st s = Ze d 89 253 [l0, aI z, l2, l3, l4, l5, l6, l7, l8, l9] (aI z :: st) s := Ze_n (i := (.iload_n 1)) (len := 1) (by decide +kernel) rfl
theorem x89_253 : Ze d 89 253 [l0, l1, l2, aI z, l4, l5, l6, l7, l8, l9] st s = Ze d 89 254 [l0, l1, l2, aI z, l4, l5, l6, l7, l8, l9] (aI z :: st) s := Ze_n (i := (.iload_n 3)) (len := 1) (by decide +kernel) rfl
theorem x89_254 (h0 : 0 ≤ i) (h1 : i < aN1 r) : Ze d 89 254 [l0, l1, l2, l3, l4, l5, l6, l7, l8, l9] (aI z :: aI i :: aR r :: st) s = Ze d 89 255 [l0, l1, l2, l3, l4, l5, l6, l7, l8, l9] st (mu s r i.toNat z) := Ze_n (i := .iastore) (len := 1) (by decide +kernel) (if_pos ⟨h0, h1⟩)
theorem x89_255 : Ze d 89 255 [aR r, l1, l2, l3, l4, l5, l6, l7, l8, l9] st s = Ze d 89 256 [aR r, l1, l2, l3, l4, l5, l6, l7, l8, l9] (aR r :: st) s := Ze_n (i := (.aload_n 0)) (len := 1) (by decide +kernel) rfl
theorem x89_256 (h : obC r = 2) (h2 : 0 ≤ s r 6) : Ze d 89 256 [l0, l1, l2, l3, l4, l5, l6, l7, l8, l9] (aR r :: st) s = Ze d 89 259 [l0, l1, l2, l3, l4, l5, l6, l7, l8, l9] (aR (s r 6).toNat :: st) s := Ze_gf (len := 3) (idx := 41) (by decide +kernel) rfl h (fldV_dyn rfl h2)
theorem x89_259 (h : obC r = 6) : Ze d 89 259 [l0, l1, l2, l3, l4, l5, l6, l7, l8, l9] (aR r :: st) s = Ze d 89 262 [l0, l1, l2, l3, l4, l5, l6, l7, l8, l9] (aR (fcn r 2) :: st) s := Ze_gf (len := 3) (idx := 159) (by decide +kernel) rfl h rfl
theorem x89_262 : Ze d 89 262 [l0, aI z, l2, l3, l4, l5, l6, l7, l8, l9] st s = Ze d 89 263 [l0, aI z, l2, l3, l4, l5, l6, l7, l8, l9] (aI z :: st) s := Ze_n (i := (.iload_n 1)) (len := 1) (by decide +kernel) rfl
theorem x89_263 : Ze d 89 263 [l0, l1, l2, l3, aI z, l5, l6, l7, l8, l9] st s = Ze d 89 265 [l0, l1, l2, l3, aI z, l5, l6, l7, l8, l9] (aI z :: st) s := Ze_n (i := (.iload 4)) (len := 2) (by decide +kernel) rfl
theorem x89_265 (h0 : 0 ≤ i) (h1 : i < aN1 r) : Ze d 89 265 [l0, l1, l2, l3, l4, l5, l6, l7, l8, l9] (aI z :: aI i :: aR r :: st) s = Ze d 89 266 [l0, l1, l2, l3, l4, l5, l6, l7, l8, l9] st (mu s r i.toNat z) := Ze_n (i := .iastore) (len := 1) (by decide +kernel) (if_pos ⟨h0, h1⟩)
theorem x89_266 : Ze d 89 266 [aR r, l1, l2, l3, l4, l5, l6, l7, l8, l9] st s = Ze d 89 267 [aR r, l1, l2, l3, l4, l5, l6, l7, l8, l9] (aR r :: st) s := Ze_n (i := (.aload_n 0)) (len := 1) (by decide +kernel) rfl
theorem x89_267 (h : obC r = 2) (h2 : 0 ≤ s r 6) : Ze d 89 267 [l0, l1, l2, l3, l4, l5, l6, l7, l8, l9] (aR r :: st) s = Ze d 89 270 [l0, l1, l2, l3, l4, l5, l6, l7, l8, l9] (aR (s r 6).toNat :: st) s := Ze_gf (len := 3) (idx := 41) (by decide +kernel) rfl h (fldV_dyn rfl h2)
theorem x89_270 (h : obC r = 6) : Ze d 89 270 [l0, l1, l2, l3, l4, l5, l6, l7, l8, l9] (aR r :: st) s = Ze d 89 273 [l0, l1, l2, l3, l4, l5, l6, l7, l8, l9] (aR (fcn r 3) :: st) s := Ze_gf (len := 3) (idx := 172) (by decide +kernel) rfl h rfl
theorem x89_273 : Ze d 89 273 [l0, aI z, l2, l3, l4, l5, l6, l7, l8, l9] st s = Ze d 89 274 [l0, aI z, l2, l3, l4, l5, l6, l7, l8, l9] (aI z :: st) s := Ze_n (i := (.iload_n 1)) (len := 1) (by decide +kernel) rfl
theorem x89_274 : Ze d 89 274 [l0, l1, l2, l3, l4, aI z, l6, l7, l8, l9] st s = Ze d 89 276 [l0, l1, l2, l3, l4, aI z, l6, l7, l8, l9] (aI z :: st) s := Ze_n (i := (.iload 5)) (len := 2) (by decide +kernel) rfl
theorem x89_276 : Ze d 89 276 [l0, l1, l2, l3, l4, l5, l6, l7, l8, l9] (aI a :: st) s = if a = 0 then Ze d 89 283 [l0, l1, l2, l3, l4, l5, l6, l7, l8, l9] st s else Ze d 89 279 [l0, l1, l2, l3, l4, l5, l6, l7, l8, l9] st s := Ze_b (i := (.ifCond .eq 7)) (len := 3) (by decide +kernel) rfl
theorem x89_279 : Ze d 89 279 [l0, l1, l2, l3, l4, l5, l6, l7, l8, l9] st s = Ze d 89 280 [l0, l1, l2, l3, l4, l5, l6, l7, l8, l9] (aI 1 :: st) s := Ze_n (i := (.iconst 1)) (len := 1) (by decide +kernel) rfl
theorem x89_280 : Ze d 89 280 [l0, l1, l2, l3, l4, l5, l6, l7, l8, l9] st s = Ze d 89 284 [l0, l1, l2, l3, l4, l5, l6, l7, l8, l9] st s := Ze_n (i := (.goto 4)) (len := 3) (by decide +kernel) rfl
theorem x89_283 : Ze d 89 283 [l0, l1, l2, l3, l4, l5, l6, l7, l8, l9] st s = Ze d 89 284 [l0, l1, l2, l3, l4, l5, l6, l7, l8, l9] (aI 0 :: st) s := Ze_n (i := (.iconst 0)) (len := 1) (by decide +kernel) rfl
theorem x89_284 (h0 : 0 ≤ i) (h1 : i < aN1 r) : Ze d 89 284 [l0, l1, l2, l3, l4, l5, l6, l7, l8, l9] (aI z :: aI i :: aR r :: st) s = Ze d 89 285 [l0, l1, l2, l3, l4, l5, l6, l7, l8, l9] st (mu s r i.toNat z) := Ze_n (i := .iastore) (len := 1) (by decide +kernel) (if_pos ⟨h0, h1⟩)
theorem x89_285 : Ze d 89 285 [l0, l1, l2, l3, l4, l5, l6, l7, l8, l9] st s = Ze d 89 286 [l0, l1, l2, l3, l4, l5, l6, l7, l8, l9] (aI 1 :: st) s := Ze_n (i := (.iconst 1)) (len := 1) (by decide +kernel) rfl
theorem x89_286 (h : z = 0 ∨ z = 1) : Ze d 89 286 [l0, l1, l2, l3, l4, l5, l6, l7, l8, l9] [aI z] s = rI z s := Ze_i2 (by decide +kernel) rfl h
theorem en89 : Zc (d + 1) 89 [aR r, aI a1] s = Ze d 89 0 [aR r, aI a1, aU, aU, aU, aU, aU, aU, aU, aU] [] s := rfl
theorem x167_0 : Ze d 167 0 [aR r, l1, l2, l3, l4] st s = Ze d 167 1 [aR r, l1, l2, l3, l4] (aR r :: st) s := Ze_n (i := (.aload_n 0)) (len := 1) (by decide +kernel) rfl
theorem x167_1 (h : obC r = 12) : Ze d 167 1 [l0, l1, l2, l3, l4] (aR r :: st) s = Ze d 167 4 [l0, l1, l2, l3, l4] (aR (fcn r 0) :: st) s := Ze_gf (len := 3) (idx := 9) (by decide +kernel) rfl h rfl
theorem x167_4 : Ze d 167 4 [l0, aI z, l2, l3, l4] st s = Ze d 167 5 [l0, aI z, l2, l3, l4] (aI z :: st) s := Ze_n (i := (.iload_n 1)) (len := 1) (by decide +kernel) rfl
theorem x167_5 (h0 : 0 ≤ i) (h1 : i < aN1 r) : Ze d 167 5 [l0, l1, l2, l3, l4] (aI i :: aR r :: st) s = Ze d 167 6 [l0, l1, l2, l3, l4] (aI (s r i.toNat) :: st) s := Ze_n (i := .iaload) (len := 1) (by decide +kernel) (if_pos ⟨h0, h1⟩)
theorem x167_6 : Ze d 167 6 [l0, l1, l2, l3, l4] st s = Ze d 167 7 [l0, l1, l2, l3, l4] (aI 1 :: st) s := Ze_n (i := (.iconst 1)) (len := 1) (by decide +kernel) rfl
theorem x167_7 : Ze d 167 7 [l0, l1, l2, l3, l4] (aI b :: aI a :: st) s = if a = b then Ze d 167 12 [l0, l1, l2, l3, l4] st s else Ze d 167 10 [l0, l1, l2, l3, l4] st s := Ze_b (i := (.if_icmp .eq 5)) (len := 3) (by decide +kernel) rfl
theorem x167_10 : Ze d 167 10 [l0, l1, l2, l3, l4] st s = Ze d 167 11 [l0, l1, l2, l3, l4] (aI (-1) :: st) s := Ze_n (i := (.iconst (-1))) (len := 1) (by decide +kernel) rfl
theorem x167_11 : Ze d 167 11 [l0, l1, l2, l3, l4] [aI z] s = rI z s := Ze_i1 (by decide +kernel) rfl
theorem x167_12 : Ze d 167 12 [aR r, l1, l2, l3, l4] st s = Ze d 167 13 [aR r, l1, l2, l3, l4] (aR r :: st) s := Ze_n (i := (.aload_n 0)) (len := 1) (by decide +kernel) rfl
theorem x167_13 (h : obC r = 12) : Ze d 167 13 [l0, l1, l2, l3, l4] (aR r :: st) s = Ze d 167 16 [l0, l1, l2, l3, l4] (aR (fcn r 1) :: st) s := Ze_gf (len := 3) (idx := 15) (by decide +kernel) rfl h rfl
theorem x167_16 : Ze d 167 16 [l0, aI z, l2, l3, l4] st s = Ze d 167 17 [l0, aI z, l2, l3, l4] (aI z :: st) s := Ze_n (i := (.iload_n 1)) (len := 1) (by decide +kernel) rfl
theorem x167_17 (h0 : 0 ≤ i) (h1 : i < aN1 r) : Ze d 167 17 [l0, l1, l2, l3, l4] (aI i :: aR r :: st) s = Ze d 167 18 [l0, l1, l2, l3, l4] (aI (s r i.toNat) :: st) s := Ze_n (i := .iaload) (len := 1) (by decide +kernel) (if_pos ⟨h0, h1⟩)
theorem x167_18 : Ze d 167 18 [l0, l1, l2, l3, l4] (aI z :: st) s = Ze d 167 19 [l0, l1, l2, aI z, l4] st s := Ze_n (i := (.istore_n 3)) (len := 1) (by decide +kernel) rfl
theorem x167_19 : Ze d 167 19 [l0, l1, l2, l3, l4] st s = Ze d 167 20 [l0, l1, l2, l3, l4] (aI 0 :: st) s := Ze_n (i := (.iconst 0)) (len := 1) (by decide +kernel) rfl
theorem x167_20 : Ze d 167 20 [l0, l1, l2, l3, l4] (aI z :: st) s = Ze d 167 22 [l0, l1, l2, l3, aI z] st s := Ze_n (i := (.istore 4)) (len := 2) (by decide +kernel) rfl
theorem x167_22 : Ze d 167 22 [l0, l1, l2, l3, aI z] st s = Ze d 167 24 [l0, l1, l2, l3, aI z] (aI z :: st) s := Ze_n (i := (.iload 4)) (len := 2) (by decide +kernel) rfl
theorem x167_24 : Ze d 167 24 [aR r, l1, l2, l3, l4] st s = Ze d 167 25 [aR r, l1, l2, l3, l4] (aR r :: st) s := Ze_n (i := (.aload_n 0)) (len := 1) (by decide +kernel) rfl
theorem x167_25 (h : obC r = 12) : Ze d 167 25 [l0, l1, l2, l3, l4] (aR r :: st) s = Ze d 167 28 [l0, l1, l2, l3, l4] (aI (s r 10) :: st) s := Ze_gf (len := 3) (idx := 44) (by decide +kernel) rfl h rfl
theorem x167_28 : Ze d 167 28 [l0, l1, l2, l3, l4] (aI b :: aI a :: st) s = if a < b then Ze d 167 31 [l0, l1, l2, l3, l4] st s else Ze d 167 61 [l0, l1, l2, l3, l4] st s := Ze_b (i := (.if_icmp .ge 33)) (len := 3) (by decide +kernel) rfl
theorem x167_31 : Ze d 167 31 [l0, l1, l2, aI z, l4] st s = Ze d 167 32 [l0, l1, l2, aI z, l4] (aI z :: st) s := Ze_n (i := (.iload_n 3)) (len := 1) (by decide +kernel) rfl
theorem x167_32 : Ze d 167 32 [l0, l1, l2, l3, l4] st s = Ze d 167 33 [l0, l1, l2, l3, l4] (aI (-1) :: st) s := Ze_n (i := (.iconst (-1))) (len := 1) (by decide +kernel) rfl
theorem x167_33 : Ze d 167 33 [l0, l1, l2, l3, l4] (aI b :: aI a :: st) s = if a = b then Ze d 167 61 [l0, l1, l2, l3, l4] st s else Ze d 167 36 [l0, l1, l2, l3, l4] st s := Ze_b (i := (.if_icmp .eq 28)) (len := 3) (by decide +kernel) rfl
theorem x167_36 : Ze d 167 36 [aR r, l1, l2, l3, l4] st s = Ze d 167 37 [aR r, l1, l2, l3, l4] (aR r :: st) s := Ze_n (i := (.aload_n 0)) (len := 1) (by decide +kernel) rfl
theorem x167_37 (h : obC r = 12) : Ze d 167 37 [l0, l1, l2, l3, l4] (aR r :: st) s = Ze d 167 40 [l0, l1, l2, l3, l4] (aR (fcn r 5) :: st) s := Ze_gf (len := 3) (idx := 24) (by decide +kernel) rfl h rfl
theorem x167_40 : Ze d 167 40 [l0, l1, l2, aI z, l4] st s = Ze d 167 41 [l0, l1, l2, aI z, l4] (aI z :: st) s := Ze_n (i := (.iload_n 3)) (len := 1) (by decide +kernel) rfl
theorem x167_41 (h0 : 0 ≤ i) (h1 : i < aN1 r) : Ze d 167 41 [l0, l1, l2, l3, l4] (aI i :: aR r :: st) s = Ze d 167 42 [l0, l1, l2, l3, l4] (aI (s r i.toNat) :: st) s := Ze_n (i := .iaload) (len := 1) (by decide +kernel) (if_pos ⟨h0, h1⟩)
theorem x167_42 : Ze d 167 42 [l0, l1, aI z, l3, l4] st s = Ze d 167 43 [l0, l1, aI z, l3, l4] (aI z :: st) s := Ze_n (i := (.iload_n 2)) (len := 1) (by decide +kernel) rfl
theorem x167_43 : Ze d 167 43 [l0, l1, l2, l3, l4] (aI b :: aI a :: st) s = if a = b then Ze d 167 46 [l0, l1, l2, l3, l4] st s else Ze d 167 48 [l0, l1, l2, l3, l4] st s := Ze_b (i := (.if_icmp .ne 5)) (len := 3) (by decide +kernel) rfl
theorem x167_46 : Ze d 167 46 [l0, l1, l2, aI z, l4] st s = Ze d 167 47 [l0, l1, l2, aI z, l4] (aI z :: st) s := Ze_n (i := (.iload_n 3)) (len := 1) (by decide +kernel) rfl
theorem x167_47 : Ze d 167 47 [l0, l1, l2, l3, l4] [aI z] s = rI z s := Ze_i1 (by decide +kernel) rfl
theorem x167_48 : Ze d 167 48 [aR r, l1, l2, l3, l4] st s = Ze d 167 49 [aR r, l1, l2, l3, l4] (aR r :: st) s := Ze_n (i := (.aload_n 0)) (len := 1) (by decide +kernel) rfl
theorem x167_49 (h : obC r = 12) : Ze d 167 49 [l0, l1, l2, l3, l4] (aR r :: st) s = Ze d 167 52 [l0, l1, l2, l3, l4] (aR (fcn r 9) :: st) s := Ze_gf (len := 3) (idx := 37) (by decide +kernel) rfl h rfl
theorem x167_52 : Ze d 167 52 [l0, l1, l2, aI z, l4] st s = Ze d 167 53 [l0, l1, l2, aI z, l4] (aI z :: st) s := Ze_n (i := (.iload_n 3)) (len := 1) (by decide +kernel) rfl
theorem x167_53 (h0 : 0 ≤ i) (h1 : i < aN1 r) : Ze d 167 53 [l0, l1, l2, l3, l4] (aI i :: aR r :: st) s = Ze d 167 54 [l0, l1, l2, l3, l4] (aI (s r i.toNat) :: st) s := Ze_n (i := .iaload) (len := 1) (by decide +kernel) (if_pos ⟨h0, h1⟩)
theorem x167_54 : Ze d 167 54 [l0, l1, l2, l3, l4] (aI z :: st) s = Ze d 167 55 [l0, l1, l2, aI z, l4] st s := Ze_n (i := (.istore_n 3)) (len := 1) (by decide +kernel) rfl
theorem x167_55 : Ze d 167 55 [l0, l1, l2, l3, aI z] st s = Ze d 167 58 [l0, l1, l2, l3, aI (wrap (z + 1))] st s := Ze_n (i := (.iinc 4 1)) (len := 3) (by decide +kernel) rfl
theorem x167_58 : Ze d 167 58 [l0, l1, l2, l3, l4] st s = Ze d 167 22 [l0, l1, l2, l3, l4] st s := Ze_n (i := (.goto (-36))) (len := 3) (by decide +kernel) rfl
theorem x167_61 : Ze d 167 61 [l0, l1, l2, l3, l4] st s = Ze d 167 62 [l0, l1, l2, l3, l4] (aI (-1) :: st) s := Ze_n (i := (.iconst (-1))) (len := 1) (by decide +kernel) rfl
theorem x167_62 : Ze d 167 62 [l0, l1, l2, l3, l4] [aI z] s = rI z s := Ze_i1 (by decide +kernel) rfl
theorem en167 : Zc (d + 1) 167 [aR r, aI a1, aI a2] s = Ze d 167 0 [aR r, aI a1, aI a2, aU, aU] [] s := rfl
theorem x85_0 : Ze d 85 0 [aR r, l1, l2] st s = Ze d 85 1 [aR r, l1, l2] (aR r :: st) s := Ze_n (i := (.aload_n 0)) (len := 1) (by decide +kernel) rfl
theorem x85_1 (h : obC r = 2) (h2 : 0 ≤ s r 6) : Ze d 85 1 [l0, l1, l2] (aR r :: st) s = Ze d 85 4 [l0, l1, l2] (aR (s r 6).toNat :: st) s := Ze_gf (len := 3) (idx := 41) (by decide +kernel) rfl h (fldV_dyn rfl h2)
theorem x85_4 (h : obC r = 6) : Ze d 85 4 [l0, l1, l2] (aR r :: st) s = Ze d 85 7 [l0, l1, l2] (aR (fcn r 4) :: st) s := Ze_gf (len := 3) (idx := 145) (by decide +kernel) rfl h rfl
theorem x85_7 : Ze d 85 7 [l0, aI z, l2] st s = Ze d 85 8 [l0, aI z, l2] (aI z :: st) s := Ze_n (i := (.iload_n 1)) (len := 1) (by decide +kernel) rfl
theorem x85_8 (h0 : 0 ≤ i) (h1 : i < aN1 r) : Ze d 85 8 [l0, l1, l2] (aI i :: aR r :: st) s = Ze d 85 9 [l0, l1, l2] (aI (s r i.toNat) :: st) s := Ze_n (i := .iaload) (len := 1) (by decide +kernel) (if_pos ⟨h0, h1⟩)
theorem x85_9 : Ze d 85 9 [l0, l1, l2] (aI z :: st) s = Ze d 85 10 [l0, l1, aI z] st s := Ze_n (i := (.istore_n 2)) (len := 1) (by decide +kernel) rfl
theorem x85_10 : Ze d 85 10 [l0, l1, aI z] st s = Ze d 85 11 [l0, l1, aI z] (aI z :: st) s := Ze_n (i := (.iload_n 2)) (len := 1) (by decide +kernel) rfl
theorem x85_11 : Ze d 85 11 [l0, aI z, l2] st s = Ze d 85 12 [l0, aI z, l2] (aI z :: st) s := Ze_n (i := (.iload_n 1)) (len := 1) (by decide +kernel) rfl
theorem x85_12 : Ze d 85 12 [l0, l1, l2] (aI b :: aI a :: st) s = if b < a then Ze d 85 52 [l0, l1, l2] st s else Ze d 85 15 [l0, l1, l2] st s := Ze_b (i := (.if_icmp .gt 40)) (len := 3) (by decide +kernel) rfl
theorem x85_15 : Ze d 85 15 [aR r, l1, l2] st s = Ze d 85 16 [aR r, l1, l2] (aR r :: st) s := Ze_n (i := (.aload_n 0)) (len := 1) (by decide +kernel) rfl
theorem x85_16 (h : obC r = 2) (h2 : 0 ≤ s r 6) : Ze d 85 16 [l0, l1, l2] (aR r :: st) s = Ze d 85 19 [l0, l1, l2] (aR (s r 6).toNat :: st) s := Ze_gf (len := 3) (idx := 41) (by decide +kernel) rfl h (fldV_dyn rfl h2)
theorem x85_19 (h : obC r = 6) : Ze d 85 19 [l0, l1, l2] (aR r :: st) s = Ze d 85 22 [l0, l1, l2] (aR (fcn r 0) :: st) s := Ze_gf (len := 3) (idx := 150) (by decide +kernel) rfl h rfl
theorem x85_22 : Ze d 85 22 [l0, l1, aI z] st s = Ze d 85 23 [l0, l1, aI z] (aI z :: st) s := Ze_n (i := (.iload_n 2)) (len := 1) (by decide +kernel) rfl
theorem x85_23 (h0 : 0 ≤ i) (h1 : i < aN1 r) : Ze d 85 23 [l0, l1, l2] (aI i :: aR r :: st) s = Ze d 85 24 [l0, l1, l2] (aI (s r i.toNat) :: st) s := Ze_n (i := .iaload) (len := 1) (by decide +kernel) (if_pos ⟨h0, h1⟩)
theorem x85_24 : Ze d 85 24 [l0, l1, l2] st s = Ze d 85 25 [l0, l1, l2] (aI 4 :: st) s := Ze_n (i := (.iconst 4)) (len := 1) (by decide +kernel) rfl
theorem x85_25 : Ze d 85 25 [l0, l1, l2] (aI b :: aI a :: st) s = if a = b then Ze d 85 28 [l0, l1, l2] st s else Ze d 85 46 [l0, l1, l2] st s := Ze_b (i := (.if_icmp .ne 21)) (len := 3) (by decide +kernel) rfl
theorem x85_28 : Ze d 85 28 [aR r, l1, l2] st s = Ze d 85 29 [aR r, l1, l2] (aR r :: st) s := Ze_n (i := (.aload_n 0)) (len := 1) (by decide +kernel) rfl
theorem x85_29 : Ze d 85 29 [l0, l1, aI z] st s = Ze d 85 30 [l0, l1, aI z] (aI z :: st) s := Ze_n (i := (.iload_n 2)) (len := 1) (by decide +kernel) rfl
theorem x85_30 (h : obC r = 2) (h6 : st.length ≤ 4) : Ze d 85 30 [l0, l1, l2] (aI a1 :: aR r :: st) s = zcI (Zc d 89 [aR r, aI a1] s) d 85 33 [l0, l1, l2] st := Ze_cvI (idx := 153) (len := 3) (as := [aI a1]) (by decide +kernel) rfl (by decide +kernel) rfl h h6
theorem x85_33 : Ze d 85 33 [l0, l1, l2] (aI a :: st) s = if a = 0 then Ze d 85 44 [l0, l1, l2] st s else Ze d 85 36 [l0, l1, l2] st s := Ze_b (i := (.ifCond .eq 11)) (len := 3) (by decide +kernel) rfl
theorem x85_36 : Ze d 85 36 [aR r, l1, l2] st s = Ze d 85 37 [aR r, l1, l2] (aR r :: st) s := Ze_n (i := (.aload_n 0)) (len := 1) (by decide +kernel) rfl
theorem x85_37 : Ze d 85 37 [l0, l1, aI z] st s = Ze d 85 38 [l0, l1, aI z] (aI z :: st) s := Ze_n (i := (.iload_n 2)) (len := 1) (by decide +kernel) rfl
theorem x85_38 (h : obC r = 2) (h6 : st.length ≤ 4) : Ze d 85 38 [l0, l1, l2] (aI a1 :: aR r :: st) s = zcI (Zc d 86 [aR r, aI a1] s) d 85 41 [l0, l1, l2] st := Ze_cvI (idx := 156) (len := 3) (as := [aI a1]) (by decide +kernel) rfl (by decide +kernel) rfl h h6
theorem x85_41 : Ze d 85 41 [l0, l1, l2] (aI a :: st) s = if a = 0 then Ze d 85 44 [l0, l1, l2] st s else Ze d 85 46 [l0, l1, l2] st s := Ze_b (i := (.ifCond .ne 5)) (len := 3) (by decide +kernel) rfl
theorem x85_44 : Ze d 85 44 [l0, l1, l2] st s = Ze d 85 45 [l0, l1, l2] (aI 0 :: st) s := Ze_n (i := (.iconst 0)) (len := 1) (by decide +kernel) rfl
theorem x85_45 (h : z = 0 ∨ z = 1) : Ze d 85 45 [l0, l1, l2] [aI z] s = rI z s := Ze_i2 (by decide +kernel) rfl h
theorem x85_46 : Ze d 85 46 [l0, l1, aI z] st s = Ze d 85 49 [l0, l1, aI (wrap (z + 1))] st s := Ze_n (i := (.iinc 2 1)) (len := 3) (by decide +kernel) rfl
theorem x85_49 : Ze d 85 49 [l0, l1, l2] st s = Ze d 85 10 [l0, l1, l2] st s := Ze_n (i := (.goto (-39))) (len := 3) (by decide +kernel) rfl
theorem x85_52 : Ze d 85 52 [l0, l1, l2] st s = Ze d 85 53 [l0, l1, l2] (aI 1 :: st) s := Ze_n (i := (.iconst 1)) (len := 1) (by decide +kernel) rfl
theorem x85_53 (h : z = 0 ∨ z = 1) : Ze d 85 53 [l0, l1, l2] [aI z] s = rI z s := Ze_i2 (by decide +kernel) rfl h
theorem en85 : Zc (d + 1) 85 [aR r, aI a1] s = Ze d 85 0 [aR r, aI a1, aU] [] s := rfl
theorem x86_0 : Ze d 86 0 [aR r, l1] st s = Ze d 86 1 [aR r, l1] (aR r :: st) s := Ze_n (i := (.aload_n 0)) (len := 1) (by decide +kernel) rfl
theorem x86_1 (h : obC r = 2) : Ze d 86 1 [l0, l1] (aR r :: st) s = Ze d 86 4 [l0, l1] (aR (fcn r 0) :: st) s := Ze_gf (len := 3) (idx := 18) (by decide +kernel) rfl h rfl
theorem x86_4 (h : obC r = 12) : Ze d 86 4 [l0, l1] (aR r :: st) s = Ze d 86 7 [l0, l1] (aR (fcn r 0) :: st) s := Ze_gf (len := 3) (idx := 120) (by decide +kernel) rfl h rfl
theorem x86_7 : Ze d 86 7 [aR r, l1] st s = Ze d 86 8 [aR r, l1] (aR r :: st) s := Ze_n (i := (.aload_n 0)) (len := 1) (by decide +kernel) rfl
theorem x86_8 (h : obC r = 2) (h2 : 0 ≤ s r 6) : Ze d 86 8 [l0, l1] (aR r :: st) s = Ze d 86 11 [l0, l1] (aR (s r 6).toNat :: st) s := Ze_gf (len := 3) (idx := 41) (by decide +kernel) rfl h (fldV_dyn rfl h2)
theorem x86_11 (h : obC r = 6) : Ze d 86 11 [l0, l1] (aR r :: st) s = Ze d 86 14 [l0, l1] (aR (fcn r 2) :: st) s := Ze_gf (len := 3) (idx := 159) (by decide +kernel) rfl h rfl
theorem x86_14 : Ze d 86 14 [l0, aI z] st s = Ze d 86 15 [l0, aI z] (aI z :: st) s := Ze_n (i := (.iload_n 1)) (len := 1) (by decide +kernel) rfl
theorem x86_15 (h0 : 0 ≤ i) (h1 : i < aN1 r) : Ze d 86 15 [l0, l1] (aI i :: aR r :: st) s = Ze d 86 16 [l0, l1] (aI (s r i.toNat) :: st) s := Ze_n (i := .iaload) (len := 1) (by decide +kernel) (if_pos ⟨h0, h1⟩)
theorem x86_16 (h0 : 0 ≤ i) (h1 : i < aN1 r) : Ze d 86 16 [l0, l1] (aI i :: aR r :: st) s = Ze d 86 17 [l0, l1] (aI (s r i.toNat) :: st) s := Ze_n (i := .iaload) (len := 1) (by decide +kernel) (if_pos ⟨h0, h1⟩)
theorem x86_17 : Ze d 86 17 [l0, l1] (aI a :: st) s = if a = 0 then Ze d 86 20 [l0, l1] st s else Ze d 86 24 [l0, l1] st s := Ze_b (i := (.ifCond .ne 7)) (len := 3) (by decide +kernel) rfl
theorem x86_20 : Ze d 86 20 [l0, l1] st s = Ze d 86 21 [l0, l1] (aI 1 :: st) s := Ze_n (i := (.iconst 1)) (len := 1) (by decide +kernel) rfl
theorem x86_21 : Ze d 86 21 [l0, l1] st s = Ze d 86 25 [l0, l1] st s := Ze_n (i := (.goto 4)) (len := 3) (by decide +kernel) rfl
theorem x86_24 : Ze d 86 24 [l0, l1] st s = Ze d 86 25 [l0, l1] (aI 0 :: st) s := Ze_n (i := (.iconst 0)) (len := 1) (by decide +kernel) rfl
theorem x86_25 (h : z = 0 ∨ z = 1) : Ze d 86 25 [l0, l1] [aI z] s = rI z s := Ze_i2 (by decide +kernel) rfl h
theorem en86 : Zc (d + 1) 86 [aR r, aI a1] s = Ze d 86 0 [aR r, aI a1] [] s := rfl
theorem x81_0 : Ze d 81 0 [aR r, l1, l2] st s = Ze d 81 1 [aR r, l1, l2] (aR r :: st) s := Ze_n (i := (.aload_n 0)) (len := 1) (by decide +kernel) rfl
theorem x81_1 (h : obC r = 2) : Ze d 81 1 [l0, l1, l2] (aR r :: st) s = Ze d 81 4 [l0, l1, l2] (aR (fcn r 3) :: st) s := Ze_gf (len := 3) (idx := 9) (by decide +kernel) rfl h rfl
theorem x81_4 : Ze d 81 4 [l0, aI z, l2] st s = Ze d 81 5 [l0, aI z, l2] (aI z :: st) s := Ze_n (i := (.iload_n 1)) (len := 1) (by decide +kernel) rfl
theorem x81_5 (h0 : 0 ≤ i) (h1 : i < aN1 r) : Ze d 81 5 [l0, l1, l2] (aI i :: aR r :: st) s = Ze d 81 6 [l0, l1, l2] (aI (s r i.toNat) :: st) s := Ze_n (i := .iaload) (len := 1) (by decide +kernel) (if_pos ⟨h0, h1⟩)
theorem x81_6 : Ze d 81 6 [l0, l1, l2] st s = Ze d 81 7 [l0, l1, l2] (aI (-1) :: st) s := Ze_n (i := (.iconst (-1))) (len := 1) (by decide +kernel) rfl
theorem x81_7 : Ze d 81 7 [l0, l1, l2] (aI b :: aI a :: st) s = if a = b then Ze d 81 10 [l0, l1, l2] st s else Ze d 81 28 [l0, l1, l2] st s := Ze_b (i := (.if_icmp .ne 21)) (len := 3) (by decide +kernel) rfl
theorem x81_10 : Ze d 81 10 [aR r, l1, l2] st s = Ze d 81 11 [aR r, l1, l2] (aR r :: st) s := Ze_n (i := (.aload_n 0)) (len := 1) (by decide +kernel) rfl
theorem x81_11 (h : obC r = 2) (h2 : 0 ≤ s r 5) : Ze d 81 11 [l0, l1, l2] (aR r :: st) s = Ze d 81 14 [l0, l1, l2] (aR (s r 5).toNat :: st) s := Ze_gf (len := 3) (idx := 36) (by decide +kernel) rfl h (fldV_dyn rfl h2)
theorem x81_14 (h : obC r = 8) : Ze d 81 14 [l0, l1, l2] (aR r :: st) s = Ze d 81 17 [l0, l1, l2] (aI (s r 6) :: st) s := Ze_gf (len := 3) (idx := 42) (by decide +kernel) rfl h rfl
theorem x81_17 : Ze d 81 17 [l0, l1, aI z] st s = Ze d 81 18 [l0, l1, aI z] (aI z :: st) s := Ze_n (i := (.iload_n 2)) (len := 1) (by decide +kernel) rfl
theorem x81_18 : Ze d 81 18 [l0, l1, l2] (aI b :: aI a :: st) s = Ze d 81 19 [l0, l1, l2] (aI (wrap (a + b)) :: st) s := Ze_n (i := .iadd) (len := 1) (by decide +kernel) rfl
theorem x81_19 : Ze d 81 19 [l0, l1, l2] st s = Ze d 81 21 [l0, l1, l2] (aI 24 :: st) s := Ze_n (i := (.bipush 24)) (len := 2) (by decide +kernel) rfl
theorem x81_21 : Ze d 81 21 [l0, l1, l2] (aI b :: aI a :: st) s = if b < a then Ze d 81 28 [l0, l1, l2] st s else Ze d 81 24 [l0, l1, l2] st s := Ze_b (i := (.if_icmp .gt 7)) (len := 3) (by decide +kernel) rfl
theorem x81_24 : Ze d 81 24 [l0, l1, l2] st s = Ze d 81 25 [l0, l1, l2] (aI 1 :: st) s := Ze_n (i := (.iconst 1)) (len := 1) (by decide +kernel) rfl
theorem x81_25 : Ze d 81 25 [l0, l1, l2] st s = Ze d 81 29 [l0, l1, l2] st s := Ze_n (i := (.goto 4)) (len := 3) (by decide +kernel) rfl
theorem x81_28 : Ze d 81 28 [l0, l1, l2] st s = Ze d 81 29 [l0, l1, l2] (aI 0 :: st) s := Ze_n (i := (.iconst 0)) (len := 1) (by decide +kernel) rfl
theorem x81_29 (h : z = 0 ∨ z = 1) : Ze d 81 29 [l0, l1, l2] [aI z] s = rI z s := Ze_i2 (by decide +kernel) rfl h
theorem en81 : Zc (d + 1) 81 [aR r, aI a1, aI a2] s = Ze d 81 0 [aR r, aI a1, aI a2] [] s := rfl
theorem x79_0 : Ze d 79 0 [aR r, l1, l2, l3] st s = Ze d 79 1 [aR r, l1, l2, l3] (aR r :: st) s := Ze_n (i := (.aload_n 0)) (len := 1) (by decide +kernel) rfl
theorem x79_1 (h : obC r = 2) : Ze d 79 1 [l0, l1, l2, l3] (aR r :: st) s = Ze d 79 4 [l0, l1, l2, l3] (aR (fcn r 1) :: st) s := Ze_gf (len := 3) (idx := 22) (by decide +kernel) rfl h rfl
theorem x79_4 (h : obC r = 10) : Ze d 79 4 [l0, l1, l2, l3] (aR r :: st) s = Ze d 79 7 [l0, l1, l2, l3] (aR (fcn r 2) :: st) s := Ze_gf (len := 3) (idx := 80) (by decide +kernel) rfl h rfl
theorem x79_7 : Ze d 79 7 [l0, aI z, l2, l3] st s = Ze d 79 8 [l0, aI z, l2, l3] (aI z :: st) s := Ze_n (i := (.iload_n 1)) (len := 1) (by decide +kernel) rfl
theorem x79_8 (h0 : 0 ≤ i) (h1 : i < aN1 r) : Ze d 79 8 [l0, l1, l2, l3] (aI i :: aR r :: st) s = Ze d 79 9 [l0, l1, l2, l3] (aI (s r i.toNat) :: st) s := Ze_n (i := .iaload) (len := 1) (by decide +kernel) (if_pos ⟨h0, h1⟩)
theorem x79_9 : Ze d 79 9 [l0, l1, l2, l3] (aI z :: st) s = Ze d 79 10 [l0, l1, aI z, l3] st s := Ze_n (i := (.istore_n 2)) (len := 1) (by decide +kernel) rfl
theorem x79_10 : Ze d 79 10 [aR r, l1, l2, l3] st s = Ze d 79 11 [aR r, l1, l2, l3] (aR r :: st) s := Ze_n (i := (.aload_n 0)) (len := 1) (by decide +kernel) rfl
theorem x79_11 (h : obC r = 2) : Ze d 79 11 [l0, l1, l2, l3] (aR r :: st) s = Ze d 79 14 [l0, l1, l2, l3] (aR (fcn r 1) :: st) s := Ze_gf (len := 3) (idx := 22) (by decide +kernel) rfl h rfl
theorem x79_14 (h : obC r = 10) : Ze d 79 14 [l0, l1, l2, l3] (aR r :: st) s = Ze d 79 17 [l0, l1, l2, l3] (aR (fcn r 3) :: st) s := Ze_gf (len := 3) (idx := 83) (by decide +kernel) rfl h rfl
theorem x79_17 : Ze d 79 17 [l0, aI z, l2, l3] st s = Ze d 79 18 [l0, aI z, l2, l3] (aI z :: st) s := Ze_n (i := (.iload_n 1)) (len := 1) (by decide +kernel) rfl
theorem x79_18 (h0 : 0 ≤ i) (h1 : i < aN1 r) : Ze d 79 18 [l0, l1, l2, l3] (aI i :: aR r :: st) s = Ze d 79 19 [l0, l1, l2, l3] (aI (s r i.toNat) :: st) s := Ze_n (i := .iaload) (len := 1) (by decide +kernel) (if_pos ⟨h0, h1⟩)
theorem x79_19 : Ze d 79 19 [l0, l1, l2, l3] (aI z :: st) s = Ze d 79 20 [l0, l1, l2, aI z] st s := Ze_n (i := (.istore_n 3)) (len := 1) (by decide +kernel) rfl
theorem x79_20 : Ze d 79 20 [aR r, l1, l2, l3] st s = Ze d 79 21 [aR r, l1, l2, l3] (aR r :: st) s := Ze_n (i := (.aload_n 0)) (len := 1) (by decide +kernel) rfl
theorem x79_21 : Ze d 79 21 [l0, l1, aI z, l3] st s = Ze d 79 22 [l0, l1, aI z, l3] (aI z :: st) s := Ze_n (i := (.iload_n 2)) (len := 1) (by decide +kernel) rfl
theorem x79_22 : Ze d 79 22 [aR r, l1, l2, l3] st s = Ze d 79 23 [aR r, l1, l2, l3] (aR r :: st) s := Ze_n (i := (.aload_n 0)) (len := 1) (by decide +kernel) rfl
theorem x79_23 (h : obC r = 2) : Ze d 79 23 [l0, l1, l2, l3] (aR r :: st) s = Ze d 79 26 [l0, l1, l2, l3] (aR (fcn r 0) :: st) s := Ze_gf (len := 3) (idx := 18) (by decide +kernel) rfl h rfl
theorem x79_26 (h : obC r = 12) : Ze d 79 26 [l0, l1, l2, l3] (aR r :: st) s = Ze d 79 29 [l0, l1, l2, l3] (aR (fcn r 3) :: st) s := Ze_gf (len := 3) (idx := 99) (by decide +kernel) rfl h rfl
theorem x79_29 : Ze d 79 29 [l0, l1, l2, aI z] st s = Ze d 79 30 [l0, l1, l2, aI z] (aI z :: st) s := Ze_n (i := (.iload_n 3)) (len := 1) (by decide +kernel) rfl
theorem x79_30 (h0 : 0 ≤ i) (h1 : i < aN1 r) : Ze d 79 30 [l0, l1, l2, l3] (aI i :: aR r :: st) s = Ze d 79 31 [l0, l1, l2, l3] (aI (s r i.toNat) :: st) s := Ze_n (i := .iaload) (len := 1) (by decide +kernel) (if_pos ⟨h0, h1⟩)
theorem x79_31 (h : obC r = 2) (h6 : st.length ≤ 4) : Ze d 79 31 [l0, l1, l2, l3] (aI a2 :: aI a1 :: aR r :: st) s = zcI (Zc d 81 [aR r, aI a1, aI a2] s) d 79 34 [l0, l1, l2, l3] st := Ze_cvI (idx := 104) (len := 3) (as := [aI a1, aI a2]) (by decide +kernel) rfl (by decide +kernel) rfl h h6
theorem x79_34 : Ze d 79 34 [l0, l1, l2, l3] (aI a :: st) s = if a = 0 then Ze d 79 37 [l0, l1, l2, l3] st s else Ze d 79 39 [l0, l1, l2, l3] st s := Ze_b (i := (.ifCond .ne 5)) (len := 3) (by decide +kernel) rfl
theorem x79_37 : Ze d 79 37 [l0, l1, l2, l3] st s = Ze d 79 38 [l0, l1, l2, l3] (aI 0 :: st) s := Ze_n (i := (.iconst 0)) (len := 1) (by decide +kernel) rfl
theorem x79_38 (h : z = 0 ∨ z = 1) : Ze d 79 38 [l0, l1, l2, l3] [aI z] s = rI z s := Ze_i2 (by decide +kernel) rfl h
theorem x79_39 : Ze d 79 39 [aR r, l1, l2, l3] st s = Ze d 79 40 [aR r, l1, l2, l3] (aR r :: st) s := Ze_n (i := (.aload_n 0)) (len := 1) (by decide +kernel) rfl
theorem x79_40 (h : obC r = 2) : Ze d 79 40 [l0, l1, l2, l3] (aR r :: st) s = Ze d 79 43 [l0, l1, l2, l3] (aR (fcn r 3) :: st) s := Ze_gf (len := 3) (idx := 9) (by decide +kernel) rfl h rfl
theorem x79_43 : Ze d 79 43 [l0, l1, aI z, l3] st s = Ze d 79 44 [l0, l1, aI z, l3] (aI z :: st) s := Ze_n (i := (.iload_n 2)) (len := 1) (by decide +kernel) rfl
theorem x79_44 : Ze d 79 44 [aR r, l1, l2, l3] st s = Ze d 79 45 [aR r, l1, l2, l3] (aR r :: st) s := Ze_n (i := (.aload_n 0)) (len := 1) (by decide +kernel) rfl
theorem x79_45 (h : obC r = 2) (h2 : 0 ≤ s r 5) : Ze d 79 45 [l0, l1, l2, l3] (aR r :: st) s = Ze d 79 48 [l0, l1, l2, l3] (aR (s r 5).toNat :: st) s := Ze_gf (len := 3) (idx := 36) (by decide +kernel) rfl h (fldV_dyn rfl h2)
theorem x79_48 (h : obC r = 8) : Ze d 79 48 [l0, l1, l2, l3] (aR r :: st) s = Ze d 79 51 [l0, l1, l2, l3] (aI (s r 6) :: st) s := Ze_gf (len := 3) (idx := 42) (by decide +kernel) rfl h rfl
theorem x79_51 (h0 : 0 ≤ i) (h1 : i < aN1 r) : Ze d 79 51 [l0, l1, l2, l3] (aI z :: aI i :: aR r :: st) s = Ze d 79 52 [l0, l1, l2, l3] st (mu s r i.toNat z) := Ze_n (i := .iastore) (len := 1) (by decide +kernel) (if_pos ⟨h0, h1⟩)
theorem x79_52 : Ze d 79 52 [aR r, l1, l2, l3] st s = Ze d 79 53 [aR r, l1, l2, l3] (aR r :: st) s := Ze_n (i := (.aload_n 0)) (len := 1) (by decide +kernel) rfl
theorem x79_53 (h : obC r = 2) : Ze d 79 53 [l0, l1, l2, l3] (aR r :: st) s = Ze d 79 56 [l0, l1, l2, l3] (aR (fcn r 4) :: st) s := Ze_gf (len := 3) (idx := 15) (by decide +kernel) rfl h rfl
theorem x79_56 : Ze d 79 56 [l0, l1, aI z, l3] st s = Ze d 79 57 [l0, l1, aI z, l3] (aI z :: st) s := Ze_n (i := (.iload_n 2)) (len := 1) (by decide +kernel) rfl
theorem x79_57 : Ze d 79 57 [l0, l1, l2, aI z] st s = Ze d 79 58 [l0, l1, l2, aI z] (aI z :: st) s := Ze_n (i := (.iload_n 3)) (len := 1) (by decide +kernel) rfl
theorem x79_58 (h0 : 0 ≤ i) (h1 : i < aN1 r) : Ze d 79 58 [l0, l1, l2, l3] (aI z :: aI i :: aR r :: st) s = Ze d 79 59 [l0, l1, l2, l3] st (mu s r i.toNat z) := Ze_n (i := .iastore) (len := 1) (by decide +kernel) (if_pos ⟨h0, h1⟩)
theorem x79_59 : Ze d 79 59 [aR r, l1, l2, l3] st s = Ze d 79 60 [aR r, l1, l2, l3] (aR r :: st) s := Ze_n (i := (.aload_n 0)) (len := 1) (by decide +kernel) rfl
theorem x79_60 : Ze d 79 60 [aR r, l1, l2, l3] st s = Ze d 79 61 [aR r, l1, l2, l3] (aR r :: st) s := Ze_n (i := (.aload_n 0)) (len := 1) (by decide +kernel) rfl
theorem x79_61 (h : obC r = 2) : Ze d 79 61 [l0, l1, l2, l3] (aR r :: st) s = Ze d 79 64 [l0, l1, l2, l3] (aR (fcn r 1) :: st) s := Ze_gf (len := 3) (idx := 22) (by decide +kernel) rfl h rfl
theorem x79_64 (h : obC r = 10) : Ze d 79 64 [l0, l1, l2, l3] (aR r :: st) s = Ze d 79 67 [l0, l1, l2, l3] (aR (fcn r 0) :: st) s := Ze_gf (len := 3) (idx := 67) (by decide +kernel) rfl h rfl
theorem x79_67 : Ze d 79 67 [l0, aI z, l2, l3] st s = Ze d 79 68 [l0, aI z, l2, l3] (aI z :: st) s := Ze_n (i := (.iload_n 1)) (len := 1) (by decide +kernel) rfl
theorem x79_68 (h0 : 0 ≤ i) (h1 : i < aN1 r) : Ze d 79 68 [l0, l1, l2, l3] (aI i :: aR r :: st) s = Ze d 79 69 [l0, l1, l2, l3] (aI (s r i.toNat) :: st) s := Ze_n (i := .iaload) (len := 1) (by decide +kernel) (if_pos ⟨h0, h1⟩)
theorem x79_69 (h6 : st.length ≤ 4) : Ze d 79 69 [l0, l1, l2, l3] (aI a0 :: st) s = zcI (Zc d 82 [aI a0] s) d 79 72 [l0, l1, l2, l3] st := Ze_csI (idx := 107) (len := 3) (as := [aI a0]) (by decide +kernel) rfl rfl (by decide +kernel) rfl h6
theorem x79_72 : Ze d 79 72 [l0, l1, aI z, l3] st s = Ze d 79 73 [l0, l1, aI z, l3] (aI z :: st) s := Ze_n (i := (.iload_n 2)) (len := 1) (by decide +kernel) rfl
theorem x79_73 : Ze d 79 73 [l0, l1, l2, aI z] st s = Ze d 79 74 [l0, l1, l2, aI z] (aI z :: st) s := Ze_n (i := (.iload_n 3)) (len := 1) (by decide +kernel) rfl
theorem x79_74 : Ze d 79 74 [l0, l1, l2, l3] st s = Ze d 79 75 [l0, l1, l2, l3] (aI 0 :: st) s := Ze_n (i := (.iconst 0)) (len := 1) (by decide +kernel) rfl
theorem x79_75 : Ze d 79 75 [l0, l1, l2, l3] st s = Ze d 79 76 [l0, l1, l2, l3] (aI 1 :: st) s := Ze_n (i := (.iconst 1)) (len := 1) (by decide +kernel) rfl
theorem x79_76 (h : obC r = 2) (h6 : st.length ≤ 4) : Ze d 79 76 [l0, l1, l2, l3] (aI a5 :: aI a4 :: aI a3 :: aI a2 :: aI a1 :: aR r :: st) s = zcV (Zc d 83 [aR r, aI a1, aI a2, aI a3, aI a4, aI a5] s) d 79 79 [l0, l1, l2, l3] st := Ze_cvV (idx := 111) (len := 3) (as := [aI a1, aI a2, aI a3, aI a4, aI a5]) (by decide +kernel) rfl (by decide +kernel) rfl h h6
theorem x79_79 : Ze d 79 79 [l0, l1, l2, l3] st s = Ze d 79 80 [l0, l1, l2, l3] (aI 1 :: st) s := Ze_n (i := (.iconst 1)) (len := 1) (by decide +kernel) rfl
theorem x79_80 (h : z = 0 ∨ z = 1) : Ze d 79 80 [l0, l1, l2, l3] [aI z] s = rI z s := Ze_i2 (by decide +kernel) rfl h
theorem en79 : Zc (d + 1) 79 [aR r, aI a1] s = Ze d 79 0 [aR r, aI a1, aU, aU] [] s := rfl
theorem x80_0 : Ze d 80 0 [aR r, l1, l2] st s = Ze d 80 1 [aR r, l1, l2] (aR r :: st) s := Ze_n (i := (.aload_n 0)) (len := 1) (by decide +kernel) rfl
theorem x80_1 (h : obC r = 2) : Ze d 80 1 [l0, l1, l2] (aR r :: st) s = Ze d 80 4 [l0, l1, l2] (aR (fcn r 1) :: st) s := Ze_gf (len := 3) (idx := 22) (by decide +kernel) rfl h rfl
theorem x80_4 (h : obC r = 10) : Ze d 80 4 [l0, l1, l2] (aR r :: st) s = Ze d 80 7 [l0, l1, l2] (aR (fcn r 2) :: st) s := Ze_gf (len := 3) (idx := 80) (by decide +kernel) rfl h rfl
theorem x80_7 : Ze d 80 7 [l0, aI z, l2] st s = Ze d 80 8 [l0, aI z, l2] (aI z :: st) s := Ze_n (i := (.iload_n 1)) (len := 1) (by decide +kernel) rfl
theorem x80_8 (h0 : 0 ≤ i) (h1 : i < aN1 r) : Ze d 80 8 [l0, l1, l2] (aI i :: aR r :: st) s = Ze d 80 9 [l0, l1, l2] (aI (s r i.toNat) :: st) s := Ze_n (i := .iaload) (len := 1) (by decide +kernel) (if_pos ⟨h0, h1⟩)
theorem x80_9 : Ze d 80 9 [l0, l1, l2] (aI z :: st) s = Ze d 80 10 [l0, l1, aI z] st s := Ze_n (i := (.istore_n 2)) (len := 1) (by decide +kernel) rfl
theorem x80_10 : Ze d 80 10 [aR r, l1, l2] st s = Ze d 80 11 [aR r, l1, l2] (aR r :: st) s := Ze_n (i := (.aload_n 0)) (len := 1) (by decide +kernel) rfl
theorem x80_11 : Ze d 80 11 [l0, l1, aI z] st s = Ze d 80 12 [l0, l1, aI z] (aI z :: st) s := Ze_n (i := (.iload_n 2)) (len := 1) (by decide +kernel) rfl
theorem x80_12 : Ze d 80 12 [l0, l1, l2] st s = Ze d 80 13 [l0, l1, l2] (aI 1 :: st) s := Ze_n (i := (.iconst 1)) (len := 1) (by decide +kernel) rfl
theorem x80_13 (h : obC r = 2) (h6 : st.length ≤ 4) : Ze d 80 13 [l0, l1, l2] (aI a2 :: aI a1 :: aR r :: st) s = zcI (Zc d 81 [aR r, aI a1, aI a2] s) d 80 16 [l0, l1, l2] st := Ze_cvI (idx := 104) (len := 3) (as := [aI a1, aI a2]) (by decide +kernel) rfl (by decide +kernel) rfl h h6
theorem x80_16 : Ze d 80 16 [l0, l1, l2] (aI a :: st) s = if a = 0 then Ze d 80 35 [l0, l1, l2] st s else Ze d 80 19 [l0, l1, l2] st s := Ze_b (i := (.ifCond .eq 19)) (len := 3) (by decide +kernel) rfl
theorem x80_19 : Ze d 80 19 [aR r, l1, l2] st s = Ze d 80 20 [aR r, l1, l2] (aR r :: st) s := Ze_n (i := (.aload_n 0)) (len := 1) (by decide +kernel) rfl
theorem x80_20 : Ze d 80 20 [aR r, l1, l2] st s = Ze d 80 21 [aR r, l1, l2] (aR r :: st) s := Ze_n (i := (.aload_n 0)) (len := 1) (by decide +kernel) rfl
theorem x80_21 (h : obC r = 2) : Ze d 80 21 [l0, l1, l2] (aR r :: st) s = Ze d 80 24 [l0, l1, l2] (aR (fcn r 1) :: st) s := Ze_gf (len := 3) (idx := 22) (by decide +kernel) rfl h rfl
theorem x80_24 (h : obC r = 10) : Ze d 80 24 [l0, l1, l2] (aR r :: st) s = Ze d 80 27 [l0, l1, l2] (aR (fcn r 3) :: st) s := Ze_gf (len := 3) (idx := 83) (by decide +kernel) rfl h rfl
theorem x80_27 : Ze d 80 27 [l0, aI z, l2] st s = Ze d 80 28 [l0, aI z, l2] (aI z :: st) s := Ze_n (i := (.iload_n 1)) (len := 1) (by decide +kernel) rfl
theorem x80_28 (h0 : 0 ≤ i) (h1 : i < aN1 r) : Ze d 80 28 [l0, l1, l2] (aI i :: aR r :: st) s = Ze d 80 29 [l0, l1, l2] (aI (s r i.toNat) :: st) s := Ze_n (i := .iaload) (len := 1) (by decide +kernel) (if_pos ⟨h0, h1⟩)
theorem x80_29 (h : obC r = 2) (h6 : st.length ≤ 4) : Ze d 80 29 [l0, l1, l2] (aI a1 :: aR r :: st) s = zcI (Zc d 85 [aR r, aI a1] s) d 80 32 [l0, l1, l2] st := Ze_cvI (idx := 90) (len := 3) (as := [aI a1]) (by decide +kernel) rfl (by decide +kernel) rfl h h6
theorem x80_32 : Ze d 80 32 [l0, l1, l2] (aI a :: st) s = if a = 0 then Ze d 80 35 [l0, l1, l2] st s else Ze d 80 37 [l0, l1, l2] st s := Ze_b (i := (.ifCond .ne 5)) (len := 3) (by decide +kernel) rfl
theorem x80_35 : Ze d 80 35 [l0, l1, l2] st s = Ze d 80 36 [l0, l1, l2] (aI 0 :: st) s := Ze_n (i := (.iconst 0)) (len := 1) (by decide +kernel) rfl
theorem x80_36 (h : z = 0 ∨ z = 1) : Ze d 80 36 [l0, l1, l2] [aI z] s = rI z s := Ze_i2 (by decide +kernel) rfl h
theorem x80_37 : Ze d 80 37 [aR r, l1, l2] st s = Ze d 80 38 [aR r, l1, l2] (aR r :: st) s := Ze_n (i := (.aload_n 0)) (len := 1) (by decide +kernel) rfl
theorem x80_38 (h : obC r = 2) : Ze d 80 38 [l0, l1, l2] (aR r :: st) s = Ze d 80 41 [l0, l1, l2] (aR (fcn r 3) :: st) s := Ze_gf (len := 3) (idx := 9) (by decide +kernel) rfl h rfl
theorem x80_41 : Ze d 80 41 [l0, l1, aI z] st s = Ze d 80 42 [l0, l1, aI z] (aI z :: st) s := Ze_n (i := (.iload_n 2)) (len := 1) (by decide +kernel) rfl
theorem x80_42 : Ze d 80 42 [aR r, l1, l2] st s = Ze d 80 43 [aR r, l1, l2] (aR r :: st) s := Ze_n (i := (.aload_n 0)) (len := 1) (by decide +kernel) rfl
theorem x80_43 (h : obC r = 2) (h2 : 0 ≤ s r 5) : Ze d 80 43 [l0, l1, l2] (aR r :: st) s = Ze d 80 46 [l0, l1, l2] (aR (s r 5).toNat :: st) s := Ze_gf (len := 3) (idx := 36) (by decide +kernel) rfl h (fldV_dyn rfl h2)
theorem x80_46 (h : obC r = 8) : Ze d 80 46 [l0, l1, l2] (aR r :: st) s = Ze d 80 49 [l0, l1, l2] (aI (s r 6) :: st) s := Ze_gf (len := 3) (idx := 42) (by decide +kernel) rfl h rfl
theorem x80_49 (h0 : 0 ≤ i) (h1 : i < aN1 r) : Ze d 80 49 [l0, l1, l2] (aI z :: aI i :: aR r :: st) s = Ze d 80 50 [l0, l1, l2] st (mu s r i.toNat z) := Ze_n (i := .iastore) (len := 1) (by decide +kernel) (if_pos ⟨h0, h1⟩)
theorem x80_50 : Ze d 80 50 [aR r, l1, l2] st s = Ze d 80 51 [aR r, l1, l2] (aR r :: st) s := Ze_n (i := (.aload_n 0)) (len := 1) (by decide +kernel) rfl
theorem x80_51 (h : obC r = 2) : Ze d 80 51 [l0, l1, l2] (aR r :: st) s = Ze d 80 54 [l0, l1, l2] (aR (fcn r 4) :: st) s := Ze_gf (len := 3) (idx := 15) (by decide +kernel) rfl h rfl
theorem x80_54 : Ze d 80 54 [l0, l1, aI z] st s = Ze d 80 55 [l0, l1, aI z] (aI z :: st) s := Ze_n (i := (.iload_n 2)) (len := 1) (by decide +kernel) rfl
theorem x80_55 : Ze d 80 55 [l0, l1, l2] st s = Ze d 80 56 [l0, l1, l2] (aI 0 :: st) s := Ze_n (i := (.iconst 0)) (len := 1) (by decide +kernel) rfl
theorem x80_56 (h0 : 0 ≤ i) (h1 : i < aN1 r) : Ze d 80 56 [l0, l1, l2] (aI z :: aI i :: aR r :: st) s = Ze d 80 57 [l0, l1, l2] st (mu s r i.toNat z) := Ze_n (i := .iastore) (len := 1) (by decide +kernel) (if_pos ⟨h0, h1⟩)
theorem x80_57 : Ze d 80 57 [aR r, l1, l2] st s = Ze d 80 58 [aR r, l1, l2] (aR r :: st) s := Ze_n (i := (.aload_n 0)) (len := 1) (by decide +kernel) rfl
theorem x80_58 (h : obC r = 2) : Ze d 80 58 [l0, l1, l2] (aR r :: st) s = Ze d 80 61 [l0, l1, l2] (aR (fcn r 1) :: st) s := Ze_gf (len := 3) (idx := 22) (by decide +kernel) rfl h rfl
theorem x80_61 (h : obC r = 10) : Ze d 80 61 [l0, l1, l2] (aR r :: st) s = Ze d 80 64 [l0, l1, l2] (aR (fcn r 2) :: st) s := Ze_gf (len := 3) (idx := 80) (by decide +kernel) rfl h rfl
theorem x80_64 : Ze d 80 64 [l0, aI z, l2] st s = Ze d 80 65 [l0, aI z, l2] (aI z :: st) s := Ze_n (i := (.iload_n 1)) (len := 1) (by decide +kernel) rfl
theorem x80_65 : Ze d 80 65 [aR r, l1, l2] st s = Ze d 80 66 [aR r, l1, l2] (aR r :: st) s := Ze_n (i := (.aload_n 0)) (len := 1) (by decide +kernel) rfl
theorem x80_66 (h : obC r = 2) (h2 : 0 ≤ s r 5) : Ze d 80 66 [l0, l1, l2] (aR r :: st) s = Ze d 80 69 [l0, l1, l2] (aR (s r 5).toNat :: st) s := Ze_gf (len := 3) (idx := 36) (by decide +kernel) rfl h (fldV_dyn rfl h2)
theorem x80_69 (h : obC r = 8) : Ze d 80 69 [l0, l1, l2] (aR r :: st) s = Ze d 80 72 [l0, l1, l2] (aI (s r 6) :: st) s := Ze_gf (len := 3) (idx := 42) (by decide +kernel) rfl h rfl
theorem x80_72 (h0 : 0 ≤ i) (h1 : i < aN1 r) : Ze d 80 72 [l0, l1, l2] (aI z :: aI i :: aR r :: st) s = Ze d 80 73 [l0, l1, l2] st (mu s r i.toNat z) := Ze_n (i := .iastore) (len := 1) (by decide +kernel) (if_pos ⟨h0, h1⟩)
theorem x80_73 : Ze d 80 73 [aR r, l1, l2] st s = Ze d 80 74 [aR r, l1, l2] (aR r :: st) s := Ze_n (i := (.aload_n 0)) (len := 1) (by decide +kernel) rfl
theorem x80_74 (h : obC r = 2) (h2 : 0 ≤ s r 5) : Ze d 80 74 [l0, l1, l2] (aR r :: st) s = Ze d 80 77 [l0, l1, l2] (aR (s r 5).toNat :: st) s := Ze_gf (len := 3) (idx := 36) (by decide +kernel) rfl h (fldV_dyn rfl h2)
theorem x80_77 : Ze d 80 77 [l0, l1, l2] st s = Ze d 80 78 [l0, l1, l2] (aI 4 :: st) s := Ze_n (i := (.iconst 4)) (len := 1) (by decide +kernel) rfl
theorem x80_78 : Ze d 80 78 [l0, l1, aI z] st s = Ze d 80 79 [l0, l1, aI z] (aI z :: st) s := Ze_n (i := (.iload_n 2)) (len := 1) (by decide +kernel) rfl
theorem x80_79 : Ze d 80 79 [l0, l1, l2] st s = Ze d 80 80 [l0, l1, l2] (aI 0 :: st) s := Ze_n (i := (.iconst 0)) (len := 1) (by decide +kernel) rfl
theorem x80_80 : Ze d 80 80 [l0, l1, l2] st s = Ze d 80 81 [l0, l1, l2] (aI 0 :: st) s := Ze_n (i := (.iconst 0)) (len := 1) (by decide +kernel) rfl
theorem x80_81 (h : obC r = 8) (h6 : st.length ≤ 4) : Ze d 80 81 [l0, l1, l2] (aI a4 :: aI a3 :: aI a2 :: aI a1 :: aR r :: st) s = zcV (Zc d 143 [aR r, aI a1, aI a2, aI a3, aI a4] s) d 80 84 [l0, l1, l2] st := Ze_cvV (idx := 115) (len := 3) (as := [aI a1, aI a2, aI a3, aI a4]) (by decide +kernel) rfl (by decide +kernel) rfl h h6
theorem x80_84 : Ze d 80 84 [l0, l1, l2] st s = Ze d 80 85 [l0, l1, l2] (aI 1 :: st) s := Ze_n (i := (.iconst 1)) (len := 1) (by decide +kernel) rfl
theorem x80_85 (h : z = 0 ∨ z = 1) : Ze d 80 85 [l0, l1, l2] [aI z] s = rI z s := Ze_i2 (by decide +kernel) rfl h
theorem en80 : Zc (d + 1) 80 [aR r, aI a1] s = Ze d 80 0 [aR r, aI a1, aU] [] s := rfl
theorem x82_0 : Ze d 82 0 [aI z] st s = Ze d 82 1 [aI z] (aI z :: st) s := Ze_n (i := (.iload_n 0)) (len := 1) (by decide +kernel) rfl
theorem x82_1 : Ze d 82 1 [l0] (aI a :: st) s = if a = 73 then Ze d 82 36 [l0] st s else if a = 79 then Ze d 82 38 [l0] st s else if a = 87 then Ze d 82 40 [l0] st s else Ze d 82 42 [l0] st s :=
  Ze_lk (dflt := 41) (ps := #[(73, 35), (79, 37), (87, 39)]) (len := 35) (ks := [(73, 36), (79, 38), (87, 40)]) (df := 42) (by decide +kernel) (by decide +kernel) (by decide +kernel)
theorem x82_36 : Ze d 82 36 [l0] st s = Ze d 82 37 [l0] (aI 0 :: st) s := Ze_n (i := (.iconst 0)) (len := 1) (by decide +kernel) rfl
theorem x82_37 : Ze d 82 37 [l0] [aI z] s = rI z s := Ze_i1 (by decide +kernel) rfl
theorem x82_38 : Ze d 82 38 [l0] st s = Ze d 82 39 [l0] (aI 1 :: st) s := Ze_n (i := (.iconst 1)) (len := 1) (by decide +kernel) rfl
theorem x82_39 : Ze d 82 39 [l0] [aI z] s = rI z s := Ze_i1 (by decide +kernel) rfl
theorem x82_40 : Ze d 82 40 [l0] st s = Ze d 82 41 [l0] (aI 2 :: st) s := Ze_n (i := (.iconst 2)) (len := 1) (by decide +kernel) rfl
theorem x82_41 : Ze d 82 41 [l0] [aI z] s = rI z s := Ze_i1 (by decide +kernel) rfl
theorem x82_42 : Ze d 82 42 [l0] st s = Ze d 82 43 [l0] (aI 3 :: st) s := Ze_n (i := (.iconst 3)) (len := 1) (by decide +kernel) rfl
theorem x82_43 : Ze d 82 43 [l0] [aI z] s = rI z s := Ze_i1 (by decide +kernel) rfl
theorem en82 : Zc (d + 1) 82 [aI a0] s = Ze d 82 0 [aI a0] [] s := rfl
theorem x143_0 : Ze d 143 0 [aR r, l1, l2, l3, l4] st s = Ze d 143 1 [aR r, l1, l2, l3, l4] (aR r :: st) s := Ze_n (i := (.aload_n 0)) (len := 1) (by decide +kernel) rfl
theorem x143_1 (h : obC r = 8) : Ze d 143 1 [l0, l1, l2, l3, l4] (aR r :: st) s = Ze d 143 4 [l0, l1, l2, l3, l4] (aR (fcn r 0) :: st) s := Ze_gf (len := 3) (idx := 9) (by decide +kernel) rfl h rfl
theorem x143_4 : Ze d 143 4 [aR r, l1, l2, l3, l4] st s = Ze d 143 5 [aR r, l1, l2, l3, l4] (aR r :: st) s := Ze_n (i := (.aload_n 0)) (len := 1) (by decide +kernel) rfl
theorem x143_5 (h : obC r = 8) : Ze d 143 5 [l0, l1, l2, l3, l4] (aR r :: st) s = Ze d 143 8 [l0, l1, l2, l3, l4] (aI (s r 6) :: st) s := Ze_gf (len := 3) (idx := 31) (by decide +kernel) rfl h rfl
theorem x143_8 : Ze d 143 8 [l0, aI z, l2, l3, l4] st s = Ze d 143 9 [l0, aI z, l2, l3, l4] (aI z :: st) s := Ze_n (i := (.iload_n 1)) (len := 1) (by decide +kernel) rfl
theorem x143_9 (h0 : 0 ≤ i) (h1 : i < aN1 r) : Ze d 143 9 [l0, l1, l2, l3, l4] (aI z :: aI i :: aR r :: st) s = Ze d 143 10 [l0, l1, l2, l3, l4] st (mu s r i.toNat z) := Ze_n (i := .iastore) (len := 1) (by decide +kernel) (if_pos ⟨h0, h1⟩)
theorem x143_10 : Ze d 143 10 [aR r, l1, l2, l3, l4] st s = Ze d 143 11 [aR r, l1, l2, l3, l4] (aR r :: st) s := Ze_n (i := (.aload_n 0)) (len := 1) (by decide +kernel) rfl
theorem x143_11 (h : obC r = 8) : Ze d 143 11 [l0, l1, l2, l3, l4] (aR r :: st) s = Ze d 143 14 [l0, l1, l2, l3, l4] (aR (fcn r 1) :: st) s := Ze_gf (len := 3) (idx := 15) (by decide +kernel) rfl h rfl
theorem x143_14 : Ze d 143 14 [aR r, l1, l2, l3, l4] st s = Ze d 143 15 [aR r, l1, l2, l3, l4] (aR r :: st) s := Ze_n (i := (.aload_n 0)) (len := 1) (by decide +kernel) rfl
theorem x143_15 (h : obC r = 8) : Ze d 143 15 [l0, l1, l2, l3, l4] (aR r :: st) s = Ze d 143 18 [l0, l1, l2, l3, l4] (aI (s r 6) :: st) s := Ze_gf (len := 3) (idx := 31) (by decide +kernel) rfl h rfl
theorem x143_18 : Ze d 143 18 [l0, l1, aI z, l3, l4] st s = Ze d 143 19 [l0, l1, aI z, l3, l4] (aI z :: st) s := Ze_n (i := (.iload_n 2)) (len := 1) (by decide +kernel) rfl
theorem x143_19 (h0 : 0 ≤ i) (h1 : i < aN1 r) : Ze d 143 19 [l0, l1, l2, l3, l4] (aI z :: aI i :: aR r :: st) s = Ze d 143 20 [l0, l1, l2, l3, l4] st (mu s r i.toNat z) := Ze_n (i := .iastore) (len := 1) (by decide +kernel) (if_pos ⟨h0, h1⟩)
theorem x143_20 : Ze d 143 20 [aR r, l1, l2, l3, l4] st s = Ze d 143 21 [aR r, l1, l2, l3, l4] (aR r :: st) s := Ze_n (i := (.aload_n 0)) (len := 1) (by decide +kernel) rfl
theorem x143_21 (h : obC r = 8) : Ze d 143 21 [l0, l1, l2, l3, l4] (aR r :: st) s = Ze d 143 24 [l0, l1, l2, l3, l4] (aR (fcn r 2) :: st) s := Ze_gf (len := 3) (idx := 18) (by decide +kernel) rfl h rfl
theorem x143_24 : Ze d 143 24 [aR r, l1, l2, l3, l4] st s = Ze d 143 25 [aR r, l1, l2, l3, l4] (aR r :: st) s := Ze_n (i := (.aload_n 0)) (len := 1) (by decide +kernel) rfl
theorem x143_25 (h : obC r = 8) : Ze d 143 25 [l0, l1, l2, l3, l4] (aR r :: st) s = Ze d 143 28 [l0, l1, l2, l3, l4] (aI (s r 6) :: st) s := Ze_gf (len := 3) (idx := 31) (by decide +kernel) rfl h rfl
theorem x143_28 : Ze d 143 28 [l0, l1, l2, aI z, l4] st s = Ze d 143 29 [l0, l1, l2, aI z, l4] (aI z :: st) s := Ze_n (i := (.iload_n 3)) (len := 1) (by decide +kernel) rfl
theorem x143_29 (h0 : 0 ≤ i) (h1 : i < aN1 r) : Ze d 143 29 [l0, l1, l2, l3, l4] (aI z :: aI i :: aR r :: st) s = Ze d 143 30 [l0, l1, l2, l3, l4] st (mu s r i.toNat z) := Ze_n (i := .iastore) (len := 1) (by decide +kernel) (if_pos ⟨h0, h1⟩)
theorem x143_30 : Ze d 143 30 [aR r, l1, l2, l3, l4] st s = Ze d 143 31 [aR r, l1, l2, l3, l4] (aR r :: st) s := Ze_n (i := (.aload_n 0)) (len := 1) (by decide +kernel) rfl
theorem x143_31 (h : obC r = 8) : Ze d 143 31 [l0, l1, l2, l3, l4] (aR r :: st) s = Ze d 143 34 [l0, l1, l2, l3, l4] (aR (fcn r 3) :: st) s := Ze_gf (len := 3) (idx := 21) (by decide +kernel) rfl h rfl
theorem x143_34 : Ze d 143 34 [aR r, l1, l2, l3, l4] st s = Ze d 143 35 [aR r, l1, l2, l3, l4] (aR r :: st) s := Ze_n (i := (.aload_n 0)) (len := 1) (by decide +kernel) rfl
theorem x143_35 (h : obC r = 8) : Ze d 143 35 [l0, l1, l2, l3, l4] (aR r :: st) s = Ze d 143 38 [l0, l1, l2, l3, l4] (aI (s r 6) :: st) s := Ze_gf (len := 3) (idx := 31) (by decide +kernel) rfl h rfl
theorem x143_38 : Ze d 143 38 [l0, l1, l2, l3, aI z] st s = Ze d 143 40 [l0, l1, l2, l3, aI z] (aI z :: st) s := Ze_n (i := (.iload 4)) (len := 2) (by decide +kernel) rfl
theorem x143_40 (h0 : 0 ≤ i) (h1 : i < aN2 r) (h2 : z = 0 ∨ z = 1) : Ze d 143 40 [l0, l1, l2, l3, l4] (aI z :: aI i :: aR r :: st) s = Ze d 143 41 [l0, l1, l2, l3, l4] st (mu s r i.toNat z) := Ze_n (i := .bastore) (len := 1) (by decide +kernel) (if_pos ⟨h0, h1, h2⟩)
theorem x143_41 : Ze d 143 41 [aR r, l1, l2, l3, l4] st s = Ze d 143 42 [aR r, l1, l2, l3, l4] (aR r :: st) s := Ze_n (i := (.aload_n 0)) (len := 1) (by decide +kernel) rfl
theorem x143_42 (h : obC r = 8) : Ze d 143 42 [l0, l1, l2, l3, l4] (aR r :: st) s = Ze d 143 45 [l0, l1, l2, l3, l4] (aR (fcn r 4) :: st) s := Ze_gf (len := 3) (idx := 25) (by decide +kernel) rfl h rfl
theorem x143_45 : Ze d 143 45 [aR r, l1, l2, l3, l4] st s = Ze d 143 46 [aR r, l1, l2, l3, l4] (aR r :: st) s := Ze_n (i := (.aload_n 0)) (len := 1) (by decide +kernel) rfl
theorem x143_46 (h : obC r = 8) : Ze d 143 46 [l0, l1, l2, l3, l4] (aR r :: st) s = Ze d 143 49 [l0, l1, l2, l3, l4] (aI (s r 6) :: st) s := Ze_gf (len := 3) (idx := 31) (by decide +kernel) rfl h rfl
theorem x143_49 : Ze d 143 49 [l0, aI z, l2, l3, l4] st s = Ze d 143 50 [l0, aI z, l2, l3, l4] (aI z :: st) s := Ze_n (i := (.iload_n 1)) (len := 1) (by decide +kernel) rfl
theorem x143_50 : Ze d 143 50 [l0, l1, l2, l3, aI z] st s = Ze d 143 52 [l0, l1, l2, l3, aI z] (aI z :: st) s := Ze_n (i := (.iload 4)) (len := 2) (by decide +kernel) rfl
theorem x143_52 (h6 : st.length ≤ 4) : Ze d 143 52 [l0, l1, l2, l3, l4] (aI a1 :: aI a0 :: st) s = zcI (Zc d 144 [aI a0, aI a1] s) d 143 55 [l0, l1, l2, l3, l4] st := Ze_csI (idx := 35) (len := 3) (as := [aI a0, aI a1]) (by decide +kernel) rfl rfl (by decide +kernel) rfl h6
theorem x143_55 (h0 : 0 ≤ i) (h1 : i < aN2 r) (h2 : z = 0 ∨ z = 1) : Ze d 143 55 [l0, l1, l2, l3, l4] (aI z :: aI i :: aR r :: st) s = Ze d 143 56 [l0, l1, l2, l3, l4] st (mu s r i.toNat z) := Ze_n (i := .bastore) (len := 1) (by decide +kernel) (if_pos ⟨h0, h1, h2⟩)
theorem x143_56 : Ze d 143 56 [aR r, l1, l2, l3, l4] st s = Ze d 143 57 [aR r, l1, l2, l3, l4] (aR r :: st) s := Ze_n (i := (.aload_n 0)) (len := 1) (by decide +kernel) rfl
theorem x143_57 (h : obC r = 8) : Ze d 143 57 [l0, l1, l2, l3, l4] (aR r :: st) s = Ze d 143 60 [l0, l1, l2, l3, l4] (aR (fcn r 5) :: st) s := Ze_gf (len := 3) (idx := 28) (by decide +kernel) rfl h rfl
theorem x143_60 : Ze d 143 60 [aR r, l1, l2, l3, l4] st s = Ze d 143 61 [aR r, l1, l2, l3, l4] (aR r :: st) s := Ze_n (i := (.aload_n 0)) (len := 1) (by decide +kernel) rfl
theorem x143_61 (h : obC r = 8) : Ze d 143 61 [l0, l1, l2, l3, l4] (aR r :: st) s = Ze d 143 64 [l0, l1, l2, l3, l4] (aI (s r 6) :: st) s := Ze_gf (len := 3) (idx := 31) (by decide +kernel) rfl h rfl
theorem x143_64 : Ze d 143 64 [l0, l1, l2, aI z, l4] st s = Ze d 143 65 [l0, l1, l2, aI z, l4] (aI z :: st) s := Ze_n (i := (.iload_n 3)) (len := 1) (by decide +kernel) rfl
theorem x143_65 : Ze d 143 65 [l0, l1, l2, l3, l4] (aI a :: st) s = if a = 0 then Ze d 143 68 [l0, l1, l2, l3, l4] st s else Ze d 143 77 [l0, l1, l2, l3, l4] st s := Ze_b (i := (.ifCond .ne 12)) (len := 3) (by decide +kernel) rfl
theorem x143_68 : Ze d 143 68 [l0, aI z, l2, l3, l4] st s = Ze d 143 69 [l0, aI z, l2, l3, l4] (aI z :: st) s := Ze_n (i := (.iload_n 1)) (len := 1) (by decide +kernel) rfl
theorem x143_69 : Ze d 143 69 [l0, l1, l2, l3, l4] st s = Ze d 143 70 [l0, l1, l2, l3, l4] (aI 4 :: st) s := Ze_n (i := (.iconst 4)) (len := 1) (by decide +kernel) rfl
theorem x143_70 : Ze d 143 70 [l0, l1, l2, l3, l4] (aI b :: aI a :: st) s = if a = b then Ze d 143 77 [l0, l1, l2, l3, l4] st s else Ze d 143 73 [l0, l1, l2, l3, l4] st s := Ze_b (i := (.if_icmp .eq 7)) (len := 3) (by decide +kernel) rfl
theorem x143_73 : Ze d 143 73 [l0, l1, l2, l3, l4] st s = Ze d 143 74 [l0, l1, l2, l3, l4] (aI 1 :: st) s := Ze_n (i := (.iconst 1)) (len := 1) (by decide +kernel) rfl
theorem x143_74 : Ze d 143 74 [l0, l1, l2, l3, l4] st s = Ze d 143 78 [l0, l1, l2, l3, l4] st s := Ze_n (i := (.goto 4)) (len := 3) (by decide +kernel) rfl
theorem x143_77 : Ze d 143 77 [l0, l1, l2, l3, l4] st s = Ze d 143 78 [l0, l1, l2, l3, l4] (aI 0 :: st) s := Ze_n (i := (.iconst 0)) (len := 1) (by decide +kernel) rfl
theorem x143_78 (h0 : 0 ≤ i) (h1 : i < aN2 r) (h2 : z = 0 ∨ z = 1) : Ze d 143 78 [l0, l1, l2, l3, l4] (aI z :: aI i :: aR r :: st) s = Ze d 143 79 [l0, l1, l2, l3, l4] st (mu s r i.toNat z) := Ze_n (i := .bastore) (len := 1) (by decide +kernel) (if_pos ⟨h0, h1, h2⟩)
theorem x143_79 : Ze d 143 79 [aR r, l1, l2, l3, l4] st s = Ze d 143 80 [aR r, l1, l2, l3, l4] (aR r :: st) s := Ze_n (i := (.aload_n 0)) (len := 1) (by decide +kernel) rfl
theorem x143_80 : Ze d 143 80 [l0, l1, l2, l3, l4] (aR r :: st) s = Ze d 143 81 [l0, l1, l2, l3, l4] (aR r :: aR r :: st) s := Ze_n (i := .dup) (len := 1) (by decide +kernel) rfl
theorem x143_80i : Ze d 143 80 [l0, l1, l2, l3, l4] (aI a :: st) s = Ze d 143 81 [l0, l1, l2, l3, l4] (aI a :: aI a :: st) s := Ze_n (i := .dup) (len := 1) (by decide +kernel) rfl
theorem x143_81 (h : obC r = 8) : Ze d 143 81 [l0, l1, l2, l3, l4] (aR r :: st) s = Ze d 143 84 [l0, l1, l2, l3, l4] (aI (s r 6) :: st) s := Ze_gf (len := 3) (idx := 31) (by decide +kernel) rfl h rfl
theorem x143_84 : Ze d 143 84 [l0, l1, l2, l3, l4] st s = Ze d 143 85 [l0, l1, l2, l3, l4] (aI 1 :: st) s := Ze_n (i := (.iconst 1)) (len := 1) (by decide +kernel) rfl
theorem x143_85 : Ze d 143 85 [l0, l1, l2, l3, l4] (aI b :: aI a :: st) s = Ze d 143 86 [l0, l1, l2, l3, l4] (aI (wrap (a + b)) :: st) s := Ze_n (i := .iadd) (len := 1) (by decide +kernel) rfl
theorem x143_86 (h : obC r = 8) : Ze d 143 86 [l0, l1, l2, l3, l4] (aI z :: aR r :: st) s = Ze d 143 89 [l0, l1, l2, l3, l4] st (mu s r 6 z) := Ze_n (i := .putfield 31) (len := 3) (by decide +kernel) (if_pos h)
theorem x143_89 : Ze d 143 89 [l0, l1, l2, l3, l4] [] s = rV s := Ze_v (by decide +kernel) rfl
theorem en143 : Zc (d + 1) 143 [aR r, aI a1, aI a2, aI a3, aI a4] s = Ze d 143 0 [aR r, aI a1, aI a2, aI a3, aI a4] [] s := rfl
theorem x144_0 : Ze d 144 0 [aI z, l1] st s = Ze d 144 1 [aI z, l1] (aI z :: st) s := Ze_n (i := (.iload_n 0)) (len := 1) (by decide +kernel) rfl
theorem x144_1 : Ze d 144 1 [l0, l1] (aI a :: st) s = if a = 0 then Ze d 144 4 [l0, l1] st s else Ze d 144 6 [l0, l1] st s := Ze_b (i := (.ifCond .ne 5)) (len := 3) (by decide +kernel) rfl
theorem x144_4 : Ze d 144 4 [l0, aI z] st s = Ze d 144 5 [l0, aI z] (aI z :: st) s := Ze_n (i := (.iload_n 1)) (len := 1) (by decide +kernel) rfl
theorem x144_5 (h : z = 0 ∨ z = 1) : Ze d 144 5 [l0, l1] [aI z] s = rI z s := Ze_i2 (by decide +kernel) rfl h
theorem x144_6 : Ze d 144 6 [aI z, l1] st s = Ze d 144 7 [aI z, l1] (aI z :: st) s := Ze_n (i := (.iload_n 0)) (len := 1) (by decide +kernel) rfl
theorem x144_7 : Ze d 144 7 [l0, l1] st s = Ze d 144 8 [l0, l1] (aI 1 :: st) s := Ze_n (i := (.iconst 1)) (len := 1) (by decide +kernel) rfl
theorem x144_8 : Ze d 144 8 [l0, l1] (aI b :: aI a :: st) s = if a = b then Ze d 144 11 [l0, l1] st s else Ze d 144 21 [l0, l1] st s := Ze_b (i := (.if_icmp .ne 13)) (len := 3) (by decide +kernel) rfl
theorem x144_11 : Ze d 144 11 [l0, aI z] st s = Ze d 144 12 [l0, aI z] (aI z :: st) s := Ze_n (i := (.iload_n 1)) (len := 1) (by decide +kernel) rfl
theorem x144_12 : Ze d 144 12 [l0, l1] (aI a :: st) s = if a = 0 then Ze d 144 15 [l0, l1] st s else Ze d 144 19 [l0, l1] st s := Ze_b (i := (.ifCond .ne 7)) (len := 3) (by decide +kernel) rfl
theorem x144_15 : Ze d 144 15 [l0, l1] st s = Ze d 144 16 [l0, l1] (aI 1 :: st) s := Ze_n (i := (.iconst 1)) (len := 1) (by decide +kernel) rfl
theorem x144_16 : Ze d 144 16 [l0, l1] st s = Ze d 144 20 [l0, l1] st s := Ze_n (i := (.goto 4)) (len := 3) (by decide +kernel) rfl
theorem x144_19 : Ze d 144 19 [l0, l1] st s = Ze d 144 20 [l0, l1] (aI 0 :: st) s := Ze_n (i := (.iconst 0)) (len := 1) (by decide +kernel) rfl
theorem x144_20 (h : z = 0 ∨ z = 1) : Ze d 144 20 [l0, l1] [aI z] s = rI z s := Ze_i2 (by decide +kernel) rfl h
theorem x144_21 : Ze d 144 21 [aI z, l1] st s = Ze d 144 22 [aI z, l1] (aI z :: st) s := Ze_n (i := (.iload_n 0)) (len := 1) (by decide +kernel) rfl
theorem x144_22 : Ze d 144 22 [l0, l1] st s = Ze d 144 23 [l0, l1] (aI 2 :: st) s := Ze_n (i := (.iconst 2)) (len := 1) (by decide +kernel) rfl
theorem x144_23 : Ze d 144 23 [l0, l1] (aI b :: aI a :: st) s = if a = b then Ze d 144 31 [l0, l1] st s else Ze d 144 26 [l0, l1] st s := Ze_b (i := (.if_icmp .eq 8)) (len := 3) (by decide +kernel) rfl
theorem x144_26 : Ze d 144 26 [aI z, l1] st s = Ze d 144 27 [aI z, l1] (aI z :: st) s := Ze_n (i := (.iload_n 0)) (len := 1) (by decide +kernel) rfl
theorem x144_27 : Ze d 144 27 [l0, l1] st s = Ze d 144 28 [l0, l1] (aI 3 :: st) s := Ze_n (i := (.iconst 3)) (len := 1) (by decide +kernel) rfl
theorem x144_28 : Ze d 144 28 [l0, l1] (aI b :: aI a :: st) s = if a = b then Ze d 144 31 [l0, l1] st s else Ze d 144 35 [l0, l1] st s := Ze_b (i := (.if_icmp .ne 7)) (len := 3) (by decide +kernel) rfl
theorem x144_31 : Ze d 144 31 [l0, l1] st s = Ze d 144 32 [l0, l1] (aI 1 :: st) s := Ze_n (i := (.iconst 1)) (len := 1) (by decide +kernel) rfl
theorem x144_32 : Ze d 144 32 [l0, l1] st s = Ze d 144 36 [l0, l1] st s := Ze_n (i := (.goto 4)) (len := 3) (by decide +kernel) rfl
theorem x144_35 : Ze d 144 35 [l0, l1] st s = Ze d 144 36 [l0, l1] (aI 0 :: st) s := Ze_n (i := (.iconst 0)) (len := 1) (by decide +kernel) rfl
theorem x144_36 (h : z = 0 ∨ z = 1) : Ze d 144 36 [l0, l1] [aI z] s = rI z s := Ze_i2 (by decide +kernel) rfl h
theorem en144 : Zc (d + 1) 144 [aI a0, aI a1] s = Ze d 144 0 [aI a0, aI a1] [] s := rfl
theorem x145_0 : Ze d 145 0 [aR r, l1] st s = Ze d 145 1 [aR r, l1] (aR r :: st) s := Ze_n (i := (.aload_n 0)) (len := 1) (by decide +kernel) rfl
theorem x145_1 (h : obC r = 8) : Ze d 145 1 [l0, l1] (aR r :: st) s = Ze d 145 4 [l0, l1] (aR (fcn r 4) :: st) s := Ze_gf (len := 3) (idx := 25) (by decide +kernel) rfl h rfl
theorem x145_4 : Ze d 145 4 [l0, aI z] st s = Ze d 145 5 [l0, aI z] (aI z :: st) s := Ze_n (i := (.iload_n 1)) (len := 1) (by decide +kernel) rfl
theorem x145_5 (h0 : 0 ≤ i) (h1 : i < aN2 r) : Ze d 145 5 [l0, l1] (aI i :: aR r :: st) s = Ze d 145 6 [l0, l1] (aI (s r i.toNat) :: st) s := Ze_n (i := .baload) (len := 1) (by decide +kernel) (if_pos ⟨h0, h1⟩)
theorem x145_6 : Ze d 145 6 [l0, l1] (aI a :: st) s = if a = 0 then Ze d 145 9 [l0, l1] st s else Ze d 145 23 [l0, l1] st s := Ze_b (i := (.ifCond .ne 17)) (len := 3) (by decide +kernel) rfl
theorem x145_9 : Ze d 145 9 [aR r, l1] st s = Ze d 145 10 [aR r, l1] (aR r :: st) s := Ze_n (i := (.aload_n 0)) (len := 1) (by decide +kernel) rfl
theorem x145_10 (h : obC r = 8) : Ze d 145 10 [l0, l1] (aR r :: st) s = Ze d 145 13 [l0, l1] (aR (fcn r 0) :: st) s := Ze_gf (len := 3) (idx := 9) (by decide +kernel) rfl h rfl
theorem x145_13 : Ze d 145 13 [l0, aI z] st s = Ze d 145 14 [l0, aI z] (aI z :: st) s := Ze_n (i := (.iload_n 1)) (len := 1) (by decide +kernel) rfl
theorem x145_14 (h0 : 0 ≤ i) (h1 : i < aN1 r) : Ze d 145 14 [l0, l1] (aI i :: aR r :: st) s = Ze d 145 15 [l0, l1] (aI (s r i.toNat) :: st) s := Ze_n (i := .iaload) (len := 1) (by decide +kernel) (if_pos ⟨h0, h1⟩)
theorem x145_15 : Ze d 145 15 [l0, l1] st s = Ze d 145 16 [l0, l1] (aI 4 :: st) s := Ze_n (i := (.iconst 4)) (len := 1) (by decide +kernel) rfl
theorem x145_16 : Ze d 145 16 [l0, l1] (aI b :: aI a :: st) s = if a = b then Ze d 145 23 [l0, l1] st s else Ze d 145 19 [l0, l1] st s := Ze_b (i := (.if_icmp .eq 7)) (len := 3) (by decide +kernel) rfl
theorem x145_19 : Ze d 145 19 [l0, l1] st s = Ze d 145 20 [l0, l1] (aI 1 :: st) s := Ze_n (i := (.iconst 1)) (len := 1) (by decide +kernel) rfl
theorem x145_20 : Ze d 145 20 [l0, l1] st s = Ze d 145 24 [l0, l1] st s := Ze_n (i := (.goto 4)) (len := 3) (by decide +kernel) rfl
theorem x145_23 : Ze d 145 23 [l0, l1] st s = Ze d 145 24 [l0, l1] (aI 0 :: st) s := Ze_n (i := (.iconst 0)) (len := 1) (by decide +kernel) rfl
theorem x145_24 (h : z = 0 ∨ z = 1) : Ze d 145 24 [l0, l1] [aI z] s = rI z s := Ze_i2 (by decide +kernel) rfl h
theorem en145 : Zc (d + 1) 145 [aR r, aI a1] s = Ze d 145 0 [aR r, aI a1] [] s := rfl
