variable {d r q : Nat} {l0 l1 l2 l3 l4 l5 l6 l7 l8 l9 l10 l11 l12 l13 l14 l15 : AV} {st : List AV} {s : Mem} {a b z i n dp sp a0 a1 a2 a3 a4 a5 a6 : Int} {r0 r1 r2 r3 r4 : Nat}
theorem x49_0 : Ze d 49 0 [l0, l1, l2, l3, l4, l5, l6, l7, l8] st s = Ze d 49 3 [l0, l1, l2, l3, l4, l5, l6, l7, l8] (aI 220 :: st) s := Ze_n (i := (.sipush 220)) (len := 3) (by decide +kernel) rfl
theorem x49_3 : Ze d 49 3 [l0, l1, l2, l3, l4, l5, l6, l7, l8] (aI z :: st) s = Ze d 49 4 [l0, l1, aI z, l3, l4, l5, l6, l7, l8] st s := Ze_n (i := (.istore_n 2)) (len := 1) (by decide +kernel) rfl
theorem x49_4 : Ze d 49 4 [aR r, l1, l2, l3, l4, l5, l6, l7, l8] st s = Ze d 49 5 [aR r, l1, l2, l3, l4, l5, l6, l7, l8] (aR r :: st) s := Ze_n (i := (.aload_n 0)) (len := 1) (by decide +kernel) rfl
theorem x49_5 (h : obC r = 0) : Ze d 49 5 [l0, l1, l2, l3, l4, l5, l6, l7, l8] (aR r :: st) s = Ze d 49 8 [l0, l1, l2, l3, l4, l5, l6, l7, l8] (aR (fcn r 25) :: st) s := Ze_gf (len := 3) (idx := 65) (by decide +kernel) rfl h rfl
theorem x49_8 : Ze d 49 8 [l0, l1, aI z, l3, l4, l5, l6, l7, l8] st s = Ze d 49 9 [l0, l1, aI z, l3, l4, l5, l6, l7, l8] (aI z :: st) s := Ze_n (i := (.iload_n 2)) (len := 1) (by decide +kernel) rfl
theorem x49_9 : Ze d 49 9 [l0, aI z, l2, l3, l4, l5, l6, l7, l8] st s = Ze d 49 10 [l0, aI z, l2, l3, l4, l5, l6, l7, l8] (aI z :: st) s := Ze_n (i := (.iload_n 1)) (len := 1) (by decide +kernel) rfl
theorem x49_10 : Ze d 49 10 [l0, l1, l2, l3, l4, l5, l6, l7, l8] (aI b :: aI a :: st) s = Ze d 49 11 [l0, l1, l2, l3, l4, l5, l6, l7, l8] (aI (wrap (a + b)) :: st) s := Ze_n (i := .iadd) (len := 1) (by decide +kernel) rfl
theorem x49_11 (h0 : 0 ≤ i) (h1 : i < aN1 r) : Ze d 49 11 [l0, l1, l2, l3, l4, l5, l6, l7, l8] (aI i :: aR r :: st) s = Ze d 49 12 [l0, l1, l2, l3, l4, l5, l6, l7, l8] (aI (s r i.toNat) :: st) s := Ze_n (i := .iaload) (len := 1) (by decide +kernel) (if_pos ⟨h0, h1⟩)
theorem x49_12 : Ze d 49 12 [l0, l1, l2, l3, l4, l5, l6, l7, l8] st s = Ze d 49 13 [l0, l1, l2, l3, l4, l5, l6, l7, l8] (aI 1 :: st) s := Ze_n (i := (.iconst 1)) (len := 1) (by decide +kernel) rfl
theorem x49_13 : Ze d 49 13 [l0, l1, l2, l3, l4, l5, l6, l7, l8] (aI b :: aI a :: st) s = Ze d 49 14 [l0, l1, l2, l3, l4, l5, l6, l7, l8] (aI (wrap (a - b)) :: st) s := Ze_n (i := .isub) (len := 1) (by decide +kernel) rfl
theorem x49_14 : Ze d 49 14 [l0, l1, l2, l3, l4, l5, l6, l7, l8] (aI z :: st) s = Ze d 49 15 [l0, l1, l2, aI z, l4, l5, l6, l7, l8] st s := Ze_n (i := (.istore_n 3)) (len := 1) (by decide +kernel) rfl
theorem x49_15 : Ze d 49 15 [l0, l1, l2, aI z, l4, l5, l6, l7, l8] st s = Ze d 49 16 [l0, l1, l2, aI z, l4, l5, l6, l7, l8] (aI z :: st) s := Ze_n (i := (.iload_n 3)) (len := 1) (by decide +kernel) rfl
theorem x49_16 : Ze d 49 16 [l0, aI z, l2, l3, l4, l5, l6, l7, l8] st s = Ze d 49 17 [l0, aI z, l2, l3, l4, l5, l6, l7, l8] (aI z :: st) s := Ze_n (i := (.iload_n 1)) (len := 1) (by decide +kernel) rfl
theorem x49_17 : Ze d 49 17 [l0, l1, l2, l3, l4, l5, l6, l7, l8] (aI b :: aI a :: st) s = if a < b then Ze d 49 415 [l0, l1, l2, l3, l4, l5, l6, l7, l8] st s else Ze d 49 20 [l0, l1, l2, l3, l4, l5, l6, l7, l8] st s := Ze_b (i := (.if_icmp .lt 398)) (len := 3) (by decide +kernel) rfl
theorem x49_20 : Ze d 49 20 [l0, l1, aI z, l3, l4, l5, l6, l7, l8] st s = Ze d 49 21 [l0, l1, aI z, l3, l4, l5, l6, l7, l8] (aI z :: st) s := Ze_n (i := (.iload_n 2)) (len := 1) (by decide +kernel) rfl
theorem x49_21 : Ze d 49 21 [l0, l1, l2, aI z, l4, l5, l6, l7, l8] st s = Ze d 49 22 [l0, l1, l2, aI z, l4, l5, l6, l7, l8] (aI z :: st) s := Ze_n (i := (.iload_n 3)) (len := 1) (by decide +kernel) rfl
theorem x49_22 : Ze d 49 22 [l0, l1, l2, l3, l4, l5, l6, l7, l8] (aI b :: aI a :: st) s = Ze d 49 23 [l0, l1, l2, l3, l4, l5, l6, l7, l8] (aI (wrap (a + b)) :: st) s := Ze_n (i := .iadd) (len := 1) (by decide +kernel) rfl
theorem x49_23 : Ze d 49 23 [l0, l1, l2, l3, l4, l5, l6, l7, l8] (aI z :: st) s = Ze d 49 25 [l0, l1, l2, l3, aI z, l5, l6, l7, l8] st s := Ze_n (i := (.istore 4)) (len := 2) (by decide +kernel) rfl
theorem x49_25 : Ze d 49 25 [aR r, l1, l2, l3, l4, l5, l6, l7, l8] st s = Ze d 49 26 [aR r, l1, l2, l3, l4, l5, l6, l7, l8] (aR r :: st) s := Ze_n (i := (.aload_n 0)) (len := 1) (by decide +kernel) rfl
theorem x49_26 (h : obC r = 0) : Ze d 49 26 [l0, l1, l2, l3, l4, l5, l6, l7, l8] (aR r :: st) s = Ze d 49 29 [l0, l1, l2, l3, l4, l5, l6, l7, l8] (aR (fcn r 19) :: st) s := Ze_gf (len := 3) (idx := 47) (by decide +kernel) rfl h rfl
theorem x49_29 : Ze d 49 29 [l0, l1, l2, l3, aI z, l5, l6, l7, l8] st s = Ze d 49 31 [l0, l1, l2, l3, aI z, l5, l6, l7, l8] (aI z :: st) s := Ze_n (i := (.iload 4)) (len := 2) (by decide +kernel) rfl
theorem x49_31 (h0 : 0 ≤ i) (h1 : i < aN1 r) : Ze d 49 31 [l0, l1, l2, l3, l4, l5, l6, l7, l8] (aI i :: aR r :: st) s = Ze d 49 32 [l0, l1, l2, l3, l4, l5, l6, l7, l8] (aI (s r i.toNat) :: st) s := Ze_n (i := .iaload) (len := 1) (by decide +kernel) (if_pos ⟨h0, h1⟩)
theorem x49_32 : Ze d 49 32 [l0, l1, l2, l3, l4, l5, l6, l7, l8] (aI z :: st) s = Ze d 49 34 [l0, l1, l2, l3, l4, aI z, l6, l7, l8] st s := Ze_n (i := (.istore 5)) (len := 2) (by decide +kernel) rfl
theorem x49_34 : Ze d 49 34 [l0, l1, l2, l3, l4, aI z, l6, l7, l8] st s = Ze d 49 36 [l0, l1, l2, l3, l4, aI z, l6, l7, l8] (aI z :: st) s := Ze_n (i := (.iload 5)) (len := 2) (by decide +kernel) rfl
theorem x49_36 : Ze d 49 36 [l0, l1, l2, l3, l4, l5, l6, l7, l8] st s = Ze d 49 37 [l0, l1, l2, l3, l4, l5, l6, l7, l8] (aI 2 :: st) s := Ze_n (i := (.iconst 2)) (len := 1) (by decide +kernel) rfl
theorem x49_37 : Ze d 49 37 [l0, l1, l2, l3, l4, l5, l6, l7, l8] (aI b :: aI a :: st) s = if a < b then Ze d 49 40 [l0, l1, l2, l3, l4, l5, l6, l7, l8] st s else Ze d 49 44 [l0, l1, l2, l3, l4, l5, l6, l7, l8] st s := Ze_b (i := (.if_icmp .ge 7)) (len := 3) (by decide +kernel) rfl
theorem x49_40 : Ze d 49 40 [l0, l1, l2, l3, l4, l5, l6, l7, l8] st s = Ze d 49 41 [l0, l1, l2, l3, l4, l5, l6, l7, l8] (aI 0 :: st) s := Ze_n (i := (.iconst 0)) (len := 1) (by decide +kernel) rfl
theorem x49_41 : Ze d 49 41 [l0, l1, l2, l3, l4, l5, l6, l7, l8] st s = Ze d 49 56 [l0, l1, l2, l3, l4, l5, l6, l7, l8] st s := Ze_n (i := (.goto 15)) (len := 3) (by decide +kernel) rfl
theorem x49_44 : Ze d 49 44 [aR r, l1, l2, l3, l4, l5, l6, l7, l8] st s = Ze d 49 45 [aR r, l1, l2, l3, l4, l5, l6, l7, l8] (aR r :: st) s := Ze_n (i := (.aload_n 0)) (len := 1) (by decide +kernel) rfl
theorem x49_45 (h : obC r = 0) : Ze d 49 45 [l0, l1, l2, l3, l4, l5, l6, l7, l8] (aR r :: st) s = Ze d 49 48 [l0, l1, l2, l3, l4, l5, l6, l7, l8] (aR (fcn r 29) :: st) s := Ze_gf (len := 3) (idx := 77) (by decide +kernel) rfl h rfl
theorem x49_48 : Ze d 49 48 [aR r, l1, l2, l3, l4, l5, l6, l7, l8] st s = Ze d 49 49 [aR r, l1, l2, l3, l4, l5, l6, l7, l8] (aR r :: st) s := Ze_n (i := (.aload_n 0)) (len := 1) (by decide +kernel) rfl
theorem x49_49 (h : obC r = 0) : Ze d 49 49 [l0, l1, l2, l3, l4, l5, l6, l7, l8] (aR r :: st) s = Ze d 49 52 [l0, l1, l2, l3, l4, l5, l6, l7, l8] (aR (fcn r 22) :: st) s := Ze_gf (len := 3) (idx := 56) (by decide +kernel) rfl h rfl
theorem x49_52 : Ze d 49 52 [l0, l1, l2, l3, aI z, l5, l6, l7, l8] st s = Ze d 49 54 [l0, l1, l2, l3, aI z, l5, l6, l7, l8] (aI z :: st) s := Ze_n (i := (.iload 4)) (len := 2) (by decide +kernel) rfl
theorem x49_54 (h0 : 0 ≤ i) (h1 : i < aN1 r) : Ze d 49 54 [l0, l1, l2, l3, l4, l5, l6, l7, l8] (aI i :: aR r :: st) s = Ze d 49 55 [l0, l1, l2, l3, l4, l5, l6, l7, l8] (aI (s r i.toNat) :: st) s := Ze_n (i := .iaload) (len := 1) (by decide +kernel) (if_pos ⟨h0, h1⟩)
theorem x49_55 (h0 : 0 ≤ i) (h1 : i < aN1 r) : Ze d 49 55 [l0, l1, l2, l3, l4, l5, l6, l7, l8] (aI i :: aR r :: st) s = Ze d 49 56 [l0, l1, l2, l3, l4, l5, l6, l7, l8] (aI (s r i.toNat) :: st) s := Ze_n (i := .iaload) (len := 1) (by decide +kernel) (if_pos ⟨h0, h1⟩)
theorem x49_56 : Ze d 49 56 [l0, l1, l2, l3, l4, l5, l6, l7, l8] (aI z :: st) s = Ze d 49 58 [l0, l1, l2, l3, l4, l5, aI z, l7, l8] st s := Ze_n (i := (.istore 6)) (len := 2) (by decide +kernel) rfl
theorem x49_58 : Ze d 49 58 [l0, l1, l2, l3, l4, aI z, l6, l7, l8] st s = Ze d 49 60 [l0, l1, l2, l3, l4, aI z, l6, l7, l8] (aI z :: st) s := Ze_n (i := (.iload 5)) (len := 2) (by decide +kernel) rfl
theorem x49_60 : Ze d 49 60 [l0, l1, l2, l3, l4, l5, l6, l7, l8] st s = Ze d 49 61 [l0, l1, l2, l3, l4, l5, l6, l7, l8] (aI 2 :: st) s := Ze_n (i := (.iconst 2)) (len := 1) (by decide +kernel) rfl
theorem x49_61 : Ze d 49 61 [l0, l1, l2, l3, l4, l5, l6, l7, l8] (aI b :: aI a :: st) s = if a < b then Ze d 49 74 [l0, l1, l2, l3, l4, l5, l6, l7, l8] st s else Ze d 49 64 [l0, l1, l2, l3, l4, l5, l6, l7, l8] st s := Ze_b (i := (.if_icmp .lt 13)) (len := 3) (by decide +kernel) rfl
theorem x49_64 : Ze d 49 64 [aR r, l1, l2, l3, l4, l5, l6, l7, l8] st s = Ze d 49 65 [aR r, l1, l2, l3, l4, l5, l6, l7, l8] (aR r :: st) s := Ze_n (i := (.aload_n 0)) (len := 1) (by decide +kernel) rfl
theorem x49_65 (h : obC r = 0) : Ze d 49 65 [l0, l1, l2, l3, l4, l5, l6, l7, l8] (aR r :: st) s = Ze d 49 68 [l0, l1, l2, l3, l4, l5, l6, l7, l8] (aR (fcn r 23) :: st) s := Ze_gf (len := 3) (idx := 59) (by decide +kernel) rfl h rfl
theorem x49_68 : Ze d 49 68 [l0, l1, l2, l3, aI z, l5, l6, l7, l8] st s = Ze d 49 70 [l0, l1, l2, l3, aI z, l5, l6, l7, l8] (aI z :: st) s := Ze_n (i := (.iload 4)) (len := 2) (by decide +kernel) rfl
theorem x49_70 (h0 : 0 ≤ i) (h1 : i < aN1 r) : Ze d 49 70 [l0, l1, l2, l3, l4, l5, l6, l7, l8] (aI i :: aR r :: st) s = Ze d 49 71 [l0, l1, l2, l3, l4, l5, l6, l7, l8] (aI (s r i.toNat) :: st) s := Ze_n (i := .iaload) (len := 1) (by decide +kernel) (if_pos ⟨h0, h1⟩)
theorem x49_71 : Ze d 49 71 [l0, l1, l2, l3, l4, l5, l6, l7, l8] (aI a :: st) s = if a < 0 then Ze d 49 74 [l0, l1, l2, l3, l4, l5, l6, l7, l8] st s else Ze d 49 78 [l0, l1, l2, l3, l4, l5, l6, l7, l8] st s := Ze_b (i := (.ifCond .ge 7)) (len := 3) (by decide +kernel) rfl
theorem x49_74 : Ze d 49 74 [l0, l1, l2, l3, l4, l5, l6, l7, l8] st s = Ze d 49 75 [l0, l1, l2, l3, l4, l5, l6, l7, l8] (aI 0 :: st) s := Ze_n (i := (.iconst 0)) (len := 1) (by decide +kernel) rfl
theorem x49_75 : Ze d 49 75 [l0, l1, l2, l3, l4, l5, l6, l7, l8] st s = Ze d 49 90 [l0, l1, l2, l3, l4, l5, l6, l7, l8] st s := Ze_n (i := (.goto 15)) (len := 3) (by decide +kernel) rfl
theorem x49_78 : Ze d 49 78 [aR r, l1, l2, l3, l4, l5, l6, l7, l8] st s = Ze d 49 79 [aR r, l1, l2, l3, l4, l5, l6, l7, l8] (aR r :: st) s := Ze_n (i := (.aload_n 0)) (len := 1) (by decide +kernel) rfl
theorem x49_79 (h : obC r = 0) : Ze d 49 79 [l0, l1, l2, l3, l4, l5, l6, l7, l8] (aR r :: st) s = Ze d 49 82 [l0, l1, l2, l3, l4, l5, l6, l7, l8] (aR (fcn r 29) :: st) s := Ze_gf (len := 3) (idx := 77) (by decide +kernel) rfl h rfl
theorem x49_82 : Ze d 49 82 [aR r, l1, l2, l3, l4, l5, l6, l7, l8] st s = Ze d 49 83 [aR r, l1, l2, l3, l4, l5, l6, l7, l8] (aR r :: st) s := Ze_n (i := (.aload_n 0)) (len := 1) (by decide +kernel) rfl
theorem x49_83 (h : obC r = 0) : Ze d 49 83 [l0, l1, l2, l3, l4, l5, l6, l7, l8] (aR r :: st) s = Ze d 49 86 [l0, l1, l2, l3, l4, l5, l6, l7, l8] (aR (fcn r 23) :: st) s := Ze_gf (len := 3) (idx := 59) (by decide +kernel) rfl h rfl
theorem x49_86 : Ze d 49 86 [l0, l1, l2, l3, aI z, l5, l6, l7, l8] st s = Ze d 49 88 [l0, l1, l2, l3, aI z, l5, l6, l7, l8] (aI z :: st) s := Ze_n (i := (.iload 4)) (len := 2) (by decide +kernel) rfl
theorem x49_88 (h0 : 0 ≤ i) (h1 : i < aN1 r) : Ze d 49 88 [l0, l1, l2, l3, l4, l5, l6, l7, l8] (aI i :: aR r :: st) s = Ze d 49 89 [l0, l1, l2, l3, l4, l5, l6, l7, l8] (aI (s r i.toNat) :: st) s := Ze_n (i := .iaload) (len := 1) (by decide +kernel) (if_pos ⟨h0, h1⟩)
theorem x49_89 (h0 : 0 ≤ i) (h1 : i < aN1 r) : Ze d 49 89 [l0, l1, l2, l3, l4, l5, l6, l7, l8] (aI i :: aR r :: st) s = Ze d 49 90 [l0, l1, l2, l3, l4, l5, l6, l7, l8] (aI (s r i.toNat) :: st) s := Ze_n (i := .iaload) (len := 1) (by decide +kernel) (if_pos ⟨h0, h1⟩)
theorem x49_90 : Ze d 49 90 [l0, l1, l2, l3, l4, l5, l6, l7, l8] (aI z :: st) s = Ze d 49 92 [l0, l1, l2, l3, l4, l5, l6, aI z, l8] st s := Ze_n (i := (.istore 7)) (len := 2) (by decide +kernel) rfl
theorem x49_92 : Ze d 49 92 [l0, l1, l2, l3, l4, l5, l6, l7, l8] st s = Ze d 49 93 [l0, l1, l2, l3, l4, l5, l6, l7, l8] (aI 0 :: st) s := Ze_n (i := (.iconst 0)) (len := 1) (by decide +kernel) rfl
theorem x49_93 : Ze d 49 93 [l0, l1, l2, l3, l4, l5, l6, l7, l8] (aI z :: st) s = Ze d 49 95 [l0, l1, l2, l3, l4, l5, l6, l7, aI z] st s := Ze_n (i := (.istore 8)) (len := 2) (by decide +kernel) rfl
theorem x49_95 : Ze d 49 95 [l0, l1, l2, l3, l4, aI z, l6, l7, l8] st s = Ze d 49 97 [l0, l1, l2, l3, l4, aI z, l6, l7, l8] (aI z :: st) s := Ze_n (i := (.iload 5)) (len := 2) (by decide +kernel) rfl
theorem x49_97 : Ze d 49 97 [l0, l1, l2, l3, l4, l5, l6, l7, l8] (aI a :: st) s = if a = 0 then Ze d 49 204 [l0, l1, l2, l3, l4, l5, l6, l7, l8] st s else if a = 1 then Ze d 49 221 [l0, l1, l2, l3, l4, l5, l6, l7, l8] st s else if a = 33 then Ze d 49 342 [l0, l1, l2, l3, l4, l5, l6, l7, l8] st s else if a = 35 then Ze d 49 317 [l0, l1, l2, l3, l4, l5, l6, l7, l8] st s else if a = 38 then Ze d 49 253 [l0, l1, l2, l3, l4, l5, l6, l7, l8] st s else if a = 43 then Ze d 49 233 [l0, l1, l2, l3, l4, l5, l6, l7, l8] st s else if a = 45 then Ze d 49 243 [l0, l1, l2, l3, l4, l5, l6, l7, l8] st s else if a = 60 then Ze d 49 300 [l0, l1, l2, l3, l4, l5, l6, l7, l8] st s else if a = 61 then Ze d 49 283 [l0, l1, l2, l3, l4, l5, l6, l7, l8] st s else if a = 77 then Ze d 49 351 [l0, l1, l2, l3, l4, l5, l6, l7, l8] st s else if a = 94 then Ze d 49 273 [l0, l1, l2, l3, l4, l5, l6, l7, l8] st s else if a = 124 then Ze d 49 263 [l0, l1, l2, l3, l4, l5, l6, l7, l8] st s else Ze d 49 378 [l0, l1, l2, l3, l4, l5, l6, l7, l8] st s :=
  Ze_lk (dflt := 281) (ps := #[(0, 107), (1, 124), (33, 245), (35, 220), (38, 156), (43, 136), (45, 146), (60, 203), (61, 186), (77, 254), (94, 176), (124, 166)]) (len := 107) (ks := [(0, 204), (1, 221), (33, 342), (35, 317), (38, 253), (43, 233), (45, 243), (60, 300), (61, 283), (77, 351), (94, 273), (124, 263)]) (df := 378) (by decide +kernel) (by decide +kernel) (by decide +kernel)
theorem x49_204 : Ze d 49 204 [aR r, l1, l2, l3, l4, l5, l6, l7, l8] st s = Ze d 49 205 [aR r, l1, l2, l3, l4, l5, l6, l7, l8] (aR r :: st) s := Ze_n (i := (.aload_n 0)) (len := 1) (by decide +kernel) rfl
theorem x49_205 (h : obC r = 0) : Ze d 49 205 [l0, l1, l2, l3, l4, l5, l6, l7, l8] (aR r :: st) s = Ze d 49 208 [l0, l1, l2, l3, l4, l5, l6, l7, l8] (aR (fcn r 59) :: st) s := Ze_gf (len := 3) (idx := 143) (by decide +kernel) rfl h rfl
theorem x49_208 : Ze d 49 208 [aR r, l1, l2, l3, l4, l5, l6, l7, l8] st s = Ze d 49 209 [aR r, l1, l2, l3, l4, l5, l6, l7, l8] (aR r :: st) s := Ze_n (i := (.aload_n 0)) (len := 1) (by decide +kernel) rfl
theorem x49_209 (h : obC r = 0) : Ze d 49 209 [l0, l1, l2, l3, l4, l5, l6, l7, l8] (aR r :: st) s = Ze d 49 212 [l0, l1, l2, l3, l4, l5, l6, l7, l8] (aR (fcn r 22) :: st) s := Ze_gf (len := 3) (idx := 56) (by decide +kernel) rfl h rfl
theorem x49_212 : Ze d 49 212 [l0, l1, l2, l3, aI z, l5, l6, l7, l8] st s = Ze d 49 214 [l0, l1, l2, l3, aI z, l5, l6, l7, l8] (aI z :: st) s := Ze_n (i := (.iload 4)) (len := 2) (by decide +kernel) rfl
theorem x49_214 (h0 : 0 ≤ i) (h1 : i < aN1 r) : Ze d 49 214 [l0, l1, l2, l3, l4, l5, l6, l7, l8] (aI i :: aR r :: st) s = Ze d 49 215 [l0, l1, l2, l3, l4, l5, l6, l7, l8] (aI (s r i.toNat) :: st) s := Ze_n (i := .iaload) (len := 1) (by decide +kernel) (if_pos ⟨h0, h1⟩)
theorem x49_215 (h0 : 0 ≤ i) (h1 : i < aN1 r) : Ze d 49 215 [l0, l1, l2, l3, l4, l5, l6, l7, l8] (aI i :: aR r :: st) s = Ze d 49 216 [l0, l1, l2, l3, l4, l5, l6, l7, l8] (aI (s r i.toNat) :: st) s := Ze_n (i := .iaload) (len := 1) (by decide +kernel) (if_pos ⟨h0, h1⟩)
theorem x49_216 : Ze d 49 216 [l0, l1, l2, l3, l4, l5, l6, l7, l8] (aI z :: st) s = Ze d 49 218 [l0, l1, l2, l3, l4, l5, l6, l7, aI z] st s := Ze_n (i := (.istore 8)) (len := 2) (by decide +kernel) rfl
theorem x49_218 : Ze d 49 218 [l0, l1, l2, l3, l4, l5, l6, l7, l8] st s = Ze d 49 390 [l0, l1, l2, l3, l4, l5, l6, l7, l8] st s := Ze_n (i := (.goto 172)) (len := 3) (by decide +kernel) rfl
theorem x49_221 : Ze d 49 221 [aR r, l1, l2, l3, l4, l5, l6, l7, l8] st s = Ze d 49 222 [aR r, l1, l2, l3, l4, l5, l6, l7, l8] (aR r :: st) s := Ze_n (i := (.aload_n 0)) (len := 1) (by decide +kernel) rfl
theorem x49_222 (h : obC r = 0) : Ze d 49 222 [l0, l1, l2, l3, l4, l5, l6, l7, l8] (aR r :: st) s = Ze d 49 225 [l0, l1, l2, l3, l4, l5, l6, l7, l8] (aR (fcn r 20) :: st) s := Ze_gf (len := 3) (idx := 50) (by decide +kernel) rfl h rfl
theorem x49_225 : Ze d 49 225 [l0, l1, l2, l3, aI z, l5, l6, l7, l8] st s = Ze d 49 227 [l0, l1, l2, l3, aI z, l5, l6, l7, l8] (aI z :: st) s := Ze_n (i := (.iload 4)) (len := 2) (by decide +kernel) rfl
theorem x49_227 (h0 : 0 ≤ i) (h1 : i < aN1 r) : Ze d 49 227 [l0, l1, l2, l3, l4, l5, l6, l7, l8] (aI i :: aR r :: st) s = Ze d 49 228 [l0, l1, l2, l3, l4, l5, l6, l7, l8] (aI (s r i.toNat) :: st) s := Ze_n (i := .iaload) (len := 1) (by decide +kernel) (if_pos ⟨h0, h1⟩)
theorem x49_228 : Ze d 49 228 [l0, l1, l2, l3, l4, l5, l6, l7, l8] (aI z :: st) s = Ze d 49 230 [l0, l1, l2, l3, l4, l5, l6, l7, aI z] st s := Ze_n (i := (.istore 8)) (len := 2) (by decide +kernel) rfl
theorem x49_230 : Ze d 49 230 [l0, l1, l2, l3, l4, l5, l6, l7, l8] st s = Ze d 49 390 [l0, l1, l2, l3, l4, l5, l6, l7, l8] st s := Ze_n (i := (.goto 160)) (len := 3) (by decide +kernel) rfl
theorem x49_233 : Ze d 49 233 [l0, l1, l2, l3, l4, l5, aI z, l7, l8] st s = Ze d 49 235 [l0, l1, l2, l3, l4, l5, aI z, l7, l8] (aI z :: st) s := Ze_n (i := (.iload 6)) (len := 2) (by decide +kernel) rfl
theorem x49_235 : Ze d 49 235 [l0, l1, l2, l3, l4, l5, l6, aI z, l8] st s = Ze d 49 237 [l0, l1, l2, l3, l4, l5, l6, aI z, l8] (aI z :: st) s := Ze_n (i := (.iload 7)) (len := 2) (by decide +kernel) rfl
theorem x49_237 : Ze d 49 237 [l0, l1, l2, l3, l4, l5, l6, l7, l8] (aI b :: aI a :: st) s = Ze d 49 238 [l0, l1, l2, l3, l4, l5, l6, l7, l8] (aI (wrap (a + b)) :: st) s := Ze_n (i := .iadd) (len := 1) (by decide +kernel) rfl
theorem x49_238 : Ze d 49 238 [l0, l1, l2, l3, l4, l5, l6, l7, l8] (aI z :: st) s = Ze d 49 240 [l0, l1, l2, l3, l4, l5, l6, l7, aI z] st s := Ze_n (i := (.istore 8)) (len := 2) (by decide +kernel) rfl
theorem x49_240 : Ze d 49 240 [l0, l1, l2, l3, l4, l5, l6, l7, l8] st s = Ze d 49 390 [l0, l1, l2, l3, l4, l5, l6, l7, l8] st s := Ze_n (i := (.goto 150)) (len := 3) (by decide +kernel) rfl
theorem x49_243 : Ze d 49 243 [l0, l1, l2, l3, l4, l5, aI z, l7, l8] st s = Ze d 49 245 [l0, l1, l2, l3, l4, l5, aI z, l7, l8] (aI z :: st) s := Ze_n (i := (.iload 6)) (len := 2) (by decide +kernel) rfl
theorem x49_245 : Ze d 49 245 [l0, l1, l2, l3, l4, l5, l6, aI z, l8] st s = Ze d 49 247 [l0, l1, l2, l3, l4, l5, l6, aI z, l8] (aI z :: st) s := Ze_n (i := (.iload 7)) (len := 2) (by decide +kernel) rfl
theorem x49_247 : Ze d 49 247 [l0, l1, l2, l3, l4, l5, l6, l7, l8] (aI b :: aI a :: st) s = Ze d 49 248 [l0, l1, l2, l3, l4, l5, l6, l7, l8] (aI (wrap (a - b)) :: st) s := Ze_n (i := .isub) (len := 1) (by decide +kernel) rfl
theorem x49_248 : Ze d 49 248 [l0, l1, l2, l3, l4, l5, l6, l7, l8] (aI z :: st) s = Ze d 49 250 [l0, l1, l2, l3, l4, l5, l6, l7, aI z] st s := Ze_n (i := (.istore 8)) (len := 2) (by decide +kernel) rfl
theorem x49_250 : Ze d 49 250 [l0, l1, l2, l3, l4, l5, l6, l7, l8] st s = Ze d 49 390 [l0, l1, l2, l3, l4, l5, l6, l7, l8] st s := Ze_n (i := (.goto 140)) (len := 3) (by decide +kernel) rfl
theorem x49_253 : Ze d 49 253 [l0, l1, l2, l3, l4, l5, aI z, l7, l8] st s = Ze d 49 255 [l0, l1, l2, l3, l4, l5, aI z, l7, l8] (aI z :: st) s := Ze_n (i := (.iload 6)) (len := 2) (by decide +kernel) rfl
theorem x49_255 : Ze d 49 255 [l0, l1, l2, l3, l4, l5, l6, aI z, l8] st s = Ze d 49 257 [l0, l1, l2, l3, l4, l5, l6, aI z, l8] (aI z :: st) s := Ze_n (i := (.iload 7)) (len := 2) (by decide +kernel) rfl
theorem x49_257 : Ze d 49 257 [l0, l1, l2, l3, l4, l5, l6, l7, l8] (aI b :: aI a :: st) s = Ze d 49 258 [l0, l1, l2, l3, l4, l5, l6, l7, l8] (aI (iand a b) :: st) s := Ze_n (i := .iand) (len := 1) (by decide +kernel) rfl
theorem x49_258 : Ze d 49 258 [l0, l1, l2, l3, l4, l5, l6, l7, l8] (aI z :: st) s = Ze d 49 260 [l0, l1, l2, l3, l4, l5, l6, l7, aI z] st s := Ze_n (i := (.istore 8)) (len := 2) (by decide +kernel) rfl
theorem x49_260 : Ze d 49 260 [l0, l1, l2, l3, l4, l5, l6, l7, l8] st s = Ze d 49 390 [l0, l1, l2, l3, l4, l5, l6, l7, l8] st s := Ze_n (i := (.goto 130)) (len := 3) (by decide +kernel) rfl
theorem x49_263 : Ze d 49 263 [l0, l1, l2, l3, l4, l5, aI z, l7, l8] st s = Ze d 49 265 [l0, l1, l2, l3, l4, l5, aI z, l7, l8] (aI z :: st) s := Ze_n (i := (.iload 6)) (len := 2) (by decide +kernel) rfl
theorem x49_265 : Ze d 49 265 [l0, l1, l2, l3, l4, l5, l6, aI z, l8] st s = Ze d 49 267 [l0, l1, l2, l3, l4, l5, l6, aI z, l8] (aI z :: st) s := Ze_n (i := (.iload 7)) (len := 2) (by decide +kernel) rfl
theorem x49_267 : Ze d 49 267 [l0, l1, l2, l3, l4, l5, l6, l7, l8] (aI b :: aI a :: st) s = Ze d 49 268 [l0, l1, l2, l3, l4, l5, l6, l7, l8] (aI (ior a b) :: st) s := Ze_n (i := .ior) (len := 1) (by decide +kernel) rfl
theorem x49_268 : Ze d 49 268 [l0, l1, l2, l3, l4, l5, l6, l7, l8] (aI z :: st) s = Ze d 49 270 [l0, l1, l2, l3, l4, l5, l6, l7, aI z] st s := Ze_n (i := (.istore 8)) (len := 2) (by decide +kernel) rfl
theorem x49_270 : Ze d 49 270 [l0, l1, l2, l3, l4, l5, l6, l7, l8] st s = Ze d 49 390 [l0, l1, l2, l3, l4, l5, l6, l7, l8] st s := Ze_n (i := (.goto 120)) (len := 3) (by decide +kernel) rfl
theorem x49_273 : Ze d 49 273 [l0, l1, l2, l3, l4, l5, aI z, l7, l8] st s = Ze d 49 275 [l0, l1, l2, l3, l4, l5, aI z, l7, l8] (aI z :: st) s := Ze_n (i := (.iload 6)) (len := 2) (by decide +kernel) rfl
theorem x49_275 : Ze d 49 275 [l0, l1, l2, l3, l4, l5, l6, aI z, l8] st s = Ze d 49 277 [l0, l1, l2, l3, l4, l5, l6, aI z, l8] (aI z :: st) s := Ze_n (i := (.iload 7)) (len := 2) (by decide +kernel) rfl
theorem x49_277 : Ze d 49 277 [l0, l1, l2, l3, l4, l5, l6, l7, l8] (aI b :: aI a :: st) s = Ze d 49 278 [l0, l1, l2, l3, l4, l5, l6, l7, l8] (aI (ixor a b) :: st) s := Ze_n (i := .ixor) (len := 1) (by decide +kernel) rfl
theorem x49_278 : Ze d 49 278 [l0, l1, l2, l3, l4, l5, l6, l7, l8] (aI z :: st) s = Ze d 49 280 [l0, l1, l2, l3, l4, l5, l6, l7, aI z] st s := Ze_n (i := (.istore 8)) (len := 2) (by decide +kernel) rfl
theorem x49_280 : Ze d 49 280 [l0, l1, l2, l3, l4, l5, l6, l7, l8] st s = Ze d 49 390 [l0, l1, l2, l3, l4, l5, l6, l7, l8] st s := Ze_n (i := (.goto 110)) (len := 3) (by decide +kernel) rfl
theorem x49_283 : Ze d 49 283 [l0, l1, l2, l3, l4, l5, aI z, l7, l8] st s = Ze d 49 285 [l0, l1, l2, l3, l4, l5, aI z, l7, l8] (aI z :: st) s := Ze_n (i := (.iload 6)) (len := 2) (by decide +kernel) rfl
theorem x49_285 : Ze d 49 285 [l0, l1, l2, l3, l4, l5, l6, aI z, l8] st s = Ze d 49 287 [l0, l1, l2, l3, l4, l5, l6, aI z, l8] (aI z :: st) s := Ze_n (i := (.iload 7)) (len := 2) (by decide +kernel) rfl
theorem x49_287 : Ze d 49 287 [l0, l1, l2, l3, l4, l5, l6, l7, l8] (aI b :: aI a :: st) s = if a = b then Ze d 49 290 [l0, l1, l2, l3, l4, l5, l6, l7, l8] st s else Ze d 49 294 [l0, l1, l2, l3, l4, l5, l6, l7, l8] st s := Ze_b (i := (.if_icmp .ne 7)) (len := 3) (by decide +kernel) rfl
theorem x49_290 : Ze d 49 290 [l0, l1, l2, l3, l4, l5, l6, l7, l8] st s = Ze d 49 291 [l0, l1, l2, l3, l4, l5, l6, l7, l8] (aI 1 :: st) s := Ze_n (i := (.iconst 1)) (len := 1) (by decide +kernel) rfl
theorem x49_291 : Ze d 49 291 [l0, l1, l2, l3, l4, l5, l6, l7, l8] st s = Ze d 49 295 [l0, l1, l2, l3, l4, l5, l6, l7, l8] st s := Ze_n (i := (.goto 4)) (len := 3) (by decide +kernel) rfl
theorem x49_294 : Ze d 49 294 [l0, l1, l2, l3, l4, l5, l6, l7, l8] st s = Ze d 49 295 [l0, l1, l2, l3, l4, l5, l6, l7, l8] (aI 0 :: st) s := Ze_n (i := (.iconst 0)) (len := 1) (by decide +kernel) rfl
theorem x49_295 : Ze d 49 295 [l0, l1, l2, l3, l4, l5, l6, l7, l8] (aI z :: st) s = Ze d 49 297 [l0, l1, l2, l3, l4, l5, l6, l7, aI z] st s := Ze_n (i := (.istore 8)) (len := 2) (by decide +kernel) rfl
theorem x49_297 : Ze d 49 297 [l0, l1, l2, l3, l4, l5, l6, l7, l8] st s = Ze d 49 390 [l0, l1, l2, l3, l4, l5, l6, l7, l8] st s := Ze_n (i := (.goto 93)) (len := 3) (by decide +kernel) rfl
theorem x49_300 : Ze d 49 300 [l0, l1, l2, l3, l4, l5, aI z, l7, l8] st s = Ze d 49 302 [l0, l1, l2, l3, l4, l5, aI z, l7, l8] (aI z :: st) s := Ze_n (i := (.iload 6)) (len := 2) (by decide +kernel) rfl
theorem x49_302 : Ze d 49 302 [l0, l1, l2, l3, l4, l5, l6, aI z, l8] st s = Ze d 49 304 [l0, l1, l2, l3, l4, l5, l6, aI z, l8] (aI z :: st) s := Ze_n (i := (.iload 7)) (len := 2) (by decide +kernel) rfl
theorem x49_304 : Ze d 49 304 [l0, l1, l2, l3, l4, l5, l6, l7, l8] (aI b :: aI a :: st) s = if a < b then Ze d 49 307 [l0, l1, l2, l3, l4, l5, l6, l7, l8] st s else Ze d 49 311 [l0, l1, l2, l3, l4, l5, l6, l7, l8] st s := Ze_b (i := (.if_icmp .ge 7)) (len := 3) (by decide +kernel) rfl
theorem x49_307 : Ze d 49 307 [l0, l1, l2, l3, l4, l5, l6, l7, l8] st s = Ze d 49 308 [l0, l1, l2, l3, l4, l5, l6, l7, l8] (aI 1 :: st) s := Ze_n (i := (.iconst 1)) (len := 1) (by decide +kernel) rfl
theorem x49_308 : Ze d 49 308 [l0, l1, l2, l3, l4, l5, l6, l7, l8] st s = Ze d 49 312 [l0, l1, l2, l3, l4, l5, l6, l7, l8] st s := Ze_n (i := (.goto 4)) (len := 3) (by decide +kernel) rfl
theorem x49_311 : Ze d 49 311 [l0, l1, l2, l3, l4, l5, l6, l7, l8] st s = Ze d 49 312 [l0, l1, l2, l3, l4, l5, l6, l7, l8] (aI 0 :: st) s := Ze_n (i := (.iconst 0)) (len := 1) (by decide +kernel) rfl
theorem x49_312 : Ze d 49 312 [l0, l1, l2, l3, l4, l5, l6, l7, l8] (aI z :: st) s = Ze d 49 314 [l0, l1, l2, l3, l4, l5, l6, l7, aI z] st s := Ze_n (i := (.istore 8)) (len := 2) (by decide +kernel) rfl
theorem x49_314 : Ze d 49 314 [l0, l1, l2, l3, l4, l5, l6, l7, l8] st s = Ze d 49 390 [l0, l1, l2, l3, l4, l5, l6, l7, l8] st s := Ze_n (i := (.goto 76)) (len := 3) (by decide +kernel) rfl
theorem x49_317 : Ze d 49 317 [l0, l1, l2, l3, l4, l5, aI z, l7, l8] st s = Ze d 49 319 [l0, l1, l2, l3, l4, l5, aI z, l7, l8] (aI z :: st) s := Ze_n (i := (.iload 6)) (len := 2) (by decide +kernel) rfl
theorem x49_319 : Ze d 49 319 [aR r, l1, l2, l3, l4, l5, l6, l7, l8] st s = Ze d 49 320 [aR r, l1, l2, l3, l4, l5, l6, l7, l8] (aR r :: st) s := Ze_n (i := (.aload_n 0)) (len := 1) (by decide +kernel) rfl
theorem x49_320 (h : obC r = 0) : Ze d 49 320 [l0, l1, l2, l3, l4, l5, l6, l7, l8] (aR r :: st) s = Ze d 49 323 [l0, l1, l2, l3, l4, l5, l6, l7, l8] (aR (fcn r 26) :: st) s := Ze_gf (len := 3) (idx := 68) (by decide +kernel) rfl h rfl
theorem x49_323 : Ze d 49 323 [l0, l1, aI z, l3, l4, l5, l6, l7, l8] st s = Ze d 49 324 [l0, l1, aI z, l3, l4, l5, l6, l7, l8] (aI z :: st) s := Ze_n (i := (.iload_n 2)) (len := 1) (by decide +kernel) rfl
theorem x49_324 : Ze d 49 324 [aR r, l1, l2, l3, l4, l5, l6, l7, l8] st s = Ze d 49 325 [aR r, l1, l2, l3, l4, l5, l6, l7, l8] (aR r :: st) s := Ze_n (i := (.aload_n 0)) (len := 1) (by decide +kernel) rfl
theorem x49_325 (h : obC r = 0) : Ze d 49 325 [l0, l1, l2, l3, l4, l5, l6, l7, l8] (aR r :: st) s = Ze d 49 328 [l0, l1, l2, l3, l4, l5, l6, l7, l8] (aR (fcn r 23) :: st) s := Ze_gf (len := 3) (idx := 59) (by decide +kernel) rfl h rfl
theorem x49_328 : Ze d 49 328 [l0, l1, l2, l3, aI z, l5, l6, l7, l8] st s = Ze d 49 330 [l0, l1, l2, l3, aI z, l5, l6, l7, l8] (aI z :: st) s := Ze_n (i := (.iload 4)) (len := 2) (by decide +kernel) rfl
theorem x49_330 (h0 : 0 ≤ i) (h1 : i < aN1 r) : Ze d 49 330 [l0, l1, l2, l3, l4, l5, l6, l7, l8] (aI i :: aR r :: st) s = Ze d 49 331 [l0, l1, l2, l3, l4, l5, l6, l7, l8] (aI (s r i.toNat) :: st) s := Ze_n (i := .iaload) (len := 1) (by decide +kernel) (if_pos ⟨h0, h1⟩)
theorem x49_331 : Ze d 49 331 [l0, l1, l2, l3, l4, l5, l6, l7, l8] (aI b :: aI a :: st) s = Ze d 49 332 [l0, l1, l2, l3, l4, l5, l6, l7, l8] (aI (wrap (a + b)) :: st) s := Ze_n (i := .iadd) (len := 1) (by decide +kernel) rfl
theorem x49_332 (h0 : 0 ≤ i) (h1 : i < aN1 r) : Ze d 49 332 [l0, l1, l2, l3, l4, l5, l6, l7, l8] (aI i :: aR r :: st) s = Ze d 49 333 [l0, l1, l2, l3, l4, l5, l6, l7, l8] (aI (s r i.toNat) :: st) s := Ze_n (i := .iaload) (len := 1) (by decide +kernel) (if_pos ⟨h0, h1⟩)
theorem x49_333 : Ze d 49 333 [l0, l1, l2, l3, l4, l5, l6, l7, l8] (aI b :: aI a :: st) s = Ze d 49 334 [l0, l1, l2, l3, l4, l5, l6, l7, l8] (aI (ishl a b) :: st) s := Ze_n (i := .ishl) (len := 1) (by decide +kernel) rfl
theorem x49_334 : Ze d 49 334 [l0, l1, l2, l3, l4, l5, l6, aI z, l8] st s = Ze d 49 336 [l0, l1, l2, l3, l4, l5, l6, aI z, l8] (aI z :: st) s := Ze_n (i := (.iload 7)) (len := 2) (by decide +kernel) rfl
theorem x49_336 : Ze d 49 336 [l0, l1, l2, l3, l4, l5, l6, l7, l8] (aI b :: aI a :: st) s = Ze d 49 337 [l0, l1, l2, l3, l4, l5, l6, l7, l8] (aI (ior a b) :: st) s := Ze_n (i := .ior) (len := 1) (by decide +kernel) rfl
theorem x49_337 : Ze d 49 337 [l0, l1, l2, l3, l4, l5, l6, l7, l8] (aI z :: st) s = Ze d 49 339 [l0, l1, l2, l3, l4, l5, l6, l7, aI z] st s := Ze_n (i := (.istore 8)) (len := 2) (by decide +kernel) rfl
theorem x49_339 : Ze d 49 339 [l0, l1, l2, l3, l4, l5, l6, l7, l8] st s = Ze d 49 390 [l0, l1, l2, l3, l4, l5, l6, l7, l8] st s := Ze_n (i := (.goto 51)) (len := 3) (by decide +kernel) rfl
theorem x49_342 : Ze d 49 342 [l0, l1, l2, l3, l4, l5, aI z, l7, l8] st s = Ze d 49 344 [l0, l1, l2, l3, l4, l5, aI z, l7, l8] (aI z :: st) s := Ze_n (i := (.iload 6)) (len := 2) (by decide +kernel) rfl
theorem x49_344 : Ze d 49 344 [l0, l1, l2, l3, l4, l5, l6, l7, l8] st s = Ze d 49 345 [l0, l1, l2, l3, l4, l5, l6, l7, l8] (aI (-1) :: st) s := Ze_n (i := (.iconst (-1))) (len := 1) (by decide +kernel) rfl
theorem x49_345 : Ze d 49 345 [l0, l1, l2, l3, l4, l5, l6, l7, l8] (aI b :: aI a :: st) s = Ze d 49 346 [l0, l1, l2, l3, l4, l5, l6, l7, l8] (aI (ixor a b) :: st) s := Ze_n (i := .ixor) (len := 1) (by decide +kernel) rfl
theorem x49_346 : Ze d 49 346 [l0, l1, l2, l3, l4, l5, l6, l7, l8] (aI z :: st) s = Ze d 49 348 [l0, l1, l2, l3, l4, l5, l6, l7, aI z] st s := Ze_n (i := (.istore 8)) (len := 2) (by decide +kernel) rfl
theorem x49_348 : Ze d 49 348 [l0, l1, l2, l3, l4, l5, l6, l7, l8] st s = Ze d 49 390 [l0, l1, l2, l3, l4, l5, l6, l7, l8] st s := Ze_n (i := (.goto 42)) (len := 3) (by decide +kernel) rfl
theorem x49_351 : Ze d 49 351 [l0, l1, l2, l3, l4, l5, aI z, l7, l8] st s = Ze d 49 353 [l0, l1, l2, l3, l4, l5, aI z, l7, l8] (aI z :: st) s := Ze_n (i := (.iload 6)) (len := 2) (by decide +kernel) rfl
theorem x49_353 : Ze d 49 353 [l0, l1, l2, l3, l4, l5, l6, l7, l8] (aI a :: st) s = if a = 0 then Ze d 49 361 [l0, l1, l2, l3, l4, l5, l6, l7, l8] st s else Ze d 49 356 [l0, l1, l2, l3, l4, l5, l6, l7, l8] st s := Ze_b (i := (.ifCond .eq 8)) (len := 3) (by decide +kernel) rfl
theorem x49_356 : Ze d 49 356 [l0, l1, l2, l3, l4, l5, l6, aI z, l8] st s = Ze d 49 358 [l0, l1, l2, l3, l4, l5, l6, aI z, l8] (aI z :: st) s := Ze_n (i := (.iload 7)) (len := 2) (by decide +kernel) rfl
theorem x49_358 : Ze d 49 358 [l0, l1, l2, l3, l4, l5, l6, l7, l8] st s = Ze d 49 373 [l0, l1, l2, l3, l4, l5, l6, l7, l8] st s := Ze_n (i := (.goto 15)) (len := 3) (by decide +kernel) rfl
theorem x49_361 : Ze d 49 361 [aR r, l1, l2, l3, l4, l5, l6, l7, l8] st s = Ze d 49 362 [aR r, l1, l2, l3, l4, l5, l6, l7, l8] (aR r :: st) s := Ze_n (i := (.aload_n 0)) (len := 1) (by decide +kernel) rfl
theorem x49_362 (h : obC r = 0) : Ze d 49 362 [l0, l1, l2, l3, l4, l5, l6, l7, l8] (aR r :: st) s = Ze d 49 365 [l0, l1, l2, l3, l4, l5, l6, l7, l8] (aR (fcn r 29) :: st) s := Ze_gf (len := 3) (idx := 77) (by decide +kernel) rfl h rfl
theorem x49_365 : Ze d 49 365 [aR r, l1, l2, l3, l4, l5, l6, l7, l8] st s = Ze d 49 366 [aR r, l1, l2, l3, l4, l5, l6, l7, l8] (aR r :: st) s := Ze_n (i := (.aload_n 0)) (len := 1) (by decide +kernel) rfl
theorem x49_366 (h : obC r = 0) : Ze d 49 366 [l0, l1, l2, l3, l4, l5, l6, l7, l8] (aR r :: st) s = Ze d 49 369 [l0, l1, l2, l3, l4, l5, l6, l7, l8] (aR (fcn r 24) :: st) s := Ze_gf (len := 3) (idx := 62) (by decide +kernel) rfl h rfl
theorem x49_369 : Ze d 49 369 [l0, l1, l2, l3, aI z, l5, l6, l7, l8] st s = Ze d 49 371 [l0, l1, l2, l3, aI z, l5, l6, l7, l8] (aI z :: st) s := Ze_n (i := (.iload 4)) (len := 2) (by decide +kernel) rfl
theorem x49_371 (h0 : 0 ≤ i) (h1 : i < aN1 r) : Ze d 49 371 [l0, l1, l2, l3, l4, l5, l6, l7, l8] (aI i :: aR r :: st) s = Ze d 49 372 [l0, l1, l2, l3, l4, l5, l6, l7, l8] (aI (s r i.toNat) :: st) s := Ze_n (i := .iaload) (len := 1) (by decide +kernel) (if_pos ⟨h0, h1⟩)
theorem x49_372 (h0 : 0 ≤ i) (h1 : i < aN1 r) : Ze d 49 372 [l0, l1, l2, l3, l4, l5, l6, l7, l8] (aI i :: aR r :: st) s = Ze d 49 373 [l0, l1, l2, l3, l4, l5, l6, l7, l8] (aI (s r i.toNat) :: st) s := Ze_n (i := .iaload) (len := 1) (by decide +kernel) (if_pos ⟨h0, h1⟩)
theorem x49_373 : Ze d 49 373 [l0, l1, l2, l3, l4, l5, l6, l7, l8] (aI z :: st) s = Ze d 49 375 [l0, l1, l2, l3, l4, l5, l6, l7, aI z] st s := Ze_n (i := (.istore 8)) (len := 2) (by decide +kernel) rfl
theorem x49_375 : Ze d 49 375 [l0, l1, l2, l3, l4, l5, l6, l7, l8] st s = Ze d 49 390 [l0, l1, l2, l3, l4, l5, l6, l7, l8] st s := Ze_n (i := (.goto 15)) (len := 3) (by decide +kernel) rfl
theorem x49_378 : Ze d 49 378 [l0, l1, l2, l3, l4, l5, aI z, l7, l8] st s = Ze d 49 380 [l0, l1, l2, l3, l4, l5, aI z, l7, l8] (aI z :: st) s := Ze_n (i := (.iload 6)) (len := 2) (by decide +kernel) rfl
theorem x49_380 : Ze d 49 380 [aR r, l1, l2, l3, l4, l5, l6, l7, l8] st s = Ze d 49 381 [aR r, l1, l2, l3, l4, l5, l6, l7, l8] (aR r :: st) s := Ze_n (i := (.aload_n 0)) (len := 1) (by decide +kernel) rfl
theorem x49_381 (h : obC r = 0) : Ze d 49 381 [l0, l1, l2, l3, l4, l5, l6, l7, l8] (aR r :: st) s = Ze d 49 384 [l0, l1, l2, l3, l4, l5, l6, l7, l8] (aR (fcn r 20) :: st) s := Ze_gf (len := 3) (idx := 50) (by decide +kernel) rfl h rfl
theorem x49_384 : Ze d 49 384 [l0, l1, l2, l3, aI z, l5, l6, l7, l8] st s = Ze d 49 386 [l0, l1, l2, l3, aI z, l5, l6, l7, l8] (aI z :: st) s := Ze_n (i := (.iload 4)) (len := 2) (by decide +kernel) rfl
theorem x49_386 (h0 : 0 ≤ i) (h1 : i < aN1 r) : Ze d 49 386 [l0, l1, l2, l3, l4, l5, l6, l7, l8] (aI i :: aR r :: st) s = Ze d 49 387 [l0, l1, l2, l3, l4, l5, l6, l7, l8] (aI (s r i.toNat) :: st) s := Ze_n (i := .iaload) (len := 1) (by decide +kernel) (if_pos ⟨h0, h1⟩)
theorem x49_387 : Ze d 49 387 [l0, l1, l2, l3, l4, l5, l6, l7, l8] (aI b :: aI a :: st) s = Ze d 49 388 [l0, l1, l2, l3, l4, l5, l6, l7, l8] (aI (ishr a b) :: st) s := Ze_n (i := .ishr) (len := 1) (by decide +kernel) rfl
theorem x49_388 : Ze d 49 388 [l0, l1, l2, l3, l4, l5, l6, l7, l8] (aI z :: st) s = Ze d 49 390 [l0, l1, l2, l3, l4, l5, l6, l7, aI z] st s := Ze_n (i := (.istore 8)) (len := 2) (by decide +kernel) rfl
theorem x49_390 : Ze d 49 390 [aR r, l1, l2, l3, l4, l5, l6, l7, l8] st s = Ze d 49 391 [aR r, l1, l2, l3, l4, l5, l6, l7, l8] (aR r :: st) s := Ze_n (i := (.aload_n 0)) (len := 1) (by decide +kernel) rfl
theorem x49_391 (h : obC r = 0) : Ze d 49 391 [l0, l1, l2, l3, l4, l5, l6, l7, l8] (aR r :: st) s = Ze d 49 394 [l0, l1, l2, l3, l4, l5, l6, l7, l8] (aR (fcn r 29) :: st) s := Ze_gf (len := 3) (idx := 77) (by decide +kernel) rfl h rfl
theorem x49_394 : Ze d 49 394 [l0, l1, l2, aI z, l4, l5, l6, l7, l8] st s = Ze d 49 395 [l0, l1, l2, aI z, l4, l5, l6, l7, l8] (aI z :: st) s := Ze_n (i := (.iload_n 3)) (len := 1) (by decide +kernel) rfl
theorem x49_395 : Ze d 49 395 [l0, l1, l2, l3, l4, l5, l6, l7, aI z] st s = Ze d 49 397 [l0, l1, l2, l3, l4, l5, l6, l7, aI z] (aI z :: st) s := Ze_n (i := (.iload 8)) (len := 2) (by decide +kernel) rfl
theorem x49_397 : Ze d 49 397 [aR r, l1, l2, l3, l4, l5, l6, l7, l8] st s = Ze d 49 398 [aR r, l1, l2, l3, l4, l5, l6, l7, l8] (aR r :: st) s := Ze_n (i := (.aload_n 0)) (len := 1) (by decide +kernel) rfl
theorem x49_398 (h : obC r = 0) : Ze d 49 398 [l0, l1, l2, l3, l4, l5, l6, l7, l8] (aR r :: st) s = Ze d 49 401 [l0, l1, l2, l3, l4, l5, l6, l7, l8] (aR (fcn r 26) :: st) s := Ze_gf (len := 3) (idx := 68) (by decide +kernel) rfl h rfl
theorem x49_401 : Ze d 49 401 [l0, l1, l2, l3, aI z, l5, l6, l7, l8] st s = Ze d 49 403 [l0, l1, l2, l3, aI z, l5, l6, l7, l8] (aI z :: st) s := Ze_n (i := (.iload 4)) (len := 2) (by decide +kernel) rfl
theorem x49_403 (h0 : 0 ≤ i) (h1 : i < aN1 r) : Ze d 49 403 [l0, l1, l2, l3, l4, l5, l6, l7, l8] (aI i :: aR r :: st) s = Ze d 49 404 [l0, l1, l2, l3, l4, l5, l6, l7, l8] (aI (s r i.toNat) :: st) s := Ze_n (i := .iaload) (len := 1) (by decide +kernel) (if_pos ⟨h0, h1⟩)
theorem x49_404 (h6 : st.length ≤ 4) : Ze d 49 404 [l0, l1, l2, l3, l4, l5, l6, l7, l8] (aI a0 :: st) s = zcI (Zc d 48 [aI a0] s) d 49 407 [l0, l1, l2, l3, l4, l5, l6, l7, l8] st := Ze_csI (idx := 386) (len := 3) (as := [aI a0]) (by decide +kernel) rfl rfl (by decide +kernel) rfl h6
theorem x49_407 : Ze d 49 407 [l0, l1, l2, l3, l4, l5, l6, l7, l8] (aI b :: aI a :: st) s = Ze d 49 408 [l0, l1, l2, l3, l4, l5, l6, l7, l8] (aI (iand a b) :: st) s := Ze_n (i := .iand) (len := 1) (by decide +kernel) rfl
theorem x49_408 (h0 : 0 ≤ i) (h1 : i < aN1 r) : Ze d 49 408 [l0, l1, l2, l3, l4, l5, l6, l7, l8] (aI z :: aI i :: aR r :: st) s = Ze d 49 409 [l0, l1, l2, l3, l4, l5, l6, l7, l8] st (mu s r i.toNat z) := Ze_n (i := .iastore) (len := 1) (by decide +kernel) (if_pos ⟨h0, h1⟩)
theorem x49_409 : Ze d 49 409 [l0, l1, l2, aI z, l4, l5, l6, l7, l8] st s = Ze d 49 412 [l0, l1, l2, aI (wrap (z + (-1))), l4, l5, l6, l7, l8] st s := Ze_n (i := (.iinc 3 (-1))) (len := 3) (by decide +kernel) rfl
theorem x49_412 : Ze d 49 412 [l0, l1, l2, l3, l4, l5, l6, l7, l8] st s = Ze d 49 15 [l0, l1, l2, l3, l4, l5, l6, l7, l8] st s := Ze_n (i := (.goto (-397))) (len := 3) (by decide +kernel) rfl
theorem x49_415 : Ze d 49 415 [aR r, l1, l2, l3, l4, l5, l6, l7, l8] st s = Ze d 49 416 [aR r, l1, l2, l3, l4, l5, l6, l7, l8] (aR r :: st) s := Ze_n (i := (.aload_n 0)) (len := 1) (by decide +kernel) rfl
theorem x49_416 (h : obC r = 0) : Ze d 49 416 [l0, l1, l2, l3, l4, l5, l6, l7, l8] (aR r :: st) s = Ze d 49 419 [l0, l1, l2, l3, l4, l5, l6, l7, l8] (aR (fcn r 29) :: st) s := Ze_gf (len := 3) (idx := 77) (by decide +kernel) rfl h rfl
theorem x49_419 : Ze d 49 419 [l0, aI z, l2, l3, l4, l5, l6, l7, l8] st s = Ze d 49 420 [l0, aI z, l2, l3, l4, l5, l6, l7, l8] (aI z :: st) s := Ze_n (i := (.iload_n 1)) (len := 1) (by decide +kernel) rfl
theorem x49_420 (h0 : 0 ≤ i) (h1 : i < aN1 r) : Ze d 49 420 [l0, l1, l2, l3, l4, l5, l6, l7, l8] (aI i :: aR r :: st) s = Ze d 49 421 [l0, l1, l2, l3, l4, l5, l6, l7, l8] (aI (s r i.toNat) :: st) s := Ze_n (i := .iaload) (len := 1) (by decide +kernel) (if_pos ⟨h0, h1⟩)
theorem x49_421 : Ze d 49 421 [l0, l1, l2, l3, l4, l5, l6, l7, l8] [aI z] s = rI z s := Ze_i1 (by decide +kernel) rfl
theorem en49 : Zc (d + 1) 49 [aR r, aI a1] s = Ze d 49 0 [aR r, aI a1, aU, aU, aU, aU, aU, aU, aU] [] s := rfl
theorem x50_0 : Ze d 50 0 [l0, l1, l2, l3, l4, l5] st s = Ze d 50 1 [l0, l1, l2, l3, l4, l5] (aI 0 :: st) s := Ze_n (i := (.iconst 0)) (len := 1) (by decide +kernel) rfl
theorem x50_1 : Ze d 50 1 [l0, l1, l2, l3, l4, l5] (aI z :: st) s = Ze d 50 2 [l0, l1, aI z, l3, l4, l5] st s := Ze_n (i := (.istore_n 2)) (len := 1) (by decide +kernel) rfl
theorem x50_2 : Ze d 50 2 [aR r, l1, l2, l3, l4, l5] st s = Ze d 50 3 [aR r, l1, l2, l3, l4, l5] (aR r :: st) s := Ze_n (i := (.aload_n 0)) (len := 1) (by decide +kernel) rfl
theorem x50_3 (h : obC r = 0) : Ze d 50 3 [l0, l1, l2, l3, l4, l5] (aR r :: st) s = Ze d 50 6 [l0, l1, l2, l3, l4, l5] (aR (fcn r 60) :: st) s := Ze_gf (len := 3) (idx := 146) (by decide +kernel) rfl h rfl
theorem x50_6 : Ze d 50 6 [l0, aI z, l2, l3, l4, l5] st s = Ze d 50 7 [l0, aI z, l2, l3, l4, l5] (aI z :: st) s := Ze_n (i := (.iload_n 1)) (len := 1) (by decide +kernel) rfl
theorem x50_7 (h0 : 0 ≤ i) (h1 : i < aN1 r) : Ze d 50 7 [l0, l1, l2, l3, l4, l5] (aI i :: aR r :: st) s = Ze d 50 8 [l0, l1, l2, l3, l4, l5] (aI (s r i.toNat) :: st) s := Ze_n (i := .iaload) (len := 1) (by decide +kernel) (if_pos ⟨h0, h1⟩)
theorem x50_8 : Ze d 50 8 [l0, l1, l2, l3, l4, l5] (aI z :: st) s = Ze d 50 9 [l0, l1, l2, aI z, l4, l5] st s := Ze_n (i := (.istore_n 3)) (len := 1) (by decide +kernel) rfl
theorem x50_9 : Ze d 50 9 [l0, l1, l2, l3, l4, l5] st s = Ze d 50 10 [l0, l1, l2, l3, l4, l5] (aI 1 :: st) s := Ze_n (i := (.iconst 1)) (len := 1) (by decide +kernel) rfl
theorem x50_10 : Ze d 50 10 [l0, l1, l2, l3, l4, l5] (aI z :: st) s = Ze d 50 12 [l0, l1, l2, l3, aI z, l5] st s := Ze_n (i := (.istore 4)) (len := 2) (by decide +kernel) rfl
theorem x50_12 : Ze d 50 12 [l0, l1, l2, l3, l4, l5] st s = Ze d 50 15 [l0, l1, l2, l3, l4, l5] (aI 1100 :: st) s := Ze_n (i := (.sipush 1100)) (len := 3) (by decide +kernel) rfl
theorem x50_15 : Ze d 50 15 [l0, l1, l2, l3, l4, l5] (aI z :: st) s = Ze d 50 17 [l0, l1, l2, l3, l4, aI z] st s := Ze_n (i := (.istore 5)) (len := 2) (by decide +kernel) rfl
theorem x50_17 : Ze d 50 17 [l0, l1, l2, l3, l4, aI z] st s = Ze d 50 19 [l0, l1, l2, l3, l4, aI z] (aI z :: st) s := Ze_n (i := (.iload 5)) (len := 2) (by decide +kernel) rfl
theorem x50_19 : Ze d 50 19 [l0, l1, l2, l3, l4, l5] st s = Ze d 50 22 [l0, l1, l2, l3, l4, l5] (aI 1100 :: st) s := Ze_n (i := (.sipush 1100)) (len := 3) (by decide +kernel) rfl
theorem x50_22 : Ze d 50 22 [aR r, l1, l2, l3, l4, l5] st s = Ze d 50 23 [aR r, l1, l2, l3, l4, l5] (aR r :: st) s := Ze_n (i := (.aload_n 0)) (len := 1) (by decide +kernel) rfl
theorem x50_23 (h : obC r = 0) : Ze d 50 23 [l0, l1, l2, l3, l4, l5] (aR r :: st) s = Ze d 50 26 [l0, l1, l2, l3, l4, l5] (aI (s r 72) :: st) s := Ze_gf (len := 3) (idx := 350) (by decide +kernel) rfl h rfl
theorem x50_26 : Ze d 50 26 [l0, l1, l2, l3, l4, l5] (aI b :: aI a :: st) s = Ze d 50 27 [l0, l1, l2, l3, l4, l5] (aI (wrap (a + b)) :: st) s := Ze_n (i := .iadd) (len := 1) (by decide +kernel) rfl
theorem x50_27 : Ze d 50 27 [l0, l1, l2, l3, l4, l5] (aI b :: aI a :: st) s = if a < b then Ze d 50 30 [l0, l1, l2, l3, l4, l5] st s else Ze d 50 231 [l0, l1, l2, l3, l4, l5] st s := Ze_b (i := (.if_icmp .ge 204)) (len := 3) (by decide +kernel) rfl
theorem x50_30 : Ze d 50 30 [aR r, l1, l2, l3, l4, l5] st s = Ze d 50 31 [aR r, l1, l2, l3, l4, l5] (aR r :: st) s := Ze_n (i := (.aload_n 0)) (len := 1) (by decide +kernel) rfl
theorem x50_31 (h : obC r = 0) : Ze d 50 31 [l0, l1, l2, l3, l4, l5] (aR r :: st) s = Ze d 50 34 [l0, l1, l2, l3, l4, l5] (aR (fcn r 54) :: st) s := Ze_gf (len := 3) (idx := 134) (by decide +kernel) rfl h rfl
theorem x50_34 : Ze d 50 34 [l0, l1, l2, l3, l4, aI z] st s = Ze d 50 36 [l0, l1, l2, l3, l4, aI z] (aI z :: st) s := Ze_n (i := (.iload 5)) (len := 2) (by decide +kernel) rfl
theorem x50_36 (h0 : 0 ≤ i) (h1 : i < aN1 r) : Ze d 50 36 [l0, l1, l2, l3, l4, l5] (aI i :: aR r :: st) s = Ze d 50 37 [l0, l1, l2, l3, l4, l5] (aI (s r i.toNat) :: st) s := Ze_n (i := .iaload) (len := 1) (by decide +kernel) (if_pos ⟨h0, h1⟩)
theorem x50_37 : Ze d 50 37 [l0, l1, l2, l3, l4, l5] (aI a :: st) s = if a = 0 then Ze d 50 64 [l0, l1, l2, l3, l4, l5] st s else if a = 1 then Ze d 50 122 [l0, l1, l2, l3, l4, l5] st s else if a = 2 then Ze d 50 182 [l0, l1, l2, l3, l4, l5] st s else Ze d 50 214 [l0, l1, l2, l3, l4, l5] st s :=
  Ze_ts (dflt := 177) (lo := 0) (hi := 2) (offs := #[27, 85, 145]) (len := 27) (ks := [(0, 64), (1, 122), (2, 182)]) (df := 214) (by decide +kernel) (by decide +kernel) (by decide +kernel)
theorem x50_64 : Ze d 50 64 [l0, l1, l2, l3, aI z, l5] st s = Ze d 50 66 [l0, l1, l2, l3, aI z, l5] (aI z :: st) s := Ze_n (i := (.iload 4)) (len := 2) (by decide +kernel) rfl
theorem x50_66 : Ze d 50 66 [l0, l1, l2, l3, l4, l5] (aI a :: st) s = if a = 0 then Ze d 50 225 [l0, l1, l2, l3, l4, l5] st s else Ze d 50 69 [l0, l1, l2, l3, l4, l5] st s := Ze_b (i := (.ifCond .eq 159)) (len := 3) (by decide +kernel) rfl
theorem x50_69 : Ze d 50 69 [aR r, l1, l2, l3, l4, l5] st s = Ze d 50 70 [aR r, l1, l2, l3, l4, l5] (aR r :: st) s := Ze_n (i := (.aload_n 0)) (len := 1) (by decide +kernel) rfl
theorem x50_70 (h : obC r = 0) : Ze d 50 70 [l0, l1, l2, l3, l4, l5] (aR r :: st) s = Ze d 50 73 [l0, l1, l2, l3, l4, l5] (aR (fcn r 55) :: st) s := Ze_gf (len := 3) (idx := 137) (by decide +kernel) rfl h rfl
theorem x50_73 : Ze d 50 73 [l0, l1, l2, l3, l4, aI z] st s = Ze d 50 75 [l0, l1, l2, l3, l4, aI z] (aI z :: st) s := Ze_n (i := (.iload 5)) (len := 2) (by decide +kernel) rfl
theorem x50_75 (h0 : 0 ≤ i) (h1 : i < aN1 r) : Ze d 50 75 [l0, l1, l2, l3, l4, l5] (aI i :: aR r :: st) s = Ze d 50 76 [l0, l1, l2, l3, l4, l5] (aI (s r i.toNat) :: st) s := Ze_n (i := .iaload) (len := 1) (by decide +kernel) (if_pos ⟨h0, h1⟩)
theorem x50_76 : Ze d 50 76 [l0, aI z, l2, l3, l4, l5] st s = Ze d 50 77 [l0, aI z, l2, l3, l4, l5] (aI z :: st) s := Ze_n (i := (.iload_n 1)) (len := 1) (by decide +kernel) rfl
theorem x50_77 : Ze d 50 77 [l0, l1, l2, l3, l4, l5] (aI b :: aI a :: st) s = if a = b then Ze d 50 80 [l0, l1, l2, l3, l4, l5] st s else Ze d 50 225 [l0, l1, l2, l3, l4, l5] st s := Ze_b (i := (.if_icmp .ne 148)) (len := 3) (by decide +kernel) rfl
theorem x50_80 : Ze d 50 80 [aR r, l1, l2, l3, l4, l5] st s = Ze d 50 81 [aR r, l1, l2, l3, l4, l5] (aR r :: st) s := Ze_n (i := (.aload_n 0)) (len := 1) (by decide +kernel) rfl
theorem x50_81 (h : obC r = 0) : Ze d 50 81 [l0, l1, l2, l3, l4, l5] (aR r :: st) s = Ze d 50 84 [l0, l1, l2, l3, l4, l5] (aR (fcn r 56) :: st) s := Ze_gf (len := 3) (idx := 140) (by decide +kernel) rfl h rfl
theorem x50_84 : Ze d 50 84 [l0, l1, l2, l3, l4, aI z] st s = Ze d 50 86 [l0, l1, l2, l3, l4, aI z] (aI z :: st) s := Ze_n (i := (.iload 5)) (len := 2) (by decide +kernel) rfl
theorem x50_86 (h0 : 0 ≤ i) (h1 : i < aN1 r) : Ze d 50 86 [l0, l1, l2, l3, l4, l5] (aI i :: aR r :: st) s = Ze d 50 87 [l0, l1, l2, l3, l4, l5] (aI (s r i.toNat) :: st) s := Ze_n (i := .iaload) (len := 1) (by decide +kernel) (if_pos ⟨h0, h1⟩)
theorem x50_87 : Ze d 50 87 [l0, l1, l2, l3, l4, l5] (aI a :: st) s = if a < 0 then Ze d 50 90 [l0, l1, l2, l3, l4, l5] st s else Ze d 50 107 [l0, l1, l2, l3, l4, l5] st s := Ze_b (i := (.ifCond .ge 20)) (len := 3) (by decide +kernel) rfl
theorem x50_90 : Ze d 50 90 [aR r, l1, l2, l3, l4, l5] st s = Ze d 50 91 [aR r, l1, l2, l3, l4, l5] (aR r :: st) s := Ze_n (i := (.aload_n 0)) (len := 1) (by decide +kernel) rfl
theorem x50_91 (h : obC r = 0) : Ze d 50 91 [l0, l1, l2, l3, l4, l5] (aR r :: st) s = Ze d 50 94 [l0, l1, l2, l3, l4, l5] (aR (fcn r 59) :: st) s := Ze_gf (len := 3) (idx := 143) (by decide +kernel) rfl h rfl
theorem x50_94 : Ze d 50 94 [l0, l1, l2, l3, l4, l5] st s = Ze d 50 95 [l0, l1, l2, l3, l4, l5] (aI (-1) :: st) s := Ze_n (i := (.iconst (-1))) (len := 1) (by decide +kernel) rfl
theorem x50_95 : Ze d 50 95 [aR r, l1, l2, l3, l4, l5] st s = Ze d 50 96 [aR r, l1, l2, l3, l4, l5] (aR r :: st) s := Ze_n (i := (.aload_n 0)) (len := 1) (by decide +kernel) rfl
theorem x50_96 (h : obC r = 0) : Ze d 50 96 [l0, l1, l2, l3, l4, l5] (aR r :: st) s = Ze d 50 99 [l0, l1, l2, l3, l4, l5] (aR (fcn r 56) :: st) s := Ze_gf (len := 3) (idx := 140) (by decide +kernel) rfl h rfl
theorem x50_99 : Ze d 50 99 [l0, l1, l2, l3, l4, aI z] st s = Ze d 50 101 [l0, l1, l2, l3, l4, aI z] (aI z :: st) s := Ze_n (i := (.iload 5)) (len := 2) (by decide +kernel) rfl
theorem x50_101 (h0 : 0 ≤ i) (h1 : i < aN1 r) : Ze d 50 101 [l0, l1, l2, l3, l4, l5] (aI i :: aR r :: st) s = Ze d 50 102 [l0, l1, l2, l3, l4, l5] (aI (s r i.toNat) :: st) s := Ze_n (i := .iaload) (len := 1) (by decide +kernel) (if_pos ⟨h0, h1⟩)
theorem x50_102 : Ze d 50 102 [l0, l1, l2, l3, l4, l5] (aI b :: aI a :: st) s = Ze d 50 103 [l0, l1, l2, l3, l4, l5] (aI (wrap (a - b)) :: st) s := Ze_n (i := .isub) (len := 1) (by decide +kernel) rfl
theorem x50_103 (h0 : 0 ≤ i) (h1 : i < aN1 r) : Ze d 50 103 [l0, l1, l2, l3, l4, l5] (aI i :: aR r :: st) s = Ze d 50 104 [l0, l1, l2, l3, l4, l5] (aI (s r i.toNat) :: st) s := Ze_n (i := .iaload) (len := 1) (by decide +kernel) (if_pos ⟨h0, h1⟩)
theorem x50_104 : Ze d 50 104 [l0, l1, l2, l3, l4, l5] st s = Ze d 50 118 [l0, l1, l2, l3, l4, l5] st s := Ze_n (i := (.goto 14)) (len := 3) (by decide +kernel) rfl
theorem x50_107 : Ze d 50 107 [aR r, l1, l2, l3, l4, l5] st s = Ze d 50 108 [aR r, l1, l2, l3, l4, l5] (aR r :: st) s := Ze_n (i := (.aload_n 0)) (len := 1) (by decide +kernel) rfl
theorem x50_108 : Ze d 50 108 [aR r, l1, l2, l3, l4, l5] st s = Ze d 50 109 [aR r, l1, l2, l3, l4, l5] (aR r :: st) s := Ze_n (i := (.aload_n 0)) (len := 1) (by decide +kernel) rfl
theorem x50_109 (h : obC r = 0) : Ze d 50 109 [l0, l1, l2, l3, l4, l5] (aR r :: st) s = Ze d 50 112 [l0, l1, l2, l3, l4, l5] (aR (fcn r 56) :: st) s := Ze_gf (len := 3) (idx := 140) (by decide +kernel) rfl h rfl
theorem x50_112 : Ze d 50 112 [l0, l1, l2, l3, l4, aI z] st s = Ze d 50 114 [l0, l1, l2, l3, l4, aI z] (aI z :: st) s := Ze_n (i := (.iload 5)) (len := 2) (by decide +kernel) rfl
theorem x50_114 (h0 : 0 ≤ i) (h1 : i < aN1 r) : Ze d 50 114 [l0, l1, l2, l3, l4, l5] (aI i :: aR r :: st) s = Ze d 50 115 [l0, l1, l2, l3, l4, l5] (aI (s r i.toNat) :: st) s := Ze_n (i := .iaload) (len := 1) (by decide +kernel) (if_pos ⟨h0, h1⟩)
theorem x50_115 (h : obC r = 0) (h6 : st.length ≤ 4) : Ze d 50 115 [l0, l1, l2, l3, l4, l5] (aI a1 :: aR r :: st) s = zcI (Zc d 49 [aR r, aI a1] s) d 50 118 [l0, l1, l2, l3, l4, l5] st := Ze_cvI (idx := 389) (len := 3) (as := [aI a1]) (by decide +kernel) rfl (by decide +kernel) rfl h h6
theorem x50_118 : Ze d 50 118 [l0, l1, l2, l3, l4, l5] (aI z :: st) s = Ze d 50 119 [l0, l1, l2, aI z, l4, l5] st s := Ze_n (i := (.istore_n 3)) (len := 1) (by decide +kernel) rfl
theorem x50_119 : Ze d 50 119 [l0, l1, l2, l3, l4, l5] st s = Ze d 50 225 [l0, l1, l2, l3, l4, l5] st s := Ze_n (i := (.goto 106)) (len := 3) (by decide +kernel) rfl
theorem x50_122 : Ze d 50 122 [aR r, l1, l2, l3, l4, l5] st s = Ze d 50 123 [aR r, l1, l2, l3, l4, l5] (aR r :: st) s := Ze_n (i := (.aload_n 0)) (len := 1) (by decide +kernel) rfl
theorem x50_123 (h : obC r = 0) : Ze d 50 123 [l0, l1, l2, l3, l4, l5] (aR r :: st) s = Ze d 50 126 [l0, l1, l2, l3, l4, l5] (aR (fcn r 66) :: st) s := Ze_gf (len := 3) (idx := 165) (by decide +kernel) rfl h rfl
theorem x50_126 : Ze d 50 126 [l0, l1, aI z, l3, l4, l5] st s = Ze d 50 127 [l0, l1, aI z, l3, l4, l5] (aI z :: st) s := Ze_n (i := (.iload_n 2)) (len := 1) (by decide +kernel) rfl
theorem x50_127 : Ze d 50 127 [l0, l1, l2, l3, aI z, l5] st s = Ze d 50 129 [l0, l1, l2, l3, aI z, l5] (aI z :: st) s := Ze_n (i := (.iload 4)) (len := 2) (by decide +kernel) rfl
theorem x50_129 (h0 : 0 ≤ i) (h1 : i < aN2 r) (h2 : z = 0 ∨ z = 1) : Ze d 50 129 [l0, l1, l2, l3, l4, l5] (aI z :: aI i :: aR r :: st) s = Ze d 50 130 [l0, l1, l2, l3, l4, l5] st (mu s r i.toNat z) := Ze_n (i := .bastore) (len := 1) (by decide +kernel) (if_pos ⟨h0, h1, h2⟩)
theorem x50_130 : Ze d 50 130 [aR r, l1, l2, l3, l4, l5] st s = Ze d 50 131 [aR r, l1, l2, l3, l4, l5] (aR r :: st) s := Ze_n (i := (.aload_n 0)) (len := 1) (by decide +kernel) rfl
theorem x50_131 (h : obC r = 0) : Ze d 50 131 [l0, l1, l2, l3, l4, l5] (aR r :: st) s = Ze d 50 134 [l0, l1, l2, l3, l4, l5] (aR (fcn r 65) :: st) s := Ze_gf (len := 3) (idx := 162) (by decide +kernel) rfl h rfl
theorem x50_134 : Ze d 50 134 [l0, l1, aI z, l3, l4, l5] st s = Ze d 50 135 [l0, l1, aI z, l3, l4, l5] (aI z :: st) s := Ze_n (i := (.iload_n 2)) (len := 1) (by decide +kernel) rfl
theorem x50_135 : Ze d 50 135 [aR r, l1, l2, l3, l4, l5] st s = Ze d 50 136 [aR r, l1, l2, l3, l4, l5] (aR r :: st) s := Ze_n (i := (.aload_n 0)) (len := 1) (by decide +kernel) rfl
theorem x50_136 : Ze d 50 136 [aR r, l1, l2, l3, l4, l5] st s = Ze d 50 137 [aR r, l1, l2, l3, l4, l5] (aR r :: st) s := Ze_n (i := (.aload_n 0)) (len := 1) (by decide +kernel) rfl
theorem x50_137 (h : obC r = 0) : Ze d 50 137 [l0, l1, l2, l3, l4, l5] (aR r :: st) s = Ze d 50 140 [l0, l1, l2, l3, l4, l5] (aR (fcn r 56) :: st) s := Ze_gf (len := 3) (idx := 140) (by decide +kernel) rfl h rfl
theorem x50_140 : Ze d 50 140 [l0, l1, l2, l3, l4, aI z] st s = Ze d 50 142 [l0, l1, l2, l3, l4, aI z] (aI z :: st) s := Ze_n (i := (.iload 5)) (len := 2) (by decide +kernel) rfl
theorem x50_142 (h0 : 0 ≤ i) (h1 : i < aN1 r) : Ze d 50 142 [l0, l1, l2, l3, l4, l5] (aI i :: aR r :: st) s = Ze d 50 143 [l0, l1, l2, l3, l4, l5] (aI (s r i.toNat) :: st) s := Ze_n (i := .iaload) (len := 1) (by decide +kernel) (if_pos ⟨h0, h1⟩)
theorem x50_143 (h : obC r = 0) (h6 : st.length ≤ 4) : Ze d 50 143 [l0, l1, l2, l3, l4, l5] (aI a1 :: aR r :: st) s = zcI (Zc d 49 [aR r, aI a1] s) d 50 146 [l0, l1, l2, l3, l4, l5] st := Ze_cvI (idx := 389) (len := 3) (as := [aI a1]) (by decide +kernel) rfl (by decide +kernel) rfl h h6
theorem x50_146 : Ze d 50 146 [l0, l1, l2, l3, l4, l5] (aI a :: st) s = if a = 0 then Ze d 50 153 [l0, l1, l2, l3, l4, l5] st s else Ze d 50 149 [l0, l1, l2, l3, l4, l5] st s := Ze_b (i := (.ifCond .eq 7)) (len := 3) (by decide +kernel) rfl
theorem x50_149 : Ze d 50 149 [l0, l1, l2, l3, l4, l5] st s = Ze d 50 150 [l0, l1, l2, l3, l4, l5] (aI 1 :: st) s := Ze_n (i := (.iconst 1)) (len := 1) (by decide +kernel) rfl
theorem x50_150 : Ze d 50 150 [l0, l1, l2, l3, l4, l5] st s = Ze d 50 154 [l0, l1, l2, l3, l4, l5] st s := Ze_n (i := (.goto 4)) (len := 3) (by decide +kernel) rfl
theorem x50_153 : Ze d 50 153 [l0, l1, l2, l3, l4, l5] st s = Ze d 50 154 [l0, l1, l2, l3, l4, l5] (aI 0 :: st) s := Ze_n (i := (.iconst 0)) (len := 1) (by decide +kernel) rfl
theorem x50_154 (h0 : 0 ≤ i) (h1 : i < aN2 r) (h2 : z = 0 ∨ z = 1) : Ze d 50 154 [l0, l1, l2, l3, l4, l5] (aI z :: aI i :: aR r :: st) s = Ze d 50 155 [l0, l1, l2, l3, l4, l5] st (mu s r i.toNat z) := Ze_n (i := .bastore) (len := 1) (by decide +kernel) (if_pos ⟨h0, h1, h2⟩)
theorem x50_155 : Ze d 50 155 [l0, l1, l2, l3, aI z, l5] st s = Ze d 50 157 [l0, l1, l2, l3, aI z, l5] (aI z :: st) s := Ze_n (i := (.iload 4)) (len := 2) (by decide +kernel) rfl
theorem x50_157 : Ze d 50 157 [l0, l1, l2, l3, l4, l5] (aI a :: st) s = if a = 0 then Ze d 50 173 [l0, l1, l2, l3, l4, l5] st s else Ze d 50 160 [l0, l1, l2, l3, l4, l5] st s := Ze_b (i := (.ifCond .eq 16)) (len := 3) (by decide +kernel) rfl
theorem x50_160 : Ze d 50 160 [aR r, l1, l2, l3, l4, l5] st s = Ze d 50 161 [aR r, l1, l2, l3, l4, l5] (aR r :: st) s := Ze_n (i := (.aload_n 0)) (len := 1) (by decide +kernel) rfl
theorem x50_161 (h : obC r = 0) : Ze d 50 161 [l0, l1, l2, l3, l4, l5] (aR r :: st) s = Ze d 50 164 [l0, l1, l2, l3, l4, l5] (aR (fcn r 65) :: st) s := Ze_gf (len := 3) (idx := 162) (by decide +kernel) rfl h rfl
theorem x50_164 : Ze d 50 164 [l0, l1, aI z, l3, l4, l5] st s = Ze d 50 165 [l0, l1, aI z, l3, l4, l5] (aI z :: st) s := Ze_n (i := (.iload_n 2)) (len := 1) (by decide +kernel) rfl
theorem x50_165 (h0 : 0 ≤ i) (h1 : i < aN2 r) : Ze d 50 165 [l0, l1, l2, l3, l4, l5] (aI i :: aR r :: st) s = Ze d 50 166 [l0, l1, l2, l3, l4, l5] (aI (s r i.toNat) :: st) s := Ze_n (i := .baload) (len := 1) (by decide +kernel) (if_pos ⟨h0, h1⟩)
theorem x50_166 : Ze d 50 166 [l0, l1, l2, l3, l4, l5] (aI a :: st) s = if a = 0 then Ze d 50 173 [l0, l1, l2, l3, l4, l5] st s else Ze d 50 169 [l0, l1, l2, l3, l4, l5] st s := Ze_b (i := (.ifCond .eq 7)) (len := 3) (by decide +kernel) rfl
theorem x50_169 : Ze d 50 169 [l0, l1, l2, l3, l4, l5] st s = Ze d 50 170 [l0, l1, l2, l3, l4, l5] (aI 1 :: st) s := Ze_n (i := (.iconst 1)) (len := 1) (by decide +kernel) rfl
theorem x50_170 : Ze d 50 170 [l0, l1, l2, l3, l4, l5] st s = Ze d 50 174 [l0, l1, l2, l3, l4, l5] st s := Ze_n (i := (.goto 4)) (len := 3) (by decide +kernel) rfl
theorem x50_173 : Ze d 50 173 [l0, l1, l2, l3, l4, l5] st s = Ze d 50 174 [l0, l1, l2, l3, l4, l5] (aI 0 :: st) s := Ze_n (i := (.iconst 0)) (len := 1) (by decide +kernel) rfl
theorem x50_174 : Ze d 50 174 [l0, l1, l2, l3, l4, l5] (aI z :: st) s = Ze d 50 176 [l0, l1, l2, l3, aI z, l5] st s := Ze_n (i := (.istore 4)) (len := 2) (by decide +kernel) rfl
theorem x50_176 : Ze d 50 176 [l0, l1, aI z, l3, l4, l5] st s = Ze d 50 179 [l0, l1, aI (wrap (z + 1)), l3, l4, l5] st s := Ze_n (i := (.iinc 2 1)) (len := 3) (by decide +kernel) rfl
theorem x50_179 : Ze d 50 179 [l0, l1, l2, l3, l4, l5] st s = Ze d 50 225 [l0, l1, l2, l3, l4, l5] st s := Ze_n (i := (.goto 46)) (len := 3) (by decide +kernel) rfl
theorem x50_182 : Ze d 50 182 [aR r, l1, l2, l3, l4, l5] st s = Ze d 50 183 [aR r, l1, l2, l3, l4, l5] (aR r :: st) s := Ze_n (i := (.aload_n 0)) (len := 1) (by decide +kernel) rfl
theorem x50_183 (h : obC r = 0) : Ze d 50 183 [l0, l1, l2, l3, l4, l5] (aR r :: st) s = Ze d 50 186 [l0, l1, l2, l3, l4, l5] (aR (fcn r 66) :: st) s := Ze_gf (len := 3) (idx := 165) (by decide +kernel) rfl h rfl
theorem x50_186 : Ze d 50 186 [l0, l1, aI z, l3, l4, l5] st s = Ze d 50 187 [l0, l1, aI z, l3, l4, l5] (aI z :: st) s := Ze_n (i := (.iload_n 2)) (len := 1) (by decide +kernel) rfl
theorem x50_187 : Ze d 50 187 [l0, l1, l2, l3, l4, l5] st s = Ze d 50 188 [l0, l1, l2, l3, l4, l5] (aI 1 :: st) s := Ze_n (i := (.iconst 1)) (len := 1) (by decide +kernel) rfl
theorem x50_188 : Ze d 50 188 [l0, l1, l2, l3, l4, l5] (aI b :: aI a :: st) s = Ze d 50 189 [l0, l1, l2, l3, l4, l5] (aI (wrap (a - b)) :: st) s := Ze_n (i := .isub) (len := 1) (by decide +kernel) rfl
theorem x50_189 (h0 : 0 ≤ i) (h1 : i < aN2 r) : Ze d 50 189 [l0, l1, l2, l3, l4, l5] (aI i :: aR r :: st) s = Ze d 50 190 [l0, l1, l2, l3, l4, l5] (aI (s r i.toNat) :: st) s := Ze_n (i := .baload) (len := 1) (by decide +kernel) (if_pos ⟨h0, h1⟩)
theorem x50_190 : Ze d 50 190 [l0, l1, l2, l3, l4, l5] (aI a :: st) s = if a = 0 then Ze d 50 208 [l0, l1, l2, l3, l4, l5] st s else Ze d 50 193 [l0, l1, l2, l3, l4, l5] st s := Ze_b (i := (.ifCond .eq 18)) (len := 3) (by decide +kernel) rfl
theorem x50_193 : Ze d 50 193 [aR r, l1, l2, l3, l4, l5] st s = Ze d 50 194 [aR r, l1, l2, l3, l4, l5] (aR r :: st) s := Ze_n (i := (.aload_n 0)) (len := 1) (by decide +kernel) rfl
theorem x50_194 (h : obC r = 0) : Ze d 50 194 [l0, l1, l2, l3, l4, l5] (aR r :: st) s = Ze d 50 197 [l0, l1, l2, l3, l4, l5] (aR (fcn r 65) :: st) s := Ze_gf (len := 3) (idx := 162) (by decide +kernel) rfl h rfl
theorem x50_197 : Ze d 50 197 [l0, l1, aI z, l3, l4, l5] st s = Ze d 50 198 [l0, l1, aI z, l3, l4, l5] (aI z :: st) s := Ze_n (i := (.iload_n 2)) (len := 1) (by decide +kernel) rfl
theorem x50_198 : Ze d 50 198 [l0, l1, l2, l3, l4, l5] st s = Ze d 50 199 [l0, l1, l2, l3, l4, l5] (aI 1 :: st) s := Ze_n (i := (.iconst 1)) (len := 1) (by decide +kernel) rfl
theorem x50_199 : Ze d 50 199 [l0, l1, l2, l3, l4, l5] (aI b :: aI a :: st) s = Ze d 50 200 [l0, l1, l2, l3, l4, l5] (aI (wrap (a - b)) :: st) s := Ze_n (i := .isub) (len := 1) (by decide +kernel) rfl
theorem x50_200 (h0 : 0 ≤ i) (h1 : i < aN2 r) : Ze d 50 200 [l0, l1, l2, l3, l4, l5] (aI i :: aR r :: st) s = Ze d 50 201 [l0, l1, l2, l3, l4, l5] (aI (s r i.toNat) :: st) s := Ze_n (i := .baload) (len := 1) (by decide +kernel) (if_pos ⟨h0, h1⟩)
theorem x50_201 : Ze d 50 201 [l0, l1, l2, l3, l4, l5] (aI a :: st) s = if a = 0 then Ze d 50 204 [l0, l1, l2, l3, l4, l5] st s else Ze d 50 208 [l0, l1, l2, l3, l4, l5] st s := Ze_b (i := (.ifCond .ne 7)) (len := 3) (by decide +kernel) rfl
theorem x50_204 : Ze d 50 204 [l0, l1, l2, l3, l4, l5] st s = Ze d 50 205 [l0, l1, l2, l3, l4, l5] (aI 1 :: st) s := Ze_n (i := (.iconst 1)) (len := 1) (by decide +kernel) rfl
theorem x50_205 : Ze d 50 205 [l0, l1, l2, l3, l4, l5] st s = Ze d 50 209 [l0, l1, l2, l3, l4, l5] st s := Ze_n (i := (.goto 4)) (len := 3) (by decide +kernel) rfl
theorem x50_208 : Ze d 50 208 [l0, l1, l2, l3, l4, l5] st s = Ze d 50 209 [l0, l1, l2, l3, l4, l5] (aI 0 :: st) s := Ze_n (i := (.iconst 0)) (len := 1) (by decide +kernel) rfl
theorem x50_209 : Ze d 50 209 [l0, l1, l2, l3, l4, l5] (aI z :: st) s = Ze d 50 211 [l0, l1, l2, l3, aI z, l5] st s := Ze_n (i := (.istore 4)) (len := 2) (by decide +kernel) rfl
theorem x50_211 : Ze d 50 211 [l0, l1, l2, l3, l4, l5] st s = Ze d 50 225 [l0, l1, l2, l3, l4, l5] st s := Ze_n (i := (.goto 14)) (len := 3) (by decide +kernel) rfl
theorem x50_214 : Ze d 50 214 [l0, l1, aI z, l3, l4, l5] st s = Ze d 50 217 [l0, l1, aI (wrap (z + (-1))), l3, l4, l5] st s := Ze_n (i := (.iinc 2 (-1))) (len := 3) (by decide +kernel) rfl
theorem x50_217 : Ze d 50 217 [aR r, l1, l2, l3, l4, l5] st s = Ze d 50 218 [aR r, l1, l2, l3, l4, l5] (aR r :: st) s := Ze_n (i := (.aload_n 0)) (len := 1) (by decide +kernel) rfl
theorem x50_218 (h : obC r = 0) : Ze d 50 218 [l0, l1, l2, l3, l4, l5] (aR r :: st) s = Ze d 50 221 [l0, l1, l2, l3, l4, l5] (aR (fcn r 66) :: st) s := Ze_gf (len := 3) (idx := 165) (by decide +kernel) rfl h rfl
theorem x50_221 : Ze d 50 221 [l0, l1, aI z, l3, l4, l5] st s = Ze d 50 222 [l0, l1, aI z, l3, l4, l5] (aI z :: st) s := Ze_n (i := (.iload_n 2)) (len := 1) (by decide +kernel) rfl
theorem x50_222 (h0 : 0 ≤ i) (h1 : i < aN2 r) : Ze d 50 222 [l0, l1, l2, l3, l4, l5] (aI i :: aR r :: st) s = Ze d 50 223 [l0, l1, l2, l3, l4, l5] (aI (s r i.toNat) :: st) s := Ze_n (i := .baload) (len := 1) (by decide +kernel) (if_pos ⟨h0, h1⟩)
theorem x50_223 : Ze d 50 223 [l0, l1, l2, l3, l4, l5] (aI z :: st) s = Ze d 50 225 [l0, l1, l2, l3, aI z, l5] st s := Ze_n (i := (.istore 4)) (len := 2) (by decide +kernel) rfl
theorem x50_225 : Ze d 50 225 [l0, l1, l2, l3, l4, aI z] st s = Ze d 50 228 [l0, l1, l2, l3, l4, aI (wrap (z + 1))] st s := Ze_n (i := (.iinc 5 1)) (len := 3) (by decide +kernel) rfl
theorem x50_228 : Ze d 50 228 [l0, l1, l2, l3, l4, l5] st s = Ze d 50 17 [l0, l1, l2, l3, l4, l5] st s := Ze_n (i := (.goto (-211))) (len := 3) (by decide +kernel) rfl
theorem x50_231 : Ze d 50 231 [l0, l1, l2, aI z, l4, l5] st s = Ze d 50 232 [l0, l1, l2, aI z, l4, l5] (aI z :: st) s := Ze_n (i := (.iload_n 3)) (len := 1) (by decide +kernel) rfl
theorem x50_232 : Ze d 50 232 [aR r, l1, l2, l3, l4, l5] st s = Ze d 50 233 [aR r, l1, l2, l3, l4, l5] (aR r :: st) s := Ze_n (i := (.aload_n 0)) (len := 1) (by decide +kernel) rfl
theorem x50_233 (h : obC r = 0) : Ze d 50 233 [l0, l1, l2, l3, l4, l5] (aR r :: st) s = Ze d 50 236 [l0, l1, l2, l3, l4, l5] (aR (fcn r 47) :: st) s := Ze_gf (len := 3) (idx := 125) (by decide +kernel) rfl h rfl
theorem x50_236 : Ze d 50 236 [l0, l1, l2, l3, l4, l5] st s = Ze d 50 238 [l0, l1, l2, l3, l4, l5] (aI 24 :: st) s := Ze_n (i := (.bipush 24)) (len := 2) (by decide +kernel) rfl
theorem x50_238 : Ze d 50 238 [l0, aI z, l2, l3, l4, l5] st s = Ze d 50 239 [l0, aI z, l2, l3, l4, l5] (aI z :: st) s := Ze_n (i := (.iload_n 1)) (len := 1) (by decide +kernel) rfl
theorem x50_239 : Ze d 50 239 [l0, l1, l2, l3, l4, l5] (aI b :: aI a :: st) s = Ze d 50 240 [l0, l1, l2, l3, l4, l5] (aI (wrap (a + b)) :: st) s := Ze_n (i := .iadd) (len := 1) (by decide +kernel) rfl
theorem x50_240 (h0 : 0 ≤ i) (h1 : i < aN1 r) : Ze d 50 240 [l0, l1, l2, l3, l4, l5] (aI i :: aR r :: st) s = Ze d 50 241 [l0, l1, l2, l3, l4, l5] (aI (s r i.toNat) :: st) s := Ze_n (i := .iaload) (len := 1) (by decide +kernel) (if_pos ⟨h0, h1⟩)
theorem x50_241 (h6 : st.length ≤ 4) : Ze d 50 241 [l0, l1, l2, l3, l4, l5] (aI a0 :: st) s = zcI (Zc d 48 [aI a0] s) d 50 244 [l0, l1, l2, l3, l4, l5] st := Ze_csI (idx := 386) (len := 3) (as := [aI a0]) (by decide +kernel) rfl rfl (by decide +kernel) rfl h6
theorem x50_244 : Ze d 50 244 [l0, l1, l2, l3, l4, l5] (aI b :: aI a :: st) s = Ze d 50 245 [l0, l1, l2, l3, l4, l5] (aI (iand a b) :: st) s := Ze_n (i := .iand) (len := 1) (by decide +kernel) rfl
theorem x50_245 : Ze d 50 245 [l0, l1, l2, l3, l4, l5] [aI z] s = rI z s := Ze_i1 (by decide +kernel) rfl
theorem en50 : Zc (d + 1) 50 [aR r, aI a1] s = Ze d 50 0 [aR r, aI a1, aU, aU, aU, aU] [] s := rfl
theorem x51_0 : Ze d 51 0 [l0, l1, l2, l3, l4] st s = Ze d 51 1 [l0, l1, l2, l3, l4] (aI 0 :: st) s := Ze_n (i := (.iconst 0)) (len := 1) (by decide +kernel) rfl
theorem x51_1 : Ze d 51 1 [l0, l1, l2, l3, l4] (aI z :: st) s = Ze d 51 2 [l0, aI z, l2, l3, l4] st s := Ze_n (i := (.istore_n 1)) (len := 1) (by decide +kernel) rfl
theorem x51_2 : Ze d 51 2 [l0, l1, l2, l3, l4] st s = Ze d 51 3 [l0, l1, l2, l3, l4] (aI 0 :: st) s := Ze_n (i := (.iconst 0)) (len := 1) (by decide +kernel) rfl
theorem x51_3 : Ze d 51 3 [l0, l1, l2, l3, l4] (aI z :: st) s = Ze d 51 4 [l0, l1, aI z, l3, l4] st s := Ze_n (i := (.istore_n 2)) (len := 1) (by decide +kernel) rfl
theorem x51_4 : Ze d 51 4 [l0, l1, aI z, l3, l4] st s = Ze d 51 5 [l0, l1, aI z, l3, l4] (aI z :: st) s := Ze_n (i := (.iload_n 2)) (len := 1) (by decide +kernel) rfl
theorem x51_5 : Ze d 51 5 [aR r, l1, l2, l3, l4] st s = Ze d 51 6 [aR r, l1, l2, l3, l4] (aR r :: st) s := Ze_n (i := (.aload_n 0)) (len := 1) (by decide +kernel) rfl
theorem x51_6 (h : obC r = 0) : Ze d 51 6 [l0, l1, l2, l3, l4] (aR r :: st) s = Ze d 51 9 [l0, l1, l2, l3, l4] (aI (s r 71) :: st) s := Ze_gf (len := 3) (idx := 347) (by decide +kernel) rfl h rfl
theorem x51_9 : Ze d 51 9 [l0, l1, l2, l3, l4] (aI b :: aI a :: st) s = if a < b then Ze d 51 12 [l0, l1, l2, l3, l4] st s else Ze d 51 88 [l0, l1, l2, l3, l4] st s := Ze_b (i := (.if_icmp .ge 79)) (len := 3) (by decide +kernel) rfl
theorem x51_12 : Ze d 51 12 [aR r, l1, l2, l3, l4] st s = Ze d 51 13 [aR r, l1, l2, l3, l4] (aR r :: st) s := Ze_n (i := (.aload_n 0)) (len := 1) (by decide +kernel) rfl
theorem x51_13 (h : obC r = 0) : Ze d 51 13 [l0, l1, l2, l3, l4] (aR r :: st) s = Ze d 51 16 [l0, l1, l2, l3, l4] (aR (fcn r 44) :: st) s := Ze_gf (len := 3) (idx := 116) (by decide +kernel) rfl h rfl
theorem x51_16 : Ze d 51 16 [l0, l1, l2, l3, l4] st s = Ze d 51 18 [l0, l1, l2, l3, l4] (aI 24 :: st) s := Ze_n (i := (.bipush 24)) (len := 2) (by decide +kernel) rfl
theorem x51_18 : Ze d 51 18 [l0, l1, aI z, l3, l4] st s = Ze d 51 19 [l0, l1, aI z, l3, l4] (aI z :: st) s := Ze_n (i := (.iload_n 2)) (len := 1) (by decide +kernel) rfl
theorem x51_19 : Ze d 51 19 [l0, l1, l2, l3, l4] (aI b :: aI a :: st) s = Ze d 51 20 [l0, l1, l2, l3, l4] (aI (wrap (a + b)) :: st) s := Ze_n (i := .iadd) (len := 1) (by decide +kernel) rfl
theorem x51_20 (h0 : 0 ≤ i) (h1 : i < aN1 r) : Ze d 51 20 [l0, l1, l2, l3, l4] (aI i :: aR r :: st) s = Ze d 51 21 [l0, l1, l2, l3, l4] (aI (s r i.toNat) :: st) s := Ze_n (i := .iaload) (len := 1) (by decide +kernel) (if_pos ⟨h0, h1⟩)
theorem x51_21 : Ze d 51 21 [l0, l1, l2, l3, l4] (aI z :: st) s = Ze d 51 22 [l0, l1, l2, aI z, l4] st s := Ze_n (i := (.istore_n 3)) (len := 1) (by decide +kernel) rfl
theorem x51_22 : Ze d 51 22 [aR r, l1, l2, l3, l4] st s = Ze d 51 23 [aR r, l1, l2, l3, l4] (aR r :: st) s := Ze_n (i := (.aload_n 0)) (len := 1) (by decide +kernel) rfl
theorem x51_23 (h : obC r = 0) : Ze d 51 23 [l0, l1, l2, l3, l4] (aR r :: st) s = Ze d 51 26 [l0, l1, l2, l3, l4] (aR (fcn r 64) :: st) s := Ze_gf (len := 3) (idx := 158) (by decide +kernel) rfl h rfl
theorem x51_26 : Ze d 51 26 [l0, l1, aI z, l3, l4] st s = Ze d 51 27 [l0, l1, aI z, l3, l4] (aI z :: st) s := Ze_n (i := (.iload_n 2)) (len := 1) (by decide +kernel) rfl
theorem x51_27 : Ze d 51 27 [l0, l1, l2, aI z, l4] st s = Ze d 51 28 [l0, l1, l2, aI z, l4] (aI z :: st) s := Ze_n (i := (.iload_n 3)) (len := 1) (by decide +kernel) rfl
theorem x51_28 : Ze d 51 28 [l0, l1, l2, l3, l4] st s = Ze d 51 29 [l0, l1, l2, l3, l4] (aI 3 :: st) s := Ze_n (i := (.iconst 3)) (len := 1) (by decide +kernel) rfl
theorem x51_29 : Ze d 51 29 [l0, l1, l2, l3, l4] (aI b :: aI a :: st) s = if a = b then Ze d 51 49 [l0, l1, l2, l3, l4] st s else Ze d 51 32 [l0, l1, l2, l3, l4] st s := Ze_b (i := (.if_icmp .eq 20)) (len := 3) (by decide +kernel) rfl
theorem x51_32 : Ze d 51 32 [l0, l1, l2, aI z, l4] st s = Ze d 51 33 [l0, l1, l2, aI z, l4] (aI z :: st) s := Ze_n (i := (.iload_n 3)) (len := 1) (by decide +kernel) rfl
theorem x51_33 : Ze d 51 33 [l0, l1, l2, l3, l4] st s = Ze d 51 34 [l0, l1, l2, l3, l4] (aI 4 :: st) s := Ze_n (i := (.iconst 4)) (len := 1) (by decide +kernel) rfl
theorem x51_34 : Ze d 51 34 [l0, l1, l2, l3, l4] (aI b :: aI a :: st) s = if a = b then Ze d 51 53 [l0, l1, l2, l3, l4] st s else Ze d 51 37 [l0, l1, l2, l3, l4] st s := Ze_b (i := (.if_icmp .eq 19)) (len := 3) (by decide +kernel) rfl
theorem x51_37 : Ze d 51 37 [aR r, l1, l2, l3, l4] st s = Ze d 51 38 [aR r, l1, l2, l3, l4] (aR r :: st) s := Ze_n (i := (.aload_n 0)) (len := 1) (by decide +kernel) rfl
theorem x51_38 (h : obC r = 0) : Ze d 51 38 [l0, l1, l2, l3, l4] (aR r :: st) s = Ze d 51 41 [l0, l1, l2, l3, l4] (aR (fcn r 46) :: st) s := Ze_gf (len := 3) (idx := 122) (by decide +kernel) rfl h rfl
theorem x51_41 : Ze d 51 41 [l0, l1, l2, l3, l4] st s = Ze d 51 43 [l0, l1, l2, l3, l4] (aI 24 :: st) s := Ze_n (i := (.bipush 24)) (len := 2) (by decide +kernel) rfl
theorem x51_43 : Ze d 51 43 [l0, l1, aI z, l3, l4] st s = Ze d 51 44 [l0, l1, aI z, l3, l4] (aI z :: st) s := Ze_n (i := (.iload_n 2)) (len := 1) (by decide +kernel) rfl
theorem x51_44 : Ze d 51 44 [l0, l1, l2, l3, l4] (aI b :: aI a :: st) s = Ze d 51 45 [l0, l1, l2, l3, l4] (aI (wrap (a + b)) :: st) s := Ze_n (i := .iadd) (len := 1) (by decide +kernel) rfl
theorem x51_45 (h0 : 0 ≤ i) (h1 : i < aN1 r) : Ze d 51 45 [l0, l1, l2, l3, l4] (aI i :: aR r :: st) s = Ze d 51 46 [l0, l1, l2, l3, l4] (aI (s r i.toNat) :: st) s := Ze_n (i := .iaload) (len := 1) (by decide +kernel) (if_pos ⟨h0, h1⟩)
theorem x51_46 : Ze d 51 46 [l0, l1, l2, l3, l4] (aI a :: st) s = if a = 0 then Ze d 51 49 [l0, l1, l2, l3, l4] st s else Ze d 51 53 [l0, l1, l2, l3, l4] st s := Ze_b (i := (.ifCond .ne 7)) (len := 3) (by decide +kernel) rfl
theorem x51_49 : Ze d 51 49 [l0, l1, l2, l3, l4] st s = Ze d 51 50 [l0, l1, l2, l3, l4] (aI 1 :: st) s := Ze_n (i := (.iconst 1)) (len := 1) (by decide +kernel) rfl
theorem x51_50 : Ze d 51 50 [l0, l1, l2, l3, l4] st s = Ze d 51 54 [l0, l1, l2, l3, l4] st s := Ze_n (i := (.goto 4)) (len := 3) (by decide +kernel) rfl
theorem x51_53 : Ze d 51 53 [l0, l1, l2, l3, l4] st s = Ze d 51 54 [l0, l1, l2, l3, l4] (aI 0 :: st) s := Ze_n (i := (.iconst 0)) (len := 1) (by decide +kernel) rfl
theorem x51_54 (h0 : 0 ≤ i) (h1 : i < aN2 r) (h2 : z = 0 ∨ z = 1) : Ze d 51 54 [l0, l1, l2, l3, l4] (aI z :: aI i :: aR r :: st) s = Ze d 51 55 [l0, l1, l2, l3, l4] st (mu s r i.toNat z) := Ze_n (i := .bastore) (len := 1) (by decide +kernel) (if_pos ⟨h0, h1, h2⟩)
theorem x51_55 : Ze d 51 55 [aR r, l1, l2, l3, l4] st s = Ze d 51 56 [aR r, l1, l2, l3, l4] (aR r :: st) s := Ze_n (i := (.aload_n 0)) (len := 1) (by decide +kernel) rfl
theorem x51_56 (h : obC r = 0) : Ze d 51 56 [l0, l1, l2, l3, l4] (aR r :: st) s = Ze d 51 59 [l0, l1, l2, l3, l4] (aR (fcn r 64) :: st) s := Ze_gf (len := 3) (idx := 158) (by decide +kernel) rfl h rfl
theorem x51_59 : Ze d 51 59 [l0, l1, aI z, l3, l4] st s = Ze d 51 60 [l0, l1, aI z, l3, l4] (aI z :: st) s := Ze_n (i := (.iload_n 2)) (len := 1) (by decide +kernel) rfl
theorem x51_60 (h0 : 0 ≤ i) (h1 : i < aN2 r) : Ze d 51 60 [l0, l1, l2, l3, l4] (aI i :: aR r :: st) s = Ze d 51 61 [l0, l1, l2, l3, l4] (aI (s r i.toNat) :: st) s := Ze_n (i := .baload) (len := 1) (by decide +kernel) (if_pos ⟨h0, h1⟩)
theorem x51_61 : Ze d 51 61 [l0, l1, l2, l3, l4] (aI a :: st) s = if a = 0 then Ze d 51 79 [l0, l1, l2, l3, l4] st s else Ze d 51 64 [l0, l1, l2, l3, l4] st s := Ze_b (i := (.ifCond .eq 18)) (len := 3) (by decide +kernel) rfl
theorem x51_64 : Ze d 51 64 [aR r, l1, l2, l3, l4] st s = Ze d 51 65 [aR r, l1, l2, l3, l4] (aR r :: st) s := Ze_n (i := (.aload_n 0)) (len := 1) (by decide +kernel) rfl
theorem x51_65 (h : obC r = 0) : Ze d 51 65 [l0, l1, l2, l3, l4] (aR r :: st) s = Ze d 51 68 [l0, l1, l2, l3, l4] (aR (fcn r 59) :: st) s := Ze_gf (len := 3) (idx := 143) (by decide +kernel) rfl h rfl
theorem x51_68 : Ze d 51 68 [l0, l1, aI z, l3, l4] st s = Ze d 51 69 [l0, l1, aI z, l3, l4] (aI z :: st) s := Ze_n (i := (.iload_n 2)) (len := 1) (by decide +kernel) rfl
theorem x51_69 : Ze d 51 69 [aR r, l1, l2, l3, l4] st s = Ze d 51 70 [aR r, l1, l2, l3, l4] (aR r :: st) s := Ze_n (i := (.aload_n 0)) (len := 1) (by decide +kernel) rfl
theorem x51_70 (h : obC r = 0) : Ze d 51 70 [l0, l1, l2, l3, l4] (aR r :: st) s = Ze d 51 73 [l0, l1, l2, l3, l4] (aR (fcn r 60) :: st) s := Ze_gf (len := 3) (idx := 146) (by decide +kernel) rfl h rfl
theorem x51_73 : Ze d 51 73 [l0, l1, aI z, l3, l4] st s = Ze d 51 74 [l0, l1, aI z, l3, l4] (aI z :: st) s := Ze_n (i := (.iload_n 2)) (len := 1) (by decide +kernel) rfl
theorem x51_74 (h0 : 0 ≤ i) (h1 : i < aN1 r) : Ze d 51 74 [l0, l1, l2, l3, l4] (aI i :: aR r :: st) s = Ze d 51 75 [l0, l1, l2, l3, l4] (aI (s r i.toNat) :: st) s := Ze_n (i := .iaload) (len := 1) (by decide +kernel) (if_pos ⟨h0, h1⟩)
theorem x51_75 (h0 : 0 ≤ i) (h1 : i < aN1 r) : Ze d 51 75 [l0, l1, l2, l3, l4] (aI z :: aI i :: aR r :: st) s = Ze d 51 76 [l0, l1, l2, l3, l4] st (mu s r i.toNat z) := Ze_n (i := .iastore) (len := 1) (by decide +kernel) (if_pos ⟨h0, h1⟩)
theorem x51_76 : Ze d 51 76 [l0, l1, l2, l3, l4] st s = Ze d 51 82 [l0, l1, l2, l3, l4] st s := Ze_n (i := (.goto 6)) (len := 3) (by decide +kernel) rfl
theorem x51_79 : Ze d 51 79 [l0, aI z, l2, l3, l4] st s = Ze d 51 82 [l0, aI (wrap (z + 1)), l2, l3, l4] st s := Ze_n (i := (.iinc 1 1)) (len := 3) (by decide +kernel) rfl
theorem x51_82 : Ze d 51 82 [l0, l1, aI z, l3, l4] st s = Ze d 51 85 [l0, l1, aI (wrap (z + 1)), l3, l4] st s := Ze_n (i := (.iinc 2 1)) (len := 3) (by decide +kernel) rfl
theorem x51_85 : Ze d 51 85 [l0, l1, l2, l3, l4] st s = Ze d 51 4 [l0, l1, l2, l3, l4] st s := Ze_n (i := (.goto (-81))) (len := 3) (by decide +kernel) rfl
theorem x51_88 : Ze d 51 88 [l0, aI z, l2, l3, l4] st s = Ze d 51 89 [l0, aI z, l2, l3, l4] (aI z :: st) s := Ze_n (i := (.iload_n 1)) (len := 1) (by decide +kernel) rfl
theorem x51_89 : Ze d 51 89 [l0, l1, l2, l3, l4] (aI a :: st) s = if 0 < a then Ze d 51 92 [l0, l1, l2, l3, l4] st s else Ze d 51 235 [l0, l1, l2, l3, l4] st s := Ze_b (i := (.ifCond .le 146)) (len := 3) (by decide +kernel) rfl
theorem x51_92 : Ze d 51 92 [l0, l1, l2, l3, l4] st s = Ze d 51 93 [l0, l1, l2, l3, l4] (aI 0 :: st) s := Ze_n (i := (.iconst 0)) (len := 1) (by decide +kernel) rfl
theorem x51_93 : Ze d 51 93 [l0, l1, l2, l3, l4] (aI z :: st) s = Ze d 51 94 [l0, l1, aI z, l3, l4] st s := Ze_n (i := (.istore_n 2)) (len := 1) (by decide +kernel) rfl
theorem x51_94 : Ze d 51 94 [l0, l1, aI z, l3, l4] st s = Ze d 51 95 [l0, l1, aI z, l3, l4] (aI z :: st) s := Ze_n (i := (.iload_n 2)) (len := 1) (by decide +kernel) rfl
theorem x51_95 : Ze d 51 95 [aR r, l1, l2, l3, l4] st s = Ze d 51 96 [aR r, l1, l2, l3, l4] (aR r :: st) s := Ze_n (i := (.aload_n 0)) (len := 1) (by decide +kernel) rfl
theorem x51_96 (h : obC r = 0) : Ze d 51 96 [l0, l1, l2, l3, l4] (aR r :: st) s = Ze d 51 99 [l0, l1, l2, l3, l4] (aI (s r 71) :: st) s := Ze_gf (len := 3) (idx := 347) (by decide +kernel) rfl h rfl
theorem x51_99 : Ze d 51 99 [l0, l1, l2, l3, l4] (aI b :: aI a :: st) s = if a < b then Ze d 51 102 [l0, l1, l2, l3, l4] st s else Ze d 51 232 [l0, l1, l2, l3, l4] st s := Ze_b (i := (.if_icmp .ge 133)) (len := 3) (by decide +kernel) rfl
theorem x51_102 : Ze d 51 102 [aR r, l1, l2, l3, l4] st s = Ze d 51 103 [aR r, l1, l2, l3, l4] (aR r :: st) s := Ze_n (i := (.aload_n 0)) (len := 1) (by decide +kernel) rfl
theorem x51_103 (h : obC r = 0) : Ze d 51 103 [l0, l1, l2, l3, l4] (aR r :: st) s = Ze d 51 106 [l0, l1, l2, l3, l4] (aR (fcn r 64) :: st) s := Ze_gf (len := 3) (idx := 158) (by decide +kernel) rfl h rfl
theorem x51_106 : Ze d 51 106 [l0, l1, aI z, l3, l4] st s = Ze d 51 107 [l0, l1, aI z, l3, l4] (aI z :: st) s := Ze_n (i := (.iload_n 2)) (len := 1) (by decide +kernel) rfl
theorem x51_107 (h0 : 0 ≤ i) (h1 : i < aN2 r) : Ze d 51 107 [l0, l1, l2, l3, l4] (aI i :: aR r :: st) s = Ze d 51 108 [l0, l1, l2, l3, l4] (aI (s r i.toNat) :: st) s := Ze_n (i := .baload) (len := 1) (by decide +kernel) (if_pos ⟨h0, h1⟩)
theorem x51_108 : Ze d 51 108 [l0, l1, l2, l3, l4] (aI a :: st) s = if a = 0 then Ze d 51 111 [l0, l1, l2, l3, l4] st s else Ze d 51 115 [l0, l1, l2, l3, l4] st s := Ze_b (i := (.ifCond .ne 7)) (len := 3) (by decide +kernel) rfl
theorem x51_111 : Ze d 51 111 [l0, l1, l2, l3, l4] st s = Ze d 51 112 [l0, l1, l2, l3, l4] (aI 1 :: st) s := Ze_n (i := (.iconst 1)) (len := 1) (by decide +kernel) rfl
theorem x51_112 : Ze d 51 112 [l0, l1, l2, l3, l4] st s = Ze d 51 116 [l0, l1, l2, l3, l4] st s := Ze_n (i := (.goto 4)) (len := 3) (by decide +kernel) rfl
theorem x51_115 : Ze d 51 115 [l0, l1, l2, l3, l4] st s = Ze d 51 116 [l0, l1, l2, l3, l4] (aI 0 :: st) s := Ze_n (i := (.iconst 0)) (len := 1) (by decide +kernel) rfl
theorem x51_116 : Ze d 51 116 [l0, l1, l2, l3, l4] (aI z :: st) s = Ze d 51 117 [l0, l1, l2, aI z, l4] st s := Ze_n (i := (.istore_n 3)) (len := 1) (by decide +kernel) rfl
theorem x51_117 : Ze d 51 117 [l0, l1, l2, l3, l4] st s = Ze d 51 118 [l0, l1, l2, l3, l4] (aI 0 :: st) s := Ze_n (i := (.iconst 0)) (len := 1) (by decide +kernel) rfl
theorem x51_118 : Ze d 51 118 [l0, l1, l2, l3, l4] (aI z :: st) s = Ze d 51 120 [l0, l1, l2, l3, aI z] st s := Ze_n (i := (.istore 4)) (len := 2) (by decide +kernel) rfl
theorem x51_120 : Ze d 51 120 [l0, l1, l2, l3, aI z] st s = Ze d 51 122 [l0, l1, l2, l3, aI z] (aI z :: st) s := Ze_n (i := (.iload 4)) (len := 2) (by decide +kernel) rfl
theorem x51_122 : Ze d 51 122 [aR r, l1, l2, l3, l4] st s = Ze d 51 123 [aR r, l1, l2, l3, l4] (aR r :: st) s := Ze_n (i := (.aload_n 0)) (len := 1) (by decide +kernel) rfl
theorem x51_123 (h : obC r = 0) : Ze d 51 123 [l0, l1, l2, l3, l4] (aR r :: st) s = Ze d 51 126 [l0, l1, l2, l3, l4] (aI (s r 71) :: st) s := Ze_gf (len := 3) (idx := 347) (by decide +kernel) rfl h rfl
theorem x51_126 : Ze d 51 126 [l0, l1, l2, l3, l4] (aI b :: aI a :: st) s = if a < b then Ze d 51 129 [l0, l1, l2, l3, l4] st s else Ze d 51 169 [l0, l1, l2, l3, l4] st s := Ze_b (i := (.if_icmp .ge 43)) (len := 3) (by decide +kernel) rfl
theorem x51_129 : Ze d 51 129 [l0, l1, l2, aI z, l4] st s = Ze d 51 130 [l0, l1, l2, aI z, l4] (aI z :: st) s := Ze_n (i := (.iload_n 3)) (len := 1) (by decide +kernel) rfl
theorem x51_130 : Ze d 51 130 [l0, l1, l2, l3, l4] (aI a :: st) s = if a = 0 then Ze d 51 169 [l0, l1, l2, l3, l4] st s else Ze d 51 133 [l0, l1, l2, l3, l4] st s := Ze_b (i := (.ifCond .eq 39)) (len := 3) (by decide +kernel) rfl
theorem x51_133 : Ze d 51 133 [aR r, l1, l2, l3, l4] st s = Ze d 51 134 [aR r, l1, l2, l3, l4] (aR r :: st) s := Ze_n (i := (.aload_n 0)) (len := 1) (by decide +kernel) rfl
theorem x51_134 (h : obC r = 0) : Ze d 51 134 [l0, l1, l2, l3, l4] (aR r :: st) s = Ze d 51 137 [l0, l1, l2, l3, l4] (aR (fcn r 49) :: st) s := Ze_gf (len := 3) (idx := 131) (by decide +kernel) rfl h rfl
theorem x51_137 : Ze d 51 137 [l0, l1, l2, l3, l4] st s = Ze d 51 139 [l0, l1, l2, l3, l4] (aI 24 :: st) s := Ze_n (i := (.bipush 24)) (len := 2) (by decide +kernel) rfl
theorem x51_139 : Ze d 51 139 [l0, l1, aI z, l3, l4] st s = Ze d 51 140 [l0, l1, aI z, l3, l4] (aI z :: st) s := Ze_n (i := (.iload_n 2)) (len := 1) (by decide +kernel) rfl
theorem x51_140 : Ze d 51 140 [l0, l1, l2, l3, l4] (aI b :: aI a :: st) s = Ze d 51 141 [l0, l1, l2, l3, l4] (aI (wrap (a + b)) :: st) s := Ze_n (i := .iadd) (len := 1) (by decide +kernel) rfl
theorem x51_141 (h0 : 0 ≤ i) (h1 : i < aN1 r) : Ze d 51 141 [l0, l1, l2, l3, l4] (aI i :: aR r :: st) s = Ze d 51 142 [l0, l1, l2, l3, l4] (aI (s r i.toNat) :: st) s := Ze_n (i := .iaload) (len := 1) (by decide +kernel) (if_pos ⟨h0, h1⟩)
theorem x51_142 : Ze d 51 142 [l0, l1, l2, l3, aI z] st s = Ze d 51 144 [l0, l1, l2, l3, aI z] (aI z :: st) s := Ze_n (i := (.iload 4)) (len := 2) (by decide +kernel) rfl
theorem x51_144 : Ze d 51 144 [l0, l1, l2, l3, l4] (aI b :: aI a :: st) s = Ze d 51 145 [l0, l1, l2, l3, l4] (aI (ishr a b) :: st) s := Ze_n (i := .ishr) (len := 1) (by decide +kernel) rfl
theorem x51_145 : Ze d 51 145 [l0, l1, l2, l3, l4] st s = Ze d 51 146 [l0, l1, l2, l3, l4] (aI 1 :: st) s := Ze_n (i := (.iconst 1)) (len := 1) (by decide +kernel) rfl
theorem x51_146 : Ze d 51 146 [l0, l1, l2, l3, l4] (aI b :: aI a :: st) s = Ze d 51 147 [l0, l1, l2, l3, l4] (aI (iand a b) :: st) s := Ze_n (i := .iand) (len := 1) (by decide +kernel) rfl
theorem x51_147 : Ze d 51 147 [l0, l1, l2, l3, l4] st s = Ze d 51 148 [l0, l1, l2, l3, l4] (aI 1 :: st) s := Ze_n (i := (.iconst 1)) (len := 1) (by decide +kernel) rfl
theorem x51_148 : Ze d 51 148 [l0, l1, l2, l3, l4] (aI b :: aI a :: st) s = if a = b then Ze d 51 151 [l0, l1, l2, l3, l4] st s else Ze d 51 163 [l0, l1, l2, l3, l4] st s := Ze_b (i := (.if_icmp .ne 15)) (len := 3) (by decide +kernel) rfl
theorem x51_151 : Ze d 51 151 [aR r, l1, l2, l3, l4] st s = Ze d 51 152 [aR r, l1, l2, l3, l4] (aR r :: st) s := Ze_n (i := (.aload_n 0)) (len := 1) (by decide +kernel) rfl
theorem x51_152 (h : obC r = 0) : Ze d 51 152 [l0, l1, l2, l3, l4] (aR r :: st) s = Ze d 51 155 [l0, l1, l2, l3, l4] (aR (fcn r 64) :: st) s := Ze_gf (len := 3) (idx := 158) (by decide +kernel) rfl h rfl
theorem x51_155 : Ze d 51 155 [l0, l1, l2, l3, aI z] st s = Ze d 51 157 [l0, l1, l2, l3, aI z] (aI z :: st) s := Ze_n (i := (.iload 4)) (len := 2) (by decide +kernel) rfl
theorem x51_157 (h0 : 0 ≤ i) (h1 : i < aN2 r) : Ze d 51 157 [l0, l1, l2, l3, l4] (aI i :: aR r :: st) s = Ze d 51 158 [l0, l1, l2, l3, l4] (aI (s r i.toNat) :: st) s := Ze_n (i := .baload) (len := 1) (by decide +kernel) (if_pos ⟨h0, h1⟩)
theorem x51_158 : Ze d 51 158 [l0, l1, l2, l3, l4] (aI a :: st) s = if a = 0 then Ze d 51 161 [l0, l1, l2, l3, l4] st s else Ze d 51 163 [l0, l1, l2, l3, l4] st s := Ze_b (i := (.ifCond .ne 5)) (len := 3) (by decide +kernel) rfl
theorem x51_161 : Ze d 51 161 [l0, l1, l2, l3, l4] st s = Ze d 51 162 [l0, l1, l2, l3, l4] (aI 0 :: st) s := Ze_n (i := (.iconst 0)) (len := 1) (by decide +kernel) rfl
theorem x51_162 : Ze d 51 162 [l0, l1, l2, l3, l4] (aI z :: st) s = Ze d 51 163 [l0, l1, l2, aI z, l4] st s := Ze_n (i := (.istore_n 3)) (len := 1) (by decide +kernel) rfl
theorem x51_163 : Ze d 51 163 [l0, l1, l2, l3, aI z] st s = Ze d 51 166 [l0, l1, l2, l3, aI (wrap (z + 1))] st s := Ze_n (i := (.iinc 4 1)) (len := 3) (by decide +kernel) rfl
theorem x51_166 : Ze d 51 166 [l0, l1, l2, l3, l4] st s = Ze d 51 120 [l0, l1, l2, l3, l4] st s := Ze_n (i := (.goto (-46))) (len := 3) (by decide +kernel) rfl
theorem x51_169 : Ze d 51 169 [l0, l1, l2, aI z, l4] st s = Ze d 51 170 [l0, l1, l2, aI z, l4] (aI z :: st) s := Ze_n (i := (.iload_n 3)) (len := 1) (by decide +kernel) rfl
theorem x51_170 : Ze d 51 170 [l0, l1, l2, l3, l4] (aI a :: st) s = if a = 0 then Ze d 51 173 [l0, l1, l2, l3, l4] st s else Ze d 51 176 [l0, l1, l2, l3, l4] st s := Ze_b (i := (.ifCond .ne 6)) (len := 3) (by decide +kernel) rfl
theorem x51_173 : Ze d 51 173 [l0, l1, l2, l3, l4] st s = Ze d 51 226 [l0, l1, l2, l3, l4] st s := Ze_n (i := (.goto 53)) (len := 3) (by decide +kernel) rfl
theorem x51_176 : Ze d 51 176 [aR r, l1, l2, l3, l4] st s = Ze d 51 177 [aR r, l1, l2, l3, l4] (aR r :: st) s := Ze_n (i := (.aload_n 0)) (len := 1) (by decide +kernel) rfl
theorem x51_177 (h : obC r = 0) : Ze d 51 177 [l0, l1, l2, l3, l4] (aR r :: st) s = Ze d 51 180 [l0, l1, l2, l3, l4] (aR (fcn r 59) :: st) s := Ze_gf (len := 3) (idx := 143) (by decide +kernel) rfl h rfl
theorem x51_180 : Ze d 51 180 [l0, l1, aI z, l3, l4] st s = Ze d 51 181 [l0, l1, aI z, l3, l4] (aI z :: st) s := Ze_n (i := (.iload_n 2)) (len := 1) (by decide +kernel) rfl
theorem x51_181 : Ze d 51 181 [aR r, l1, l2, l3, l4] st s = Ze d 51 182 [aR r, l1, l2, l3, l4] (aR r :: st) s := Ze_n (i := (.aload_n 0)) (len := 1) (by decide +kernel) rfl
theorem x51_182 (h : obC r = 0) : Ze d 51 182 [l0, l1, l2, l3, l4] (aR r :: st) s = Ze d 51 185 [l0, l1, l2, l3, l4] (aR (fcn r 44) :: st) s := Ze_gf (len := 3) (idx := 116) (by decide +kernel) rfl h rfl
theorem x51_185 : Ze d 51 185 [l0, l1, l2, l3, l4] st s = Ze d 51 187 [l0, l1, l2, l3, l4] (aI 24 :: st) s := Ze_n (i := (.bipush 24)) (len := 2) (by decide +kernel) rfl
theorem x51_187 : Ze d 51 187 [l0, l1, aI z, l3, l4] st s = Ze d 51 188 [l0, l1, aI z, l3, l4] (aI z :: st) s := Ze_n (i := (.iload_n 2)) (len := 1) (by decide +kernel) rfl
theorem x51_188 : Ze d 51 188 [l0, l1, l2, l3, l4] (aI b :: aI a :: st) s = Ze d 51 189 [l0, l1, l2, l3, l4] (aI (wrap (a + b)) :: st) s := Ze_n (i := .iadd) (len := 1) (by decide +kernel) rfl
theorem x51_189 (h0 : 0 ≤ i) (h1 : i < aN1 r) : Ze d 51 189 [l0, l1, l2, l3, l4] (aI i :: aR r :: st) s = Ze d 51 190 [l0, l1, l2, l3, l4] (aI (s r i.toNat) :: st) s := Ze_n (i := .iaload) (len := 1) (by decide +kernel) (if_pos ⟨h0, h1⟩)
theorem x51_190 : Ze d 51 190 [l0, l1, l2, l3, l4] st s = Ze d 51 191 [l0, l1, l2, l3, l4] (aI 4 :: st) s := Ze_n (i := (.iconst 4)) (len := 1) (by decide +kernel) rfl
theorem x51_191 : Ze d 51 191 [l0, l1, l2, l3, l4] (aI b :: aI a :: st) s = if a = b then Ze d 51 194 [l0, l1, l2, l3, l4] st s else Ze d 51 210 [l0, l1, l2, l3, l4] st s := Ze_b (i := (.if_icmp .ne 19)) (len := 3) (by decide +kernel) rfl
theorem x51_194 : Ze d 51 194 [aR r, l1, l2, l3, l4] st s = Ze d 51 195 [aR r, l1, l2, l3, l4] (aR r :: st) s := Ze_n (i := (.aload_n 0)) (len := 1) (by decide +kernel) rfl
theorem x51_195 : Ze d 51 195 [aR r, l1, l2, l3, l4] st s = Ze d 51 196 [aR r, l1, l2, l3, l4] (aR r :: st) s := Ze_n (i := (.aload_n 0)) (len := 1) (by decide +kernel) rfl
theorem x51_196 (h : obC r = 0) : Ze d 51 196 [l0, l1, l2, l3, l4] (aR r :: st) s = Ze d 51 199 [l0, l1, l2, l3, l4] (aR (fcn r 48) :: st) s := Ze_gf (len := 3) (idx := 128) (by decide +kernel) rfl h rfl
theorem x51_199 : Ze d 51 199 [l0, l1, l2, l3, l4] st s = Ze d 51 201 [l0, l1, l2, l3, l4] (aI 24 :: st) s := Ze_n (i := (.bipush 24)) (len := 2) (by decide +kernel) rfl
theorem x51_201 : Ze d 51 201 [l0, l1, aI z, l3, l4] st s = Ze d 51 202 [l0, l1, aI z, l3, l4] (aI z :: st) s := Ze_n (i := (.iload_n 2)) (len := 1) (by decide +kernel) rfl
theorem x51_202 : Ze d 51 202 [l0, l1, l2, l3, l4] (aI b :: aI a :: st) s = Ze d 51 203 [l0, l1, l2, l3, l4] (aI (wrap (a + b)) :: st) s := Ze_n (i := .iadd) (len := 1) (by decide +kernel) rfl
theorem x51_203 (h0 : 0 ≤ i) (h1 : i < aN1 r) : Ze d 51 203 [l0, l1, l2, l3, l4] (aI i :: aR r :: st) s = Ze d 51 204 [l0, l1, l2, l3, l4] (aI (s r i.toNat) :: st) s := Ze_n (i := .iaload) (len := 1) (by decide +kernel) (if_pos ⟨h0, h1⟩)
theorem x51_204 (h : obC r = 0) (h6 : st.length ≤ 4) : Ze d 51 204 [l0, l1, l2, l3, l4] (aI a1 :: aR r :: st) s = zcI (Zc d 49 [aR r, aI a1] s) d 51 207 [l0, l1, l2, l3, l4] st := Ze_cvI (idx := 389) (len := 3) (as := [aI a1]) (by decide +kernel) rfl (by decide +kernel) rfl h h6
theorem x51_207 : Ze d 51 207 [l0, l1, l2, l3, l4] st s = Ze d 51 215 [l0, l1, l2, l3, l4] st s := Ze_n (i := (.goto 8)) (len := 3) (by decide +kernel) rfl
theorem x51_210 : Ze d 51 210 [aR r, l1, l2, l3, l4] st s = Ze d 51 211 [aR r, l1, l2, l3, l4] (aR r :: st) s := Ze_n (i := (.aload_n 0)) (len := 1) (by decide +kernel) rfl
theorem x51_211 : Ze d 51 211 [l0, l1, aI z, l3, l4] st s = Ze d 51 212 [l0, l1, aI z, l3, l4] (aI z :: st) s := Ze_n (i := (.iload_n 2)) (len := 1) (by decide +kernel) rfl
theorem x51_212 (h : obC r = 0) (h6 : st.length ≤ 4) : Ze d 51 212 [l0, l1, l2, l3, l4] (aI a1 :: aR r :: st) s = zcI (Zc d 50 [aR r, aI a1] s) d 51 215 [l0, l1, l2, l3, l4] st := Ze_cvI (idx := 392) (len := 3) (as := [aI a1]) (by decide +kernel) rfl (by decide +kernel) rfl h h6
theorem x51_215 (h0 : 0 ≤ i) (h1 : i < aN1 r) : Ze d 51 215 [l0, l1, l2, l3, l4] (aI z :: aI i :: aR r :: st) s = Ze d 51 216 [l0, l1, l2, l3, l4] st (mu s r i.toNat z) := Ze_n (i := .iastore) (len := 1) (by decide +kernel) (if_pos ⟨h0, h1⟩)
theorem x51_216 : Ze d 51 216 [aR r, l1, l2, l3, l4] st s = Ze d 51 217 [aR r, l1, l2, l3, l4] (aR r :: st) s := Ze_n (i := (.aload_n 0)) (len := 1) (by decide +kernel) rfl
theorem x51_217 (h : obC r = 0) : Ze d 51 217 [l0, l1, l2, l3, l4] (aR r :: st) s = Ze d 51 220 [l0, l1, l2, l3, l4] (aR (fcn r 64) :: st) s := Ze_gf (len := 3) (idx := 158) (by decide +kernel) rfl h rfl
theorem x51_220 : Ze d 51 220 [l0, l1, aI z, l3, l4] st s = Ze d 51 221 [l0, l1, aI z, l3, l4] (aI z :: st) s := Ze_n (i := (.iload_n 2)) (len := 1) (by decide +kernel) rfl
theorem x51_221 : Ze d 51 221 [l0, l1, l2, l3, l4] st s = Ze d 51 222 [l0, l1, l2, l3, l4] (aI 1 :: st) s := Ze_n (i := (.iconst 1)) (len := 1) (by decide +kernel) rfl
theorem x51_222 (h0 : 0 ≤ i) (h1 : i < aN2 r) (h2 : z = 0 ∨ z = 1) : Ze d 51 222 [l0, l1, l2, l3, l4] (aI z :: aI i :: aR r :: st) s = Ze d 51 223 [l0, l1, l2, l3, l4] st (mu s r i.toNat z) := Ze_n (i := .bastore) (len := 1) (by decide +kernel) (if_pos ⟨h0, h1, h2⟩)
theorem x51_223 : Ze d 51 223 [l0, aI z, l2, l3, l4] st s = Ze d 51 226 [l0, aI (wrap (z + (-1))), l2, l3, l4] st s := Ze_n (i := (.iinc 1 (-1))) (len := 3) (by decide +kernel) rfl
theorem x51_226 : Ze d 51 226 [l0, l1, aI z, l3, l4] st s = Ze d 51 229 [l0, l1, aI (wrap (z + 1)), l3, l4] st s := Ze_n (i := (.iinc 2 1)) (len := 3) (by decide +kernel) rfl
theorem x51_229 : Ze d 51 229 [l0, l1, l2, l3, l4] st s = Ze d 51 94 [l0, l1, l2, l3, l4] st s := Ze_n (i := (.goto (-135))) (len := 3) (by decide +kernel) rfl
theorem x51_232 : Ze d 51 232 [l0, l1, l2, l3, l4] st s = Ze d 51 88 [l0, l1, l2, l3, l4] st s := Ze_n (i := (.goto (-144))) (len := 3) (by decide +kernel) rfl
theorem x51_235 : Ze d 51 235 [l0, l1, l2, l3, l4] [] s = rV s := Ze_v (by decide +kernel) rfl
theorem en51 : Zc (d + 1) 51 [aR r] s = Ze d 51 0 [aR r, aU, aU, aU, aU] [] s := rfl
theorem x52_0 : Ze d 52 0 [l0, l1, aI z, l3] st s = Ze d 52 1 [l0, l1, aI z, l3] (aI z :: st) s := Ze_n (i := (.iload_n 2)) (len := 1) (by decide +kernel) rfl
theorem x52_1 : Ze d 52 1 [l0, l1, l2, l3] st s = Ze d 52 2 [l0, l1, l2, l3] (aI 0 :: st) s := Ze_n (i := (.iconst 0)) (len := 1) (by decide +kernel) rfl
theorem x52_2 : Ze d 52 2 [l0, l1, l2, l3] st s = Ze d 52 3 [l0, l1, l2, l3] (aI 3 :: st) s := Ze_n (i := (.iconst 3)) (len := 1) (by decide +kernel) rfl
theorem x52_3 (h6 : st.length ≤ 4) : Ze d 52 3 [l0, l1, l2, l3] (aI a2 :: aI a1 :: aI a0 :: st) s = zcI (Zc d 1 [aI a0, aI a1, aI a2] s) d 52 6 [l0, l1, l2, l3] st := Ze_csI (idx := 183) (len := 3) (as := [aI a0, aI a1, aI a2]) (by decide +kernel) rfl rfl (by decide +kernel) rfl h6
theorem x52_6 : Ze d 52 6 [l0, l1, l2, l3] (aI a :: st) s = if a = 0 then Ze d 52 9 [l0, l1, l2, l3] st s else Ze d 52 15 [l0, l1, l2, l3] st s := Ze_b (i := (.ifCond .ne 9)) (len := 3) (by decide +kernel) rfl
theorem x52_9 : Ze d 52 9 [aR r, l1, l2, l3] st s = Ze d 52 10 [aR r, l1, l2, l3] (aR r :: st) s := Ze_n (i := (.aload_n 0)) (len := 1) (by decide +kernel) rfl
theorem x52_10 : Ze d 52 10 [l0, l1, l2, l3] st s = Ze d 52 11 [l0, l1, l2, l3] (aI 1 :: st) s := Ze_n (i := (.iconst 1)) (len := 1) (by decide +kernel) rfl
theorem x52_11 (h : obC r = 0) (h6 : st.length ≤ 4) : Ze d 52 11 [l0, l1, l2, l3] (aI a1 :: aR r :: st) s = zcI (Zc d 2 [aR r, aI a1] s) d 52 14 [l0, l1, l2, l3] st := Ze_cvI (idx := 187) (len := 3) (as := [aI a1]) (by decide +kernel) rfl (by decide +kernel) rfl h h6
theorem x52_14 : Ze d 52 14 [l0, l1, l2, l3] [aI z] s = rI z s := Ze_i1 (by decide +kernel) rfl
theorem x52_15 : Ze d 52 15 [l0, aI z, l2, l3] st s = Ze d 52 16 [l0, aI z, l2, l3] (aI z :: st) s := Ze_n (i := (.iload_n 1)) (len := 1) (by decide +kernel) rfl
theorem x52_16 : Ze d 52 16 [l0, l1, l2, l3] st s = Ze d 52 17 [l0, l1, l2, l3] (aI 0 :: st) s := Ze_n (i := (.iconst 0)) (len := 1) (by decide +kernel) rfl
theorem x52_17 : Ze d 52 17 [aR r, l1, l2, l3] st s = Ze d 52 18 [aR r, l1, l2, l3] (aR r :: st) s := Ze_n (i := (.aload_n 0)) (len := 1) (by decide +kernel) rfl
theorem x52_18 (h : obC r = 0) : Ze d 52 18 [l0, l1, l2, l3] (aR r :: st) s = Ze d 52 21 [l0, l1, l2, l3] (aI (s r 71) :: st) s := Ze_gf (len := 3) (idx := 347) (by decide +kernel) rfl h rfl
theorem x52_21 : Ze d 52 21 [l0, l1, l2, l3] st s = Ze d 52 22 [l0, l1, l2, l3] (aI 1 :: st) s := Ze_n (i := (.iconst 1)) (len := 1) (by decide +kernel) rfl
theorem x52_22 : Ze d 52 22 [l0, l1, l2, l3] (aI b :: aI a :: st) s = Ze d 52 23 [l0, l1, l2, l3] (aI (wrap (a - b)) :: st) s := Ze_n (i := .isub) (len := 1) (by decide +kernel) rfl
theorem x52_23 (h6 : st.length ≤ 4) : Ze d 52 23 [l0, l1, l2, l3] (aI a2 :: aI a1 :: aI a0 :: st) s = zcI (Zc d 1 [aI a0, aI a1, aI a2] s) d 52 26 [l0, l1, l2, l3] st := Ze_csI (idx := 183) (len := 3) (as := [aI a0, aI a1, aI a2]) (by decide +kernel) rfl rfl (by decide +kernel) rfl h6
theorem x52_26 : Ze d 52 26 [l0, l1, l2, l3] (aI a :: st) s = if a = 0 then Ze d 52 29 [l0, l1, l2, l3] st s else Ze d 52 35 [l0, l1, l2, l3] st s := Ze_b (i := (.ifCond .ne 9)) (len := 3) (by decide +kernel) rfl
theorem x52_29 : Ze d 52 29 [aR r, l1, l2, l3] st s = Ze d 52 30 [aR r, l1, l2, l3] (aR r :: st) s := Ze_n (i := (.aload_n 0)) (len := 1) (by decide +kernel) rfl
theorem x52_30 : Ze d 52 30 [l0, l1, l2, l3] st s = Ze d 52 31 [l0, l1, l2, l3] (aI 2 :: st) s := Ze_n (i := (.iconst 2)) (len := 1) (by decide +kernel) rfl
theorem x52_31 (h : obC r = 0) (h6 : st.length ≤ 4) : Ze d 52 31 [l0, l1, l2, l3] (aI a1 :: aR r :: st) s = zcI (Zc d 2 [aR r, aI a1] s) d 52 34 [l0, l1, l2, l3] st := Ze_cvI (idx := 187) (len := 3) (as := [aI a1]) (by decide +kernel) rfl (by decide +kernel) rfl h h6
theorem x52_34 : Ze d 52 34 [l0, l1, l2, l3] [aI z] s = rI z s := Ze_i1 (by decide +kernel) rfl
theorem x52_35 : Ze d 52 35 [aR r, l1, l2, l3] st s = Ze d 52 36 [aR r, l1, l2, l3] (aR r :: st) s := Ze_n (i := (.aload_n 0)) (len := 1) (by decide +kernel) rfl
theorem x52_36 : Ze d 52 36 [l0, l1, l2, l3] st s = Ze d 52 37 [l0, l1, l2, l3] (aI 0 :: st) s := Ze_n (i := (.iconst 0)) (len := 1) (by decide +kernel) rfl
theorem x52_37 (h : obC r = 0) : Ze d 52 37 [l0, l1, l2, l3] (aI z :: aR r :: st) s = Ze d 52 40 [l0, l1, l2, l3] st (mu s r 4 z) := Ze_n (i := .putfield 180) (len := 3) (by decide +kernel) (if_pos h)
theorem x52_40 : Ze d 52 40 [l0, l1, l2, l3] st s = Ze d 52 42 [l0, l1, l2, l3] (aI 24 :: st) s := Ze_n (i := (.bipush 24)) (len := 2) (by decide +kernel) rfl
theorem x52_42 : Ze d 52 42 [l0, aI z, l2, l3] st s = Ze d 52 43 [l0, aI z, l2, l3] (aI z :: st) s := Ze_n (i := (.iload_n 1)) (len := 1) (by decide +kernel) rfl
theorem x52_43 : Ze d 52 43 [l0, l1, l2, l3] (aI b :: aI a :: st) s = Ze d 52 44 [l0, l1, l2, l3] (aI (wrap (a + b)) :: st) s := Ze_n (i := .iadd) (len := 1) (by decide +kernel) rfl
theorem x52_44 : Ze d 52 44 [l0, l1, l2, l3] (aI z :: st) s = Ze d 52 45 [l0, l1, l2, aI z] st s := Ze_n (i := (.istore_n 3)) (len := 1) (by decide +kernel) rfl
theorem x52_45 : Ze d 52 45 [l0, l1, aI z, l3] st s = Ze d 52 46 [l0, l1, aI z, l3] (aI z :: st) s := Ze_n (i := (.iload_n 2)) (len := 1) (by decide +kernel) rfl
theorem x52_46 : Ze d 52 46 [l0, l1, l2, l3] (aI a :: st) s = if a = 0 then Ze d 52 49 [l0, l1, l2, l3] st s else Ze d 52 58 [l0, l1, l2, l3] st s := Ze_b (i := (.ifCond .ne 12)) (len := 3) (by decide +kernel) rfl
theorem x52_49 : Ze d 52 49 [aR r, l1, l2, l3] st s = Ze d 52 50 [aR r, l1, l2, l3] (aR r :: st) s := Ze_n (i := (.aload_n 0)) (len := 1) (by decide +kernel) rfl
theorem x52_50 (h : obC r = 0) : Ze d 52 50 [l0, l1, l2, l3] (aR r :: st) s = Ze d 52 53 [l0, l1, l2, l3] (aR (fcn r 44) :: st) s := Ze_gf (len := 3) (idx := 116) (by decide +kernel) rfl h rfl
theorem x52_53 : Ze d 52 53 [l0, l1, l2, aI z] st s = Ze d 52 54 [l0, l1, l2, aI z] (aI z :: st) s := Ze_n (i := (.iload_n 3)) (len := 1) (by decide +kernel) rfl
theorem x52_54 (h0 : 0 ≤ i) (h1 : i < aN1 r) : Ze d 52 54 [l0, l1, l2, l3] (aI i :: aR r :: st) s = Ze d 52 55 [l0, l1, l2, l3] (aI (s r i.toNat) :: st) s := Ze_n (i := .iaload) (len := 1) (by decide +kernel) (if_pos ⟨h0, h1⟩)
theorem x52_55 : Ze d 52 55 [l0, l1, l2, l3] st s = Ze d 52 92 [l0, l1, l2, l3] st s := Ze_n (i := (.goto 37)) (len := 3) (by decide +kernel) rfl
theorem x52_58 : Ze d 52 58 [l0, l1, aI z, l3] st s = Ze d 52 59 [l0, l1, aI z, l3] (aI z :: st) s := Ze_n (i := (.iload_n 2)) (len := 1) (by decide +kernel) rfl
theorem x52_59 : Ze d 52 59 [l0, l1, l2, l3] st s = Ze d 52 60 [l0, l1, l2, l3] (aI 1 :: st) s := Ze_n (i := (.iconst 1)) (len := 1) (by decide +kernel) rfl
theorem x52_60 : Ze d 52 60 [l0, l1, l2, l3] (aI b :: aI a :: st) s = if a = b then Ze d 52 63 [l0, l1, l2, l3] st s else Ze d 52 72 [l0, l1, l2, l3] st s := Ze_b (i := (.if_icmp .ne 12)) (len := 3) (by decide +kernel) rfl
theorem x52_63 : Ze d 52 63 [aR r, l1, l2, l3] st s = Ze d 52 64 [aR r, l1, l2, l3] (aR r :: st) s := Ze_n (i := (.aload_n 0)) (len := 1) (by decide +kernel) rfl
theorem x52_64 (h : obC r = 0) : Ze d 52 64 [l0, l1, l2, l3] (aR r :: st) s = Ze d 52 67 [l0, l1, l2, l3] (aR (fcn r 47) :: st) s := Ze_gf (len := 3) (idx := 125) (by decide +kernel) rfl h rfl
theorem x52_67 : Ze d 52 67 [l0, l1, l2, aI z] st s = Ze d 52 68 [l0, l1, l2, aI z] (aI z :: st) s := Ze_n (i := (.iload_n 3)) (len := 1) (by decide +kernel) rfl
theorem x52_68 (h0 : 0 ≤ i) (h1 : i < aN1 r) : Ze d 52 68 [l0, l1, l2, l3] (aI i :: aR r :: st) s = Ze d 52 69 [l0, l1, l2, l3] (aI (s r i.toNat) :: st) s := Ze_n (i := .iaload) (len := 1) (by decide +kernel) (if_pos ⟨h0, h1⟩)
theorem x52_69 : Ze d 52 69 [l0, l1, l2, l3] st s = Ze d 52 92 [l0, l1, l2, l3] st s := Ze_n (i := (.goto 23)) (len := 3) (by decide +kernel) rfl
theorem x52_72 : Ze d 52 72 [l0, l1, aI z, l3] st s = Ze d 52 73 [l0, l1, aI z, l3] (aI z :: st) s := Ze_n (i := (.iload_n 2)) (len := 1) (by decide +kernel) rfl
theorem x52_73 : Ze d 52 73 [l0, l1, l2, l3] st s = Ze d 52 74 [l0, l1, l2, l3] (aI 2 :: st) s := Ze_n (i := (.iconst 2)) (len := 1) (by decide +kernel) rfl
theorem x52_74 : Ze d 52 74 [l0, l1, l2, l3] (aI b :: aI a :: st) s = if a = b then Ze d 52 77 [l0, l1, l2, l3] st s else Ze d 52 86 [l0, l1, l2, l3] st s := Ze_b (i := (.if_icmp .ne 12)) (len := 3) (by decide +kernel) rfl
theorem x52_77 : Ze d 52 77 [aR r, l1, l2, l3] st s = Ze d 52 78 [aR r, l1, l2, l3] (aR r :: st) s := Ze_n (i := (.aload_n 0)) (len := 1) (by decide +kernel) rfl
theorem x52_78 (h : obC r = 0) : Ze d 52 78 [l0, l1, l2, l3] (aR r :: st) s = Ze d 52 81 [l0, l1, l2, l3] (aR (fcn r 46) :: st) s := Ze_gf (len := 3) (idx := 122) (by decide +kernel) rfl h rfl
theorem x52_81 : Ze d 52 81 [l0, l1, l2, aI z] st s = Ze d 52 82 [l0, l1, l2, aI z] (aI z :: st) s := Ze_n (i := (.iload_n 3)) (len := 1) (by decide +kernel) rfl
theorem x52_82 (h0 : 0 ≤ i) (h1 : i < aN1 r) : Ze d 52 82 [l0, l1, l2, l3] (aI i :: aR r :: st) s = Ze d 52 83 [l0, l1, l2, l3] (aI (s r i.toNat) :: st) s := Ze_n (i := .iaload) (len := 1) (by decide +kernel) (if_pos ⟨h0, h1⟩)
theorem x52_83 : Ze d 52 83 [l0, l1, l2, l3] st s = Ze d 52 92 [l0, l1, l2, l3] st s := Ze_n (i := (.goto 9)) (len := 3) (by decide +kernel) rfl
theorem x52_86 : Ze d 52 86 [aR r, l1, l2, l3] st s = Ze d 52 87 [aR r, l1, l2, l3] (aR r :: st) s := Ze_n (i := (.aload_n 0)) (len := 1) (by decide +kernel) rfl
theorem x52_87 (h : obC r = 0) : Ze d 52 87 [l0, l1, l2, l3] (aR r :: st) s = Ze d 52 90 [l0, l1, l2, l3] (aR (fcn r 45) :: st) s := Ze_gf (len := 3) (idx := 119) (by decide +kernel) rfl h rfl
theorem x52_90 : Ze d 52 90 [l0, l1, l2, aI z] st s = Ze d 52 91 [l0, l1, l2, aI z] (aI z :: st) s := Ze_n (i := (.iload_n 3)) (len := 1) (by decide +kernel) rfl
theorem x52_91 (h0 : 0 ≤ i) (h1 : i < aN1 r) : Ze d 52 91 [l0, l1, l2, l3] (aI i :: aR r :: st) s = Ze d 52 92 [l0, l1, l2, l3] (aI (s r i.toNat) :: st) s := Ze_n (i := .iaload) (len := 1) (by decide +kernel) (if_pos ⟨h0, h1⟩)
theorem x52_92 : Ze d 52 92 [l0, l1, l2, l3] [aI z] s = rI z s := Ze_i1 (by decide +kernel) rfl
theorem en52 : Zc (d + 1) 52 [aR r, aI a1, aI a2] s = Ze d 52 0 [aR r, aI a1, aI a2, aU] [] s := rfl
theorem x53_0 : Ze d 53 0 [aR r, l1] st s = Ze d 53 1 [aR r, l1] (aR r :: st) s := Ze_n (i := (.aload_n 0)) (len := 1) (by decide +kernel) rfl
theorem x53_1 : Ze d 53 1 [l0, aI z] st s = Ze d 53 2 [l0, aI z] (aI z :: st) s := Ze_n (i := (.iload_n 1)) (len := 1) (by decide +kernel) rfl
theorem x53_2 : Ze d 53 2 [l0, l1] st s = Ze d 53 3 [l0, l1] (aI 0 :: st) s := Ze_n (i := (.iconst 0)) (len := 1) (by decide +kernel) rfl
theorem x53_3 : Ze d 53 3 [aR r, l1] st s = Ze d 53 4 [aR r, l1] (aR r :: st) s := Ze_n (i := (.aload_n 0)) (len := 1) (by decide +kernel) rfl
theorem x53_4 (h : obC r = 0) : Ze d 53 4 [l0, l1] (aR r :: st) s = Ze d 53 7 [l0, l1] (aI (s r 71) :: st) s := Ze_gf (len := 3) (idx := 347) (by decide +kernel) rfl h rfl
theorem x53_7 : Ze d 53 7 [l0, l1] st s = Ze d 53 8 [l0, l1] (aI 1 :: st) s := Ze_n (i := (.iconst 1)) (len := 1) (by decide +kernel) rfl
theorem x53_8 : Ze d 53 8 [l0, l1] (aI b :: aI a :: st) s = Ze d 53 9 [l0, l1] (aI (wrap (a - b)) :: st) s := Ze_n (i := .isub) (len := 1) (by decide +kernel) rfl
theorem x53_9 (h6 : st.length ≤ 4) : Ze d 53 9 [l0, l1] (aI a2 :: aI a1 :: aI a0 :: st) s = zcI (Zc d 1 [aI a0, aI a1, aI a2] s) d 53 12 [l0, l1] st := Ze_csI (idx := 183) (len := 3) (as := [aI a0, aI a1, aI a2]) (by decide +kernel) rfl rfl (by decide +kernel) rfl h6
theorem x53_12 : Ze d 53 12 [l0, l1] (aI a :: st) s = if a = 0 then Ze d 53 19 [l0, l1] st s else Ze d 53 15 [l0, l1] st s := Ze_b (i := (.ifCond .eq 7)) (len := 3) (by decide +kernel) rfl
theorem x53_15 : Ze d 53 15 [l0, l1] st s = Ze d 53 16 [l0, l1] (aI 0 :: st) s := Ze_n (i := (.iconst 0)) (len := 1) (by decide +kernel) rfl
theorem x53_16 : Ze d 53 16 [l0, l1] st s = Ze d 53 20 [l0, l1] st s := Ze_n (i := (.goto 4)) (len := 3) (by decide +kernel) rfl
theorem x53_19 : Ze d 53 19 [l0, l1] st s = Ze d 53 20 [l0, l1] (aI 1 :: st) s := Ze_n (i := (.iconst 1)) (len := 1) (by decide +kernel) rfl
theorem x53_20 (h : obC r = 0) : Ze d 53 20 [l0, l1] (aI z :: aR r :: st) s = Ze d 53 23 [l0, l1] st (mu s r 4 z) := Ze_n (i := .putfield 180) (len := 3) (by decide +kernel) (if_pos h)
theorem x53_23 : Ze d 53 23 [aR r, l1] st s = Ze d 53 24 [aR r, l1] (aR r :: st) s := Ze_n (i := (.aload_n 0)) (len := 1) (by decide +kernel) rfl
theorem x53_24 (h : obC r = 0) : Ze d 53 24 [l0, l1] (aR r :: st) s = Ze d 53 27 [l0, l1] (aI (s r 4) :: st) s := Ze_gf (len := 3) (idx := 180) (by decide +kernel) rfl h rfl
theorem x53_27 : Ze d 53 27 [l0, l1] (aI a :: st) s = if 0 < a then Ze d 53 30 [l0, l1] st s else Ze d 53 34 [l0, l1] st s := Ze_b (i := (.ifCond .le 7)) (len := 3) (by decide +kernel) rfl
theorem x53_30 : Ze d 53 30 [l0, l1] st s = Ze d 53 31 [l0, l1] (aI 0 :: st) s := Ze_n (i := (.iconst 0)) (len := 1) (by decide +kernel) rfl
theorem x53_31 : Ze d 53 31 [l0, l1] st s = Ze d 53 43 [l0, l1] st s := Ze_n (i := (.goto 12)) (len := 3) (by decide +kernel) rfl
theorem x53_34 : Ze d 53 34 [aR r, l1] st s = Ze d 53 35 [aR r, l1] (aR r :: st) s := Ze_n (i := (.aload_n 0)) (len := 1) (by decide +kernel) rfl
theorem x53_35 (h : obC r = 0) : Ze d 53 35 [l0, l1] (aR r :: st) s = Ze d 53 38 [l0, l1] (aR (fcn r 49) :: st) s := Ze_gf (len := 3) (idx := 131) (by decide +kernel) rfl h rfl
theorem x53_38 : Ze d 53 38 [l0, l1] st s = Ze d 53 40 [l0, l1] (aI 24 :: st) s := Ze_n (i := (.bipush 24)) (len := 2) (by decide +kernel) rfl
theorem x53_40 : Ze d 53 40 [l0, aI z] st s = Ze d 53 41 [l0, aI z] (aI z :: st) s := Ze_n (i := (.iload_n 1)) (len := 1) (by decide +kernel) rfl
theorem x53_41 : Ze d 53 41 [l0, l1] (aI b :: aI a :: st) s = Ze d 53 42 [l0, l1] (aI (wrap (a + b)) :: st) s := Ze_n (i := .iadd) (len := 1) (by decide +kernel) rfl
theorem x53_42 (h0 : 0 ≤ i) (h1 : i < aN1 r) : Ze d 53 42 [l0, l1] (aI i :: aR r :: st) s = Ze d 53 43 [l0, l1] (aI (s r i.toNat) :: st) s := Ze_n (i := .iaload) (len := 1) (by decide +kernel) (if_pos ⟨h0, h1⟩)
theorem x53_43 : Ze d 53 43 [l0, l1] [aI z] s = rI z s := Ze_i1 (by decide +kernel) rfl
theorem en53 : Zc (d + 1) 53 [aR r, aI a1] s = Ze d 53 0 [aR r, aI a1] [] s := rfl
theorem x54_0 : Ze d 54 0 [l0, aI z, l2, l3] st s = Ze d 54 1 [l0, aI z, l2, l3] (aI z :: st) s := Ze_n (i := (.iload_n 1)) (len := 1) (by decide +kernel) rfl
theorem x54_1 : Ze d 54 1 [l0, l1, l2, l3] st s = Ze d 54 2 [l0, l1, l2, l3] (aI 0 :: st) s := Ze_n (i := (.iconst 0)) (len := 1) (by decide +kernel) rfl
theorem x54_2 : Ze d 54 2 [aR r, l1, l2, l3] st s = Ze d 54 3 [aR r, l1, l2, l3] (aR r :: st) s := Ze_n (i := (.aload_n 0)) (len := 1) (by decide +kernel) rfl
theorem x54_3 (h : obC r = 0) : Ze d 54 3 [l0, l1, l2, l3] (aR r :: st) s = Ze d 54 6 [l0, l1, l2, l3] (aI (s r 71) :: st) s := Ze_gf (len := 3) (idx := 347) (by decide +kernel) rfl h rfl
theorem x54_6 : Ze d 54 6 [l0, l1, l2, l3] st s = Ze d 54 7 [l0, l1, l2, l3] (aI 1 :: st) s := Ze_n (i := (.iconst 1)) (len := 1) (by decide +kernel) rfl
theorem x54_7 : Ze d 54 7 [l0, l1, l2, l3] (aI b :: aI a :: st) s = Ze d 54 8 [l0, l1, l2, l3] (aI (wrap (a - b)) :: st) s := Ze_n (i := .isub) (len := 1) (by decide +kernel) rfl
theorem x54_8 (h6 : st.length ≤ 4) : Ze d 54 8 [l0, l1, l2, l3] (aI a2 :: aI a1 :: aI a0 :: st) s = zcI (Zc d 1 [aI a0, aI a1, aI a2] s) d 54 11 [l0, l1, l2, l3] st := Ze_csI (idx := 183) (len := 3) (as := [aI a0, aI a1, aI a2]) (by decide +kernel) rfl rfl (by decide +kernel) rfl h6
theorem x54_11 : Ze d 54 11 [l0, l1, l2, l3] (aI a :: st) s = if a = 0 then Ze d 54 14 [l0, l1, l2, l3] st s else Ze d 54 20 [l0, l1, l2, l3] st s := Ze_b (i := (.ifCond .ne 9)) (len := 3) (by decide +kernel) rfl
theorem x54_14 : Ze d 54 14 [aR r, l1, l2, l3] st s = Ze d 54 15 [aR r, l1, l2, l3] (aR r :: st) s := Ze_n (i := (.aload_n 0)) (len := 1) (by decide +kernel) rfl
theorem x54_15 : Ze d 54 15 [l0, l1, l2, l3] st s = Ze d 54 16 [l0, l1, l2, l3] (aI 1 :: st) s := Ze_n (i := (.iconst 1)) (len := 1) (by decide +kernel) rfl
theorem x54_16 (h : obC r = 0) (h6 : st.length ≤ 4) : Ze d 54 16 [l0, l1, l2, l3] (aI a1 :: aR r :: st) s = zcI (Zc d 2 [aR r, aI a1] s) d 54 19 [l0, l1, l2, l3] st := Ze_cvI (idx := 187) (len := 3) (as := [aI a1]) (by decide +kernel) rfl (by decide +kernel) rfl h h6
theorem x54_19 : Ze d 54 19 [l0, l1, l2, l3] [aI z] s = rI z s := Ze_i1 (by decide +kernel) rfl
theorem x54_20 : Ze d 54 20 [aR r, l1, l2, l3] st s = Ze d 54 21 [aR r, l1, l2, l3] (aR r :: st) s := Ze_n (i := (.aload_n 0)) (len := 1) (by decide +kernel) rfl
theorem x54_21 (h : obC r = 0) : Ze d 54 21 [l0, l1, l2, l3] (aR r :: st) s = Ze d 54 24 [l0, l1, l2, l3] (aR (fcn r 44) :: st) s := Ze_gf (len := 3) (idx := 116) (by decide +kernel) rfl h rfl
theorem x54_24 : Ze d 54 24 [l0, l1, l2, l3] st s = Ze d 54 26 [l0, l1, l2, l3] (aI 24 :: st) s := Ze_n (i := (.bipush 24)) (len := 2) (by decide +kernel) rfl
theorem x54_26 : Ze d 54 26 [l0, aI z, l2, l3] st s = Ze d 54 27 [l0, aI z, l2, l3] (aI z :: st) s := Ze_n (i := (.iload_n 1)) (len := 1) (by decide +kernel) rfl
theorem x54_27 : Ze d 54 27 [l0, l1, l2, l3] (aI b :: aI a :: st) s = Ze d 54 28 [l0, l1, l2, l3] (aI (wrap (a + b)) :: st) s := Ze_n (i := .iadd) (len := 1) (by decide +kernel) rfl
theorem x54_28 (h0 : 0 ≤ i) (h1 : i < aN1 r) : Ze d 54 28 [l0, l1, l2, l3] (aI i :: aR r :: st) s = Ze d 54 29 [l0, l1, l2, l3] (aI (s r i.toNat) :: st) s := Ze_n (i := .iaload) (len := 1) (by decide +kernel) (if_pos ⟨h0, h1⟩)
theorem x54_29 : Ze d 54 29 [l0, l1, l2, l3] st s = Ze d 54 30 [l0, l1, l2, l3] (aI 1 :: st) s := Ze_n (i := (.iconst 1)) (len := 1) (by decide +kernel) rfl
theorem x54_30 : Ze d 54 30 [l0, l1, l2, l3] (aI b :: aI a :: st) s = if b < a then Ze d 54 46 [l0, l1, l2, l3] st s else Ze d 54 33 [l0, l1, l2, l3] st s := Ze_b (i := (.if_icmp .gt 16)) (len := 3) (by decide +kernel) rfl
theorem x54_33 : Ze d 54 33 [aR r, l1, l2, l3] st s = Ze d 54 34 [aR r, l1, l2, l3] (aR r :: st) s := Ze_n (i := (.aload_n 0)) (len := 1) (by decide +kernel) rfl
theorem x54_34 (h : obC r = 0) : Ze d 54 34 [l0, l1, l2, l3] (aR r :: st) s = Ze d 54 37 [l0, l1, l2, l3] (aR (fcn r 46) :: st) s := Ze_gf (len := 3) (idx := 122) (by decide +kernel) rfl h rfl
theorem x54_37 : Ze d 54 37 [l0, l1, l2, l3] st s = Ze d 54 39 [l0, l1, l2, l3] (aI 24 :: st) s := Ze_n (i := (.bipush 24)) (len := 2) (by decide +kernel) rfl
theorem x54_39 : Ze d 54 39 [l0, aI z, l2, l3] st s = Ze d 54 40 [l0, aI z, l2, l3] (aI z :: st) s := Ze_n (i := (.iload_n 1)) (len := 1) (by decide +kernel) rfl
theorem x54_40 : Ze d 54 40 [l0, l1, l2, l3] (aI b :: aI a :: st) s = Ze d 54 41 [l0, l1, l2, l3] (aI (wrap (a + b)) :: st) s := Ze_n (i := .iadd) (len := 1) (by decide +kernel) rfl
theorem x54_41 (h0 : 0 ≤ i) (h1 : i < aN1 r) : Ze d 54 41 [l0, l1, l2, l3] (aI i :: aR r :: st) s = Ze d 54 42 [l0, l1, l2, l3] (aI (s r i.toNat) :: st) s := Ze_n (i := .iaload) (len := 1) (by decide +kernel) (if_pos ⟨h0, h1⟩)
theorem x54_42 : Ze d 54 42 [l0, l1, l2, l3] st s = Ze d 54 43 [l0, l1, l2, l3] (aI 1 :: st) s := Ze_n (i := (.iconst 1)) (len := 1) (by decide +kernel) rfl
theorem x54_43 : Ze d 54 43 [l0, l1, l2, l3] (aI b :: aI a :: st) s = if a = b then Ze d 54 46 [l0, l1, l2, l3] st s else Ze d 54 52 [l0, l1, l2, l3] st s := Ze_b (i := (.if_icmp .ne 9)) (len := 3) (by decide +kernel) rfl
theorem x54_46 : Ze d 54 46 [aR r, l1, l2, l3] st s = Ze d 54 47 [aR r, l1, l2, l3] (aR r :: st) s := Ze_n (i := (.aload_n 0)) (len := 1) (by decide +kernel) rfl
theorem x54_47 : Ze d 54 47 [l0, l1, l2, l3] st s = Ze d 54 48 [l0, l1, l2, l3] (aI 2 :: st) s := Ze_n (i := (.iconst 2)) (len := 1) (by decide +kernel) rfl
theorem x54_48 (h : obC r = 0) (h6 : st.length ≤ 4) : Ze d 54 48 [l0, l1, l2, l3] (aI a1 :: aR r :: st) s = zcI (Zc d 2 [aR r, aI a1] s) d 54 51 [l0, l1, l2, l3] st := Ze_cvI (idx := 187) (len := 3) (as := [aI a1]) (by decide +kernel) rfl (by decide +kernel) rfl h h6
theorem x54_51 : Ze d 54 51 [l0, l1, l2, l3] [aI z] s = rI z s := Ze_i1 (by decide +kernel) rfl
theorem x54_52 : Ze d 54 52 [aR r, l1, l2, l3] st s = Ze d 54 53 [aR r, l1, l2, l3] (aR r :: st) s := Ze_n (i := (.aload_n 0)) (len := 1) (by decide +kernel) rfl
theorem x54_53 : Ze d 54 53 [l0, l1, l2, l3] st s = Ze d 54 54 [l0, l1, l2, l3] (aI 0 :: st) s := Ze_n (i := (.iconst 0)) (len := 1) (by decide +kernel) rfl
theorem x54_54 (h : obC r = 0) : Ze d 54 54 [l0, l1, l2, l3] (aI z :: aR r :: st) s = Ze d 54 57 [l0, l1, l2, l3] st (mu s r 4 z) := Ze_n (i := .putfield 180) (len := 3) (by decide +kernel) (if_pos h)
theorem x54_57 : Ze d 54 57 [aR r, l1, l2, l3] st s = Ze d 54 58 [aR r, l1, l2, l3] (aR r :: st) s := Ze_n (i := (.aload_n 0)) (len := 1) (by decide +kernel) rfl
theorem x54_58 (h : obC r = 0) : Ze d 54 58 [l0, l1, l2, l3] (aR r :: st) s = Ze d 54 61 [l0, l1, l2, l3] (aR (fcn r 60) :: st) s := Ze_gf (len := 3) (idx := 146) (by decide +kernel) rfl h rfl
theorem x54_61 : Ze d 54 61 [l0, aI z, l2, l3] st s = Ze d 54 62 [l0, aI z, l2, l3] (aI z :: st) s := Ze_n (i := (.iload_n 1)) (len := 1) (by decide +kernel) rfl
theorem x54_62 (h0 : 0 ≤ i) (h1 : i < aN1 r) : Ze d 54 62 [l0, l1, l2, l3] (aI i :: aR r :: st) s = Ze d 54 63 [l0, l1, l2, l3] (aI (s r i.toNat) :: st) s := Ze_n (i := .iaload) (len := 1) (by decide +kernel) (if_pos ⟨h0, h1⟩)
theorem x54_63 : Ze d 54 63 [l0, l1, l2, l3] (aI z :: st) s = Ze d 54 64 [l0, l1, l2, aI z] st s := Ze_n (i := (.istore_n 3)) (len := 1) (by decide +kernel) rfl
theorem x54_64 : Ze d 54 64 [aR r, l1, l2, l3] st s = Ze d 54 65 [aR r, l1, l2, l3] (aR r :: st) s := Ze_n (i := (.aload_n 0)) (len := 1) (by decide +kernel) rfl
theorem x54_65 (h : obC r = 0) : Ze d 54 65 [l0, l1, l2, l3] (aR r :: st) s = Ze d 54 68 [l0, l1, l2, l3] (aR (fcn r 60) :: st) s := Ze_gf (len := 3) (idx := 146) (by decide +kernel) rfl h rfl
theorem x54_68 : Ze d 54 68 [l0, aI z, l2, l3] st s = Ze d 54 69 [l0, aI z, l2, l3] (aI z :: st) s := Ze_n (i := (.iload_n 1)) (len := 1) (by decide +kernel) rfl
theorem x54_69 : Ze d 54 69 [l0, l1, aI z, l3] st s = Ze d 54 70 [l0, l1, aI z, l3] (aI z :: st) s := Ze_n (i := (.iload_n 2)) (len := 1) (by decide +kernel) rfl
theorem x54_70 : Ze d 54 70 [aR r, l1, l2, l3] st s = Ze d 54 71 [aR r, l1, l2, l3] (aR r :: st) s := Ze_n (i := (.aload_n 0)) (len := 1) (by decide +kernel) rfl
theorem x54_71 (h : obC r = 0) : Ze d 54 71 [l0, l1, l2, l3] (aR r :: st) s = Ze d 54 74 [l0, l1, l2, l3] (aR (fcn r 47) :: st) s := Ze_gf (len := 3) (idx := 125) (by decide +kernel) rfl h rfl
theorem x54_74 : Ze d 54 74 [l0, l1, l2, l3] st s = Ze d 54 76 [l0, l1, l2, l3] (aI 24 :: st) s := Ze_n (i := (.bipush 24)) (len := 2) (by decide +kernel) rfl
theorem x54_76 : Ze d 54 76 [l0, aI z, l2, l3] st s = Ze d 54 77 [l0, aI z, l2, l3] (aI z :: st) s := Ze_n (i := (.iload_n 1)) (len := 1) (by decide +kernel) rfl
theorem x54_77 : Ze d 54 77 [l0, l1, l2, l3] (aI b :: aI a :: st) s = Ze d 54 78 [l0, l1, l2, l3] (aI (wrap (a + b)) :: st) s := Ze_n (i := .iadd) (len := 1) (by decide +kernel) rfl
theorem x54_78 (h0 : 0 ≤ i) (h1 : i < aN1 r) : Ze d 54 78 [l0, l1, l2, l3] (aI i :: aR r :: st) s = Ze d 54 79 [l0, l1, l2, l3] (aI (s r i.toNat) :: st) s := Ze_n (i := .iaload) (len := 1) (by decide +kernel) (if_pos ⟨h0, h1⟩)
theorem x54_79 (h6 : st.length ≤ 4) : Ze d 54 79 [l0, l1, l2, l3] (aI a0 :: st) s = zcI (Zc d 48 [aI a0] s) d 54 82 [l0, l1, l2, l3] st := Ze_csI (idx := 386) (len := 3) (as := [aI a0]) (by decide +kernel) rfl rfl (by decide +kernel) rfl h6
theorem x54_82 : Ze d 54 82 [l0, l1, l2, l3] (aI b :: aI a :: st) s = Ze d 54 83 [l0, l1, l2, l3] (aI (iand a b) :: st) s := Ze_n (i := .iand) (len := 1) (by decide +kernel) rfl
theorem x54_83 (h0 : 0 ≤ i) (h1 : i < aN1 r) : Ze d 54 83 [l0, l1, l2, l3] (aI z :: aI i :: aR r :: st) s = Ze d 54 84 [l0, l1, l2, l3] st (mu s r i.toNat z) := Ze_n (i := .iastore) (len := 1) (by decide +kernel) (if_pos ⟨h0, h1⟩)
theorem x54_84 : Ze d 54 84 [aR r, l1, l2, l3] st s = Ze d 54 85 [aR r, l1, l2, l3] (aR r :: st) s := Ze_n (i := (.aload_n 0)) (len := 1) (by decide +kernel) rfl
theorem x54_85 (h : obC r = 0) (h6 : st.length ≤ 4) : Ze d 54 85 [l0, l1, l2, l3] (aR r :: st) s = zcV (Zc d 51 [aR r] s) d 54 88 [l0, l1, l2, l3] st := Ze_cvV (idx := 383) (len := 3) (as := []) (by decide +kernel) rfl (by decide +kernel) rfl h h6
theorem x54_88 : Ze d 54 88 [l0, l1, l2, aI z] st s = Ze d 54 89 [l0, l1, l2, aI z] (aI z :: st) s := Ze_n (i := (.iload_n 3)) (len := 1) (by decide +kernel) rfl
theorem x54_89 : Ze d 54 89 [l0, l1, l2, l3] [aI z] s = rI z s := Ze_i1 (by decide +kernel) rfl
theorem en54 : Zc (d + 1) 54 [aR r, aI a1, aI a2] s = Ze d 54 0 [aR r, aI a1, aI a2, aU] [] s := rfl
theorem x55_0 : Ze d 55 0 [aR r, l1] st s = Ze d 55 1 [aR r, l1] (aR r :: st) s := Ze_n (i := (.aload_n 0)) (len := 1) (by decide +kernel) rfl
theorem x55_1 : Ze d 55 1 [l0, aI z] st s = Ze d 55 2 [l0, aI z] (aI z :: st) s := Ze_n (i := (.iload_n 1)) (len := 1) (by decide +kernel) rfl
theorem x55_2 : Ze d 55 2 [l0, l1] st s = Ze d 55 3 [l0, l1] (aI 0 :: st) s := Ze_n (i := (.iconst 0)) (len := 1) (by decide +kernel) rfl
theorem x55_3 : Ze d 55 3 [aR r, l1] st s = Ze d 55 4 [aR r, l1] (aR r :: st) s := Ze_n (i := (.aload_n 0)) (len := 1) (by decide +kernel) rfl
theorem x55_4 (h : obC r = 0) : Ze d 55 4 [l0, l1] (aR r :: st) s = Ze d 55 7 [l0, l1] (aI (s r 71) :: st) s := Ze_gf (len := 3) (idx := 347) (by decide +kernel) rfl h rfl
theorem x55_7 : Ze d 55 7 [l0, l1] st s = Ze d 55 8 [l0, l1] (aI 1 :: st) s := Ze_n (i := (.iconst 1)) (len := 1) (by decide +kernel) rfl
theorem x55_8 : Ze d 55 8 [l0, l1] (aI b :: aI a :: st) s = Ze d 55 9 [l0, l1] (aI (wrap (a - b)) :: st) s := Ze_n (i := .isub) (len := 1) (by decide +kernel) rfl
theorem x55_9 (h6 : st.length ≤ 4) : Ze d 55 9 [l0, l1] (aI a2 :: aI a1 :: aI a0 :: st) s = zcI (Zc d 1 [aI a0, aI a1, aI a2] s) d 55 12 [l0, l1] st := Ze_csI (idx := 183) (len := 3) (as := [aI a0, aI a1, aI a2]) (by decide +kernel) rfl rfl (by decide +kernel) rfl h6
theorem x55_12 : Ze d 55 12 [l0, l1] (aI a :: st) s = if a = 0 then Ze d 55 19 [l0, l1] st s else Ze d 55 15 [l0, l1] st s := Ze_b (i := (.ifCond .eq 7)) (len := 3) (by decide +kernel) rfl
theorem x55_15 : Ze d 55 15 [l0, l1] st s = Ze d 55 16 [l0, l1] (aI 0 :: st) s := Ze_n (i := (.iconst 0)) (len := 1) (by decide +kernel) rfl
theorem x55_16 : Ze d 55 16 [l0, l1] st s = Ze d 55 20 [l0, l1] st s := Ze_n (i := (.goto 4)) (len := 3) (by decide +kernel) rfl
theorem x55_19 : Ze d 55 19 [l0, l1] st s = Ze d 55 20 [l0, l1] (aI 1 :: st) s := Ze_n (i := (.iconst 1)) (len := 1) (by decide +kernel) rfl
theorem x55_20 (h : obC r = 0) : Ze d 55 20 [l0, l1] (aI z :: aR r :: st) s = Ze d 55 23 [l0, l1] st (mu s r 4 z) := Ze_n (i := .putfield 180) (len := 3) (by decide +kernel) (if_pos h)
theorem x55_23 : Ze d 55 23 [aR r, l1] st s = Ze d 55 24 [aR r, l1] (aR r :: st) s := Ze_n (i := (.aload_n 0)) (len := 1) (by decide +kernel) rfl
theorem x55_24 (h : obC r = 0) : Ze d 55 24 [l0, l1] (aR r :: st) s = Ze d 55 27 [l0, l1] (aI (s r 4) :: st) s := Ze_gf (len := 3) (idx := 180) (by decide +kernel) rfl h rfl
theorem x55_27 : Ze d 55 27 [l0, l1] (aI a :: st) s = if 0 < a then Ze d 55 30 [l0, l1] st s else Ze d 55 34 [l0, l1] st s := Ze_b (i := (.ifCond .le 7)) (len := 3) (by decide +kernel) rfl
theorem x55_30 : Ze d 55 30 [l0, l1] st s = Ze d 55 31 [l0, l1] (aI 0 :: st) s := Ze_n (i := (.iconst 0)) (len := 1) (by decide +kernel) rfl
theorem x55_31 : Ze d 55 31 [l0, l1] st s = Ze d 55 40 [l0, l1] st s := Ze_n (i := (.goto 9)) (len := 3) (by decide +kernel) rfl
theorem x55_34 : Ze d 55 34 [aR r, l1] st s = Ze d 55 35 [aR r, l1] (aR r :: st) s := Ze_n (i := (.aload_n 0)) (len := 1) (by decide +kernel) rfl
theorem x55_35 (h : obC r = 0) : Ze d 55 35 [l0, l1] (aR r :: st) s = Ze d 55 38 [l0, l1] (aR (fcn r 59) :: st) s := Ze_gf (len := 3) (idx := 143) (by decide +kernel) rfl h rfl
theorem x55_38 : Ze d 55 38 [l0, aI z] st s = Ze d 55 39 [l0, aI z] (aI z :: st) s := Ze_n (i := (.iload_n 1)) (len := 1) (by decide +kernel) rfl
theorem x55_39 (h0 : 0 ≤ i) (h1 : i < aN1 r) : Ze d 55 39 [l0, l1] (aI i :: aR r :: st) s = Ze d 55 40 [l0, l1] (aI (s r i.toNat) :: st) s := Ze_n (i := .iaload) (len := 1) (by decide +kernel) (if_pos ⟨h0, h1⟩)
theorem x55_40 : Ze d 55 40 [l0, l1] [aI z] s = rI z s := Ze_i1 (by decide +kernel) rfl
theorem en55 : Zc (d + 1) 55 [aR r, aI a1] s = Ze d 55 0 [aR r, aI a1] [] s := rfl
theorem x56_0 : Ze d 56 0 [l0, l1] st s = Ze d 56 1 [l0, l1] (aI 0 :: st) s := Ze_n (i := (.iconst 0)) (len := 1) (by decide +kernel) rfl
theorem x56_1 : Ze d 56 1 [l0, l1] (aI z :: st) s = Ze d 56 2 [l0, aI z] st s := Ze_n (i := (.istore_n 1)) (len := 1) (by decide +kernel) rfl
theorem x56_2 : Ze d 56 2 [l0, aI z] st s = Ze d 56 3 [l0, aI z] (aI z :: st) s := Ze_n (i := (.iload_n 1)) (len := 1) (by decide +kernel) rfl
theorem x56_3 : Ze d 56 3 [aR r, l1] st s = Ze d 56 4 [aR r, l1] (aR r :: st) s := Ze_n (i := (.aload_n 0)) (len := 1) (by decide +kernel) rfl
theorem x56_4 (h : obC r = 0) : Ze d 56 4 [l0, l1] (aR r :: st) s = Ze d 56 7 [l0, l1] (aI (s r 71) :: st) s := Ze_gf (len := 3) (idx := 347) (by decide +kernel) rfl h rfl
theorem x56_7 : Ze d 56 7 [l0, l1] (aI b :: aI a :: st) s = if a < b then Ze d 56 10 [l0, l1] st s else Ze d 56 53 [l0, l1] st s := Ze_b (i := (.if_icmp .ge 46)) (len := 3) (by decide +kernel) rfl
theorem x56_10 : Ze d 56 10 [aR r, l1] st s = Ze d 56 11 [aR r, l1] (aR r :: st) s := Ze_n (i := (.aload_n 0)) (len := 1) (by decide +kernel) rfl
theorem x56_11 (h : obC r = 0) : Ze d 56 11 [l0, l1] (aR r :: st) s = Ze d 56 14 [l0, l1] (aR (fcn r 59) :: st) s := Ze_gf (len := 3) (idx := 143) (by decide +kernel) rfl h rfl
theorem x56_14 : Ze d 56 14 [l0, aI z] st s = Ze d 56 15 [l0, aI z] (aI z :: st) s := Ze_n (i := (.iload_n 1)) (len := 1) (by decide +kernel) rfl
theorem x56_15 (h0 : 0 ≤ i) (h1 : i < aN1 r) : Ze d 56 15 [l0, l1] (aI i :: aR r :: st) s = Ze d 56 16 [l0, l1] (aI (s r i.toNat) :: st) s := Ze_n (i := .iaload) (len := 1) (by decide +kernel) (if_pos ⟨h0, h1⟩)
theorem x56_16 : Ze d 56 16 [aR r, l1] st s = Ze d 56 17 [aR r, l1] (aR r :: st) s := Ze_n (i := (.aload_n 0)) (len := 1) (by decide +kernel) rfl
theorem x56_17 (h : obC r = 0) : Ze d 56 17 [l0, l1] (aR r :: st) s = Ze d 56 20 [l0, l1] (aR (fcn r 61) :: st) s := Ze_gf (len := 3) (idx := 149) (by decide +kernel) rfl h rfl
theorem x56_20 : Ze d 56 20 [l0, aI z] st s = Ze d 56 21 [l0, aI z] (aI z :: st) s := Ze_n (i := (.iload_n 1)) (len := 1) (by decide +kernel) rfl
theorem x56_21 (h0 : 0 ≤ i) (h1 : i < aN1 r) : Ze d 56 21 [l0, l1] (aI i :: aR r :: st) s = Ze d 56 22 [l0, l1] (aI (s r i.toNat) :: st) s := Ze_n (i := .iaload) (len := 1) (by decide +kernel) (if_pos ⟨h0, h1⟩)
theorem x56_22 : Ze d 56 22 [l0, l1] (aI b :: aI a :: st) s = if a = b then Ze d 56 35 [l0, l1] st s else Ze d 56 25 [l0, l1] st s := Ze_b (i := (.if_icmp .eq 13)) (len := 3) (by decide +kernel) rfl
theorem x56_25 : Ze d 56 25 [aR r, l1] st s = Ze d 56 26 [aR r, l1] (aR r :: st) s := Ze_n (i := (.aload_n 0)) (len := 1) (by decide +kernel) rfl
theorem x56_26 (h : obC r = 0) : Ze d 56 26 [l0, l1] (aR r :: st) s = Ze d 56 29 [l0, l1] (aR (fcn r 62) :: st) s := Ze_gf (len := 3) (idx := 152) (by decide +kernel) rfl h rfl
theorem x56_29 : Ze d 56 29 [l0, aI z] st s = Ze d 56 30 [l0, aI z] (aI z :: st) s := Ze_n (i := (.iload_n 1)) (len := 1) (by decide +kernel) rfl
theorem x56_30 : Ze d 56 30 [l0, l1] (aI a :: aR r :: st) s = Ze d 56 31 [l0, l1] (aI a :: aR r :: aI a :: aR r :: st) s := Ze_n (i := .dup2) (len := 1) (by decide +kernel) rfl
theorem x56_31 (h0 : 0 ≤ i) (h1 : i < aN1 r) : Ze d 56 31 [l0, l1] (aI i :: aR r :: st) s = Ze d 56 32 [l0, l1] (aI (s r i.toNat) :: st) s := Ze_n (i := .iaload) (len := 1) (by decide +kernel) (if_pos ⟨h0, h1⟩)
theorem x56_32 : Ze d 56 32 [l0, l1] st s = Ze d 56 33 [l0, l1] (aI 1 :: st) s := Ze_n (i := (.iconst 1)) (len := 1) (by decide +kernel) rfl
theorem x56_33 : Ze d 56 33 [l0, l1] (aI b :: aI a :: st) s = Ze d 56 34 [l0, l1] (aI (wrap (a + b)) :: st) s := Ze_n (i := .iadd) (len := 1) (by decide +kernel) rfl
theorem x56_34 (h0 : 0 ≤ i) (h1 : i < aN1 r) : Ze d 56 34 [l0, l1] (aI z :: aI i :: aR r :: st) s = Ze d 56 35 [l0, l1] st (mu s r i.toNat z) := Ze_n (i := .iastore) (len := 1) (by decide +kernel) (if_pos ⟨h0, h1⟩)
theorem x56_35 : Ze d 56 35 [aR r, l1] st s = Ze d 56 36 [aR r, l1] (aR r :: st) s := Ze_n (i := (.aload_n 0)) (len := 1) (by decide +kernel) rfl
theorem x56_36 (h : obC r = 0) : Ze d 56 36 [l0, l1] (aR r :: st) s = Ze d 56 39 [l0, l1] (aR (fcn r 61) :: st) s := Ze_gf (len := 3) (idx := 149) (by decide +kernel) rfl h rfl
theorem x56_39 : Ze d 56 39 [l0, aI z] st s = Ze d 56 40 [l0, aI z] (aI z :: st) s := Ze_n (i := (.iload_n 1)) (len := 1) (by decide +kernel) rfl
theorem x56_40 : Ze d 56 40 [aR r, l1] st s = Ze d 56 41 [aR r, l1] (aR r :: st) s := Ze_n (i := (.aload_n 0)) (len := 1) (by decide +kernel) rfl
theorem x56_41 (h : obC r = 0) : Ze d 56 41 [l0, l1] (aR r :: st) s = Ze d 56 44 [l0, l1] (aR (fcn r 59) :: st) s := Ze_gf (len := 3) (idx := 143) (by decide +kernel) rfl h rfl
theorem x56_44 : Ze d 56 44 [l0, aI z] st s = Ze d 56 45 [l0, aI z] (aI z :: st) s := Ze_n (i := (.iload_n 1)) (len := 1) (by decide +kernel) rfl
theorem x56_45 (h0 : 0 ≤ i) (h1 : i < aN1 r) : Ze d 56 45 [l0, l1] (aI i :: aR r :: st) s = Ze d 56 46 [l0, l1] (aI (s r i.toNat) :: st) s := Ze_n (i := .iaload) (len := 1) (by decide +kernel) (if_pos ⟨h0, h1⟩)
theorem x56_46 (h0 : 0 ≤ i) (h1 : i < aN1 r) : Ze d 56 46 [l0, l1] (aI z :: aI i :: aR r :: st) s = Ze d 56 47 [l0, l1] st (mu s r i.toNat z) := Ze_n (i := .iastore) (len := 1) (by decide +kernel) (if_pos ⟨h0, h1⟩)
theorem x56_47 : Ze d 56 47 [l0, aI z] st s = Ze d 56 50 [l0, aI (wrap (z + 1))] st s := Ze_n (i := (.iinc 1 1)) (len := 3) (by decide +kernel) rfl
theorem x56_50 : Ze d 56 50 [l0, l1] st s = Ze d 56 2 [l0, l1] st s := Ze_n (i := (.goto (-48))) (len := 3) (by decide +kernel) rfl
theorem x56_53 : Ze d 56 53 [l0, l1] st s = Ze d 56 54 [l0, l1] (aI 0 :: st) s := Ze_n (i := (.iconst 0)) (len := 1) (by decide +kernel) rfl
theorem x56_54 : Ze d 56 54 [l0, l1] (aI z :: st) s = Ze d 56 55 [l0, aI z] st s := Ze_n (i := (.istore_n 1)) (len := 1) (by decide +kernel) rfl
theorem x56_55 : Ze d 56 55 [l0, aI z] st s = Ze d 56 56 [l0, aI z] (aI z :: st) s := Ze_n (i := (.iload_n 1)) (len := 1) (by decide +kernel) rfl
theorem x56_56 : Ze d 56 56 [aR r, l1] st s = Ze d 56 57 [aR r, l1] (aR r :: st) s := Ze_n (i := (.aload_n 0)) (len := 1) (by decide +kernel) rfl
theorem x56_57 (h : obC r = 0) : Ze d 56 57 [l0, l1] (aR r :: st) s = Ze d 56 60 [l0, l1] (aI (s r 71) :: st) s := Ze_gf (len := 3) (idx := 347) (by decide +kernel) rfl h rfl
theorem x56_60 : Ze d 56 60 [l0, l1] (aI b :: aI a :: st) s = if a < b then Ze d 56 63 [l0, l1] st s else Ze d 56 97 [l0, l1] st s := Ze_b (i := (.if_icmp .ge 37)) (len := 3) (by decide +kernel) rfl
theorem x56_63 : Ze d 56 63 [aR r, l1] st s = Ze d 56 64 [aR r, l1] (aR r :: st) s := Ze_n (i := (.aload_n 0)) (len := 1) (by decide +kernel) rfl
theorem x56_64 (h : obC r = 0) : Ze d 56 64 [l0, l1] (aR r :: st) s = Ze d 56 67 [l0, l1] (aR (fcn r 63) :: st) s := Ze_gf (len := 3) (idx := 155) (by decide +kernel) rfl h rfl
theorem x56_67 : Ze d 56 67 [l0, aI z] st s = Ze d 56 68 [l0, aI z] (aI z :: st) s := Ze_n (i := (.iload_n 1)) (len := 1) (by decide +kernel) rfl
theorem x56_68 : Ze d 56 68 [aR r, l1] st s = Ze d 56 69 [aR r, l1] (aR r :: st) s := Ze_n (i := (.aload_n 0)) (len := 1) (by decide +kernel) rfl
theorem x56_69 (h : obC r = 0) : Ze d 56 69 [l0, l1] (aR r :: st) s = Ze d 56 72 [l0, l1] (aR (fcn r 44) :: st) s := Ze_gf (len := 3) (idx := 116) (by decide +kernel) rfl h rfl
theorem x56_72 : Ze d 56 72 [l0, l1] st s = Ze d 56 74 [l0, l1] (aI 24 :: st) s := Ze_n (i := (.bipush 24)) (len := 2) (by decide +kernel) rfl
theorem x56_74 : Ze d 56 74 [l0, aI z] st s = Ze d 56 75 [l0, aI z] (aI z :: st) s := Ze_n (i := (.iload_n 1)) (len := 1) (by decide +kernel) rfl
theorem x56_75 : Ze d 56 75 [l0, l1] (aI b :: aI a :: st) s = Ze d 56 76 [l0, l1] (aI (wrap (a + b)) :: st) s := Ze_n (i := .iadd) (len := 1) (by decide +kernel) rfl
theorem x56_76 (h0 : 0 ≤ i) (h1 : i < aN1 r) : Ze d 56 76 [l0, l1] (aI i :: aR r :: st) s = Ze d 56 77 [l0, l1] (aI (s r i.toNat) :: st) s := Ze_n (i := .iaload) (len := 1) (by decide +kernel) (if_pos ⟨h0, h1⟩)
theorem x56_77 : Ze d 56 77 [l0, l1] st s = Ze d 56 78 [l0, l1] (aI 3 :: st) s := Ze_n (i := (.iconst 3)) (len := 1) (by decide +kernel) rfl
theorem x56_78 : Ze d 56 78 [l0, l1] (aI b :: aI a :: st) s = if a = b then Ze d 56 81 [l0, l1] st s else Ze d 56 89 [l0, l1] st s := Ze_b (i := (.if_icmp .ne 11)) (len := 3) (by decide +kernel) rfl
theorem x56_81 : Ze d 56 81 [aR r, l1] st s = Ze d 56 82 [aR r, l1] (aR r :: st) s := Ze_n (i := (.aload_n 0)) (len := 1) (by decide +kernel) rfl
theorem x56_82 : Ze d 56 82 [l0, aI z] st s = Ze d 56 83 [l0, aI z] (aI z :: st) s := Ze_n (i := (.iload_n 1)) (len := 1) (by decide +kernel) rfl
theorem x56_83 (h : obC r = 0) (h6 : st.length ≤ 4) : Ze d 56 83 [l0, l1] (aI a1 :: aR r :: st) s = zcI (Zc d 50 [aR r, aI a1] s) d 56 86 [l0, l1] st := Ze_cvI (idx := 392) (len := 3) (as := [aI a1]) (by decide +kernel) rfl (by decide +kernel) rfl h h6
theorem x56_86 : Ze d 56 86 [l0, l1] st s = Ze d 56 90 [l0, l1] st s := Ze_n (i := (.goto 4)) (len := 3) (by decide +kernel) rfl
theorem x56_89 : Ze d 56 89 [l0, l1] st s = Ze d 56 90 [l0, l1] (aI 0 :: st) s := Ze_n (i := (.iconst 0)) (len := 1) (by decide +kernel) rfl
theorem x56_90 (h0 : 0 ≤ i) (h1 : i < aN1 r) : Ze d 56 90 [l0, l1] (aI z :: aI i :: aR r :: st) s = Ze d 56 91 [l0, l1] st (mu s r i.toNat z) := Ze_n (i := .iastore) (len := 1) (by decide +kernel) (if_pos ⟨h0, h1⟩)
theorem x56_91 : Ze d 56 91 [l0, aI z] st s = Ze d 56 94 [l0, aI (wrap (z + 1))] st s := Ze_n (i := (.iinc 1 1)) (len := 3) (by decide +kernel) rfl
theorem x56_94 : Ze d 56 94 [l0, l1] st s = Ze d 56 55 [l0, l1] st s := Ze_n (i := (.goto (-39))) (len := 3) (by decide +kernel) rfl
theorem x56_97 : Ze d 56 97 [l0, l1] st s = Ze d 56 98 [l0, l1] (aI 0 :: st) s := Ze_n (i := (.iconst 0)) (len := 1) (by decide +kernel) rfl
theorem x56_98 : Ze d 56 98 [l0, l1] (aI z :: st) s = Ze d 56 99 [l0, aI z] st s := Ze_n (i := (.istore_n 1)) (len := 1) (by decide +kernel) rfl
theorem x56_99 : Ze d 56 99 [l0, aI z] st s = Ze d 56 100 [l0, aI z] (aI z :: st) s := Ze_n (i := (.iload_n 1)) (len := 1) (by decide +kernel) rfl
theorem x56_100 : Ze d 56 100 [aR r, l1] st s = Ze d 56 101 [aR r, l1] (aR r :: st) s := Ze_n (i := (.aload_n 0)) (len := 1) (by decide +kernel) rfl
theorem x56_101 (h : obC r = 0) : Ze d 56 101 [l0, l1] (aR r :: st) s = Ze d 56 104 [l0, l1] (aI (s r 71) :: st) s := Ze_gf (len := 3) (idx := 347) (by decide +kernel) rfl h rfl
theorem x56_104 : Ze d 56 104 [l0, l1] (aI b :: aI a :: st) s = if a < b then Ze d 56 107 [l0, l1] st s else Ze d 56 138 [l0, l1] st s := Ze_b (i := (.if_icmp .ge 34)) (len := 3) (by decide +kernel) rfl
theorem x56_107 : Ze d 56 107 [aR r, l1] st s = Ze d 56 108 [aR r, l1] (aR r :: st) s := Ze_n (i := (.aload_n 0)) (len := 1) (by decide +kernel) rfl
theorem x56_108 (h : obC r = 0) : Ze d 56 108 [l0, l1] (aR r :: st) s = Ze d 56 111 [l0, l1] (aR (fcn r 44) :: st) s := Ze_gf (len := 3) (idx := 116) (by decide +kernel) rfl h rfl
theorem x56_111 : Ze d 56 111 [l0, l1] st s = Ze d 56 113 [l0, l1] (aI 24 :: st) s := Ze_n (i := (.bipush 24)) (len := 2) (by decide +kernel) rfl
theorem x56_113 : Ze d 56 113 [l0, aI z] st s = Ze d 56 114 [l0, aI z] (aI z :: st) s := Ze_n (i := (.iload_n 1)) (len := 1) (by decide +kernel) rfl
theorem x56_114 : Ze d 56 114 [l0, l1] (aI b :: aI a :: st) s = Ze d 56 115 [l0, l1] (aI (wrap (a + b)) :: st) s := Ze_n (i := .iadd) (len := 1) (by decide +kernel) rfl
theorem x56_115 (h0 : 0 ≤ i) (h1 : i < aN1 r) : Ze d 56 115 [l0, l1] (aI i :: aR r :: st) s = Ze d 56 116 [l0, l1] (aI (s r i.toNat) :: st) s := Ze_n (i := .iaload) (len := 1) (by decide +kernel) (if_pos ⟨h0, h1⟩)
theorem x56_116 : Ze d 56 116 [l0, l1] st s = Ze d 56 117 [l0, l1] (aI 3 :: st) s := Ze_n (i := (.iconst 3)) (len := 1) (by decide +kernel) rfl
theorem x56_117 : Ze d 56 117 [l0, l1] (aI b :: aI a :: st) s = if a = b then Ze d 56 120 [l0, l1] st s else Ze d 56 132 [l0, l1] st s := Ze_b (i := (.if_icmp .ne 15)) (len := 3) (by decide +kernel) rfl
theorem x56_120 : Ze d 56 120 [aR r, l1] st s = Ze d 56 121 [aR r, l1] (aR r :: st) s := Ze_n (i := (.aload_n 0)) (len := 1) (by decide +kernel) rfl
theorem x56_121 (h : obC r = 0) : Ze d 56 121 [l0, l1] (aR r :: st) s = Ze d 56 124 [l0, l1] (aR (fcn r 60) :: st) s := Ze_gf (len := 3) (idx := 146) (by decide +kernel) rfl h rfl
theorem x56_124 : Ze d 56 124 [l0, aI z] st s = Ze d 56 125 [l0, aI z] (aI z :: st) s := Ze_n (i := (.iload_n 1)) (len := 1) (by decide +kernel) rfl
theorem x56_125 : Ze d 56 125 [aR r, l1] st s = Ze d 56 126 [aR r, l1] (aR r :: st) s := Ze_n (i := (.aload_n 0)) (len := 1) (by decide +kernel) rfl
theorem x56_126 (h : obC r = 0) : Ze d 56 126 [l0, l1] (aR r :: st) s = Ze d 56 129 [l0, l1] (aR (fcn r 63) :: st) s := Ze_gf (len := 3) (idx := 155) (by decide +kernel) rfl h rfl
theorem x56_129 : Ze d 56 129 [l0, aI z] st s = Ze d 56 130 [l0, aI z] (aI z :: st) s := Ze_n (i := (.iload_n 1)) (len := 1) (by decide +kernel) rfl
theorem x56_130 (h0 : 0 ≤ i) (h1 : i < aN1 r) : Ze d 56 130 [l0, l1] (aI i :: aR r :: st) s = Ze d 56 131 [l0, l1] (aI (s r i.toNat) :: st) s := Ze_n (i := .iaload) (len := 1) (by decide +kernel) (if_pos ⟨h0, h1⟩)
theorem x56_131 (h0 : 0 ≤ i) (h1 : i < aN1 r) : Ze d 56 131 [l0, l1] (aI z :: aI i :: aR r :: st) s = Ze d 56 132 [l0, l1] st (mu s r i.toNat z) := Ze_n (i := .iastore) (len := 1) (by decide +kernel) (if_pos ⟨h0, h1⟩)
theorem x56_132 : Ze d 56 132 [l0, aI z] st s = Ze d 56 135 [l0, aI (wrap (z + 1))] st s := Ze_n (i := (.iinc 1 1)) (len := 3) (by decide +kernel) rfl
theorem x56_135 : Ze d 56 135 [l0, l1] st s = Ze d 56 99 [l0, l1] st s := Ze_n (i := (.goto (-36))) (len := 3) (by decide +kernel) rfl
theorem x56_138 : Ze d 56 138 [aR r, l1] st s = Ze d 56 139 [aR r, l1] (aR r :: st) s := Ze_n (i := (.aload_n 0)) (len := 1) (by decide +kernel) rfl
theorem x56_139 : Ze d 56 139 [l0, l1] (aR r :: st) s = Ze d 56 140 [l0, l1] (aR r :: aR r :: st) s := Ze_n (i := .dup) (len := 1) (by decide +kernel) rfl
theorem x56_139i : Ze d 56 139 [l0, l1] (aI a :: st) s = Ze d 56 140 [l0, l1] (aI a :: aI a :: st) s := Ze_n (i := .dup) (len := 1) (by decide +kernel) rfl
theorem x56_140 (h : obC r = 0) : Ze d 56 140 [l0, l1] (aR r :: st) s = Ze d 56 143 [l0, l1] (aI (s r 74) :: st) s := Ze_gf (len := 3) (idx := 356) (by decide +kernel) rfl h rfl
theorem x56_143 : Ze d 56 143 [l0, l1] st s = Ze d 56 144 [l0, l1] (aI 1 :: st) s := Ze_n (i := (.iconst 1)) (len := 1) (by decide +kernel) rfl
theorem x56_144 : Ze d 56 144 [l0, l1] (aI b :: aI a :: st) s = Ze d 56 145 [l0, l1] (aI (wrap (a + b)) :: st) s := Ze_n (i := .iadd) (len := 1) (by decide +kernel) rfl
theorem x56_145 (h : obC r = 0) : Ze d 56 145 [l0, l1] (aI z :: aR r :: st) s = Ze d 56 148 [l0, l1] st (mu s r 74 z) := Ze_n (i := .putfield 356) (len := 3) (by decide +kernel) (if_pos h)
theorem x56_148 : Ze d 56 148 [aR r, l1] st s = Ze d 56 149 [aR r, l1] (aR r :: st) s := Ze_n (i := (.aload_n 0)) (len := 1) (by decide +kernel) rfl
theorem x56_149 (h : obC r = 0) (h6 : st.length ≤ 4) : Ze d 56 149 [l0, l1] (aR r :: st) s = zcV (Zc d 51 [aR r] s) d 56 152 [l0, l1] st := Ze_cvV (idx := 383) (len := 3) (as := []) (by decide +kernel) rfl (by decide +kernel) rfl h h6
theorem x56_152 : Ze d 56 152 [l0, l1] [] s = rV s := Ze_v (by decide +kernel) rfl
theorem en56 : Zc (d + 1) 56 [aR r] s = Ze d 56 0 [aR r, aU] [] s := rfl
theorem x57_0 : Ze d 57 0 [l0, aI z, l2] st s = Ze d 57 1 [l0, aI z, l2] (aI z :: st) s := Ze_n (i := (.iload_n 1)) (len := 1) (by decide +kernel) rfl
theorem x57_1 : Ze d 57 1 [l0, l1, l2] st s = Ze d 57 2 [l0, l1, l2] (aI 1 :: st) s := Ze_n (i := (.iconst 1)) (len := 1) (by decide +kernel) rfl
theorem x57_2 : Ze d 57 2 [l0, l1, l2] st s = Ze d 57 4 [l0, l1, l2] (aI 40 :: st) s := Ze_n (i := (.bipush 40)) (len := 2) (by decide +kernel) rfl
theorem x57_4 (h6 : st.length ≤ 4) : Ze d 57 4 [l0, l1, l2] (aI a2 :: aI a1 :: aI a0 :: st) s = zcI (Zc d 1 [aI a0, aI a1, aI a2] s) d 57 7 [l0, l1, l2] st := Ze_csI (idx := 183) (len := 3) (as := [aI a0, aI a1, aI a2]) (by decide +kernel) rfl rfl (by decide +kernel) rfl h6
theorem x57_7 : Ze d 57 7 [l0, l1, l2] (aI a :: st) s = if a = 0 then Ze d 57 10 [l0, l1, l2] st s else Ze d 57 16 [l0, l1, l2] st s := Ze_b (i := (.ifCond .ne 9)) (len := 3) (by decide +kernel) rfl
theorem x57_10 : Ze d 57 10 [aR r, l1, l2] st s = Ze d 57 11 [aR r, l1, l2] (aR r :: st) s := Ze_n (i := (.aload_n 0)) (len := 1) (by decide +kernel) rfl
theorem x57_11 : Ze d 57 11 [l0, l1, l2] st s = Ze d 57 12 [l0, l1, l2] (aI 1 :: st) s := Ze_n (i := (.iconst 1)) (len := 1) (by decide +kernel) rfl
theorem x57_12 (h : obC r = 0) (h6 : st.length ≤ 4) : Ze d 57 12 [l0, l1, l2] (aI a1 :: aR r :: st) s = zcI (Zc d 2 [aR r, aI a1] s) d 57 15 [l0, l1, l2] st := Ze_cvI (idx := 187) (len := 3) (as := [aI a1]) (by decide +kernel) rfl (by decide +kernel) rfl h h6
theorem x57_15 : Ze d 57 15 [l0, l1, l2] [aI z] s = rI z s := Ze_i1 (by decide +kernel) rfl
theorem x57_16 : Ze d 57 16 [aR r, l1, l2] st s = Ze d 57 17 [aR r, l1, l2] (aR r :: st) s := Ze_n (i := (.aload_n 0)) (len := 1) (by decide +kernel) rfl
theorem x57_17 (h : obC r = 0) : Ze d 57 17 [l0, l1, l2] (aR r :: st) s = Ze d 57 20 [l0, l1, l2] (aI (s r 75) :: st) s := Ze_gf (len := 3) (idx := 359) (by decide +kernel) rfl h rfl
theorem x57_20 : Ze d 57 20 [l0, l1, l2] (aI a :: st) s = if a = 0 then Ze d 57 23 [l0, l1, l2] st s else Ze d 57 29 [l0, l1, l2] st s := Ze_b (i := (.ifCond .ne 9)) (len := 3) (by decide +kernel) rfl
theorem x57_23 : Ze d 57 23 [aR r, l1, l2] st s = Ze d 57 24 [aR r, l1, l2] (aR r :: st) s := Ze_n (i := (.aload_n 0)) (len := 1) (by decide +kernel) rfl
theorem x57_24 : Ze d 57 24 [l0, l1, l2] st s = Ze d 57 25 [l0, l1, l2] (aI 2 :: st) s := Ze_n (i := (.iconst 2)) (len := 1) (by decide +kernel) rfl
theorem x57_25 (h : obC r = 0) (h6 : st.length ≤ 4) : Ze d 57 25 [l0, l1, l2] (aI a1 :: aR r :: st) s = zcI (Zc d 2 [aR r, aI a1] s) d 57 28 [l0, l1, l2] st := Ze_cvI (idx := 187) (len := 3) (as := [aI a1]) (by decide +kernel) rfl (by decide +kernel) rfl h h6
theorem x57_28 : Ze d 57 28 [l0, l1, l2] [aI z] s = rI z s := Ze_i1 (by decide +kernel) rfl
theorem x57_29 : Ze d 57 29 [aR r, l1, l2] st s = Ze d 57 30 [aR r, l1, l2] (aR r :: st) s := Ze_n (i := (.aload_n 0)) (len := 1) (by decide +kernel) rfl
theorem x57_30 : Ze d 57 30 [l0, l1, l2] st s = Ze d 57 31 [l0, l1, l2] (aI 0 :: st) s := Ze_n (i := (.iconst 0)) (len := 1) (by decide +kernel) rfl
theorem x57_31 (h : obC r = 0) : Ze d 57 31 [l0, l1, l2] (aI z :: aR r :: st) s = Ze d 57 34 [l0, l1, l2] st (mu s r 4 z) := Ze_n (i := .putfield 180) (len := 3) (by decide +kernel) (if_pos h)
theorem x57_34 : Ze d 57 34 [l0, l1, l2] st s = Ze d 57 35 [l0, l1, l2] (aI 0 :: st) s := Ze_n (i := (.iconst 0)) (len := 1) (by decide +kernel) rfl
theorem x57_35 : Ze d 57 35 [l0, l1, l2] (aI z :: st) s = Ze d 57 36 [l0, l1, aI z] st s := Ze_n (i := (.istore_n 2)) (len := 1) (by decide +kernel) rfl
theorem x57_36 : Ze d 57 36 [l0, l1, aI z] st s = Ze d 57 37 [l0, l1, aI z] (aI z :: st) s := Ze_n (i := (.iload_n 2)) (len := 1) (by decide +kernel) rfl
theorem x57_37 : Ze d 57 37 [l0, aI z, l2] st s = Ze d 57 38 [l0, aI z, l2] (aI z :: st) s := Ze_n (i := (.iload_n 1)) (len := 1) (by decide +kernel) rfl
theorem x57_38 : Ze d 57 38 [l0, l1, l2] (aI b :: aI a :: st) s = if a < b then Ze d 57 41 [l0, l1, l2] st s else Ze d 57 51 [l0, l1, l2] st s := Ze_b (i := (.if_icmp .ge 13)) (len := 3) (by decide +kernel) rfl
theorem x57_41 : Ze d 57 41 [aR r, l1, l2] st s = Ze d 57 42 [aR r, l1, l2] (aR r :: st) s := Ze_n (i := (.aload_n 0)) (len := 1) (by decide +kernel) rfl
theorem x57_42 (h : obC r = 0) (h6 : st.length ≤ 4) : Ze d 57 42 [l0, l1, l2] (aR r :: st) s = zcV (Zc d 56 [aR r] s) d 57 45 [l0, l1, l2] st := Ze_cvV (idx := 395) (len := 3) (as := []) (by decide +kernel) rfl (by decide +kernel) rfl h h6
theorem x57_45 : Ze d 57 45 [l0, l1, aI z] st s = Ze d 57 48 [l0, l1, aI (wrap (z + 1))] st s := Ze_n (i := (.iinc 2 1)) (len := 3) (by decide +kernel) rfl
theorem x57_48 : Ze d 57 48 [l0, l1, l2] st s = Ze d 57 36 [l0, l1, l2] st s := Ze_n (i := (.goto (-12))) (len := 3) (by decide +kernel) rfl
theorem x57_51 : Ze d 57 51 [aR r, l1, l2] st s = Ze d 57 52 [aR r, l1, l2] (aR r :: st) s := Ze_n (i := (.aload_n 0)) (len := 1) (by decide +kernel) rfl
theorem x57_52 (h : obC r = 0) : Ze d 57 52 [l0, l1, l2] (aR r :: st) s = Ze d 57 55 [l0, l1, l2] (aI (s r 74) :: st) s := Ze_gf (len := 3) (idx := 356) (by decide +kernel) rfl h rfl
theorem x57_55 : Ze d 57 55 [l0, l1, l2] [aI z] s = rI z s := Ze_i1 (by decide +kernel) rfl
theorem en57 : Zc (d + 1) 57 [aR r, aI a1] s = Ze d 57 0 [aR r, aI a1, aU] [] s := rfl
theorem x58_0 : Ze d 58 0 [aR r, l1] st s = Ze d 58 1 [aR r, l1] (aR r :: st) s := Ze_n (i := (.aload_n 0)) (len := 1) (by decide +kernel) rfl
theorem x58_1 : Ze d 58 1 [l0, aI z] st s = Ze d 58 2 [l0, aI z] (aI z :: st) s := Ze_n (i := (.iload_n 1)) (len := 1) (by decide +kernel) rfl
theorem x58_2 : Ze d 58 2 [l0, l1] st s = Ze d 58 3 [l0, l1] (aI 0 :: st) s := Ze_n (i := (.iconst 0)) (len := 1) (by decide +kernel) rfl
theorem x58_3 : Ze d 58 3 [aR r, l1] st s = Ze d 58 4 [aR r, l1] (aR r :: st) s := Ze_n (i := (.aload_n 0)) (len := 1) (by decide +kernel) rfl
theorem x58_4 (h : obC r = 0) : Ze d 58 4 [l0, l1] (aR r :: st) s = Ze d 58 7 [l0, l1] (aI (s r 71) :: st) s := Ze_gf (len := 3) (idx := 347) (by decide +kernel) rfl h rfl
theorem x58_7 : Ze d 58 7 [l0, l1] st s = Ze d 58 8 [l0, l1] (aI 1 :: st) s := Ze_n (i := (.iconst 1)) (len := 1) (by decide +kernel) rfl
theorem x58_8 : Ze d 58 8 [l0, l1] (aI b :: aI a :: st) s = Ze d 58 9 [l0, l1] (aI (wrap (a - b)) :: st) s := Ze_n (i := .isub) (len := 1) (by decide +kernel) rfl
theorem x58_9 (h6 : st.length ≤ 4) : Ze d 58 9 [l0, l1] (aI a2 :: aI a1 :: aI a0 :: st) s = zcI (Zc d 1 [aI a0, aI a1, aI a2] s) d 58 12 [l0, l1] st := Ze_csI (idx := 183) (len := 3) (as := [aI a0, aI a1, aI a2]) (by decide +kernel) rfl rfl (by decide +kernel) rfl h6
theorem x58_12 : Ze d 58 12 [l0, l1] (aI a :: st) s = if a = 0 then Ze d 58 19 [l0, l1] st s else Ze d 58 15 [l0, l1] st s := Ze_b (i := (.ifCond .eq 7)) (len := 3) (by decide +kernel) rfl
theorem x58_15 : Ze d 58 15 [l0, l1] st s = Ze d 58 16 [l0, l1] (aI 0 :: st) s := Ze_n (i := (.iconst 0)) (len := 1) (by decide +kernel) rfl
theorem x58_16 : Ze d 58 16 [l0, l1] st s = Ze d 58 20 [l0, l1] st s := Ze_n (i := (.goto 4)) (len := 3) (by decide +kernel) rfl
theorem x58_19 : Ze d 58 19 [l0, l1] st s = Ze d 58 20 [l0, l1] (aI 1 :: st) s := Ze_n (i := (.iconst 1)) (len := 1) (by decide +kernel) rfl
theorem x58_20 (h : obC r = 0) : Ze d 58 20 [l0, l1] (aI z :: aR r :: st) s = Ze d 58 23 [l0, l1] st (mu s r 4 z) := Ze_n (i := .putfield 180) (len := 3) (by decide +kernel) (if_pos h)
theorem x58_23 : Ze d 58 23 [aR r, l1] st s = Ze d 58 24 [aR r, l1] (aR r :: st) s := Ze_n (i := (.aload_n 0)) (len := 1) (by decide +kernel) rfl
theorem x58_24 (h : obC r = 0) : Ze d 58 24 [l0, l1] (aR r :: st) s = Ze d 58 27 [l0, l1] (aI (s r 4) :: st) s := Ze_gf (len := 3) (idx := 180) (by decide +kernel) rfl h rfl
theorem x58_27 : Ze d 58 27 [l0, l1] (aI a :: st) s = if 0 < a then Ze d 58 37 [l0, l1] st s else Ze d 58 30 [l0, l1] st s := Ze_b (i := (.ifCond .gt 10)) (len := 3) (by decide +kernel) rfl
theorem x58_30 : Ze d 58 30 [aR r, l1] st s = Ze d 58 31 [aR r, l1] (aR r :: st) s := Ze_n (i := (.aload_n 0)) (len := 1) (by decide +kernel) rfl
theorem x58_31 (h : obC r = 0) : Ze d 58 31 [l0, l1] (aR r :: st) s = Ze d 58 34 [l0, l1] (aI (s r 74) :: st) s := Ze_gf (len := 3) (idx := 356) (by decide +kernel) rfl h rfl
theorem x58_34 : Ze d 58 34 [l0, l1] (aI a :: st) s = if a = 0 then Ze d 58 37 [l0, l1] st s else Ze d 58 41 [l0, l1] st s := Ze_b (i := (.ifCond .ne 7)) (len := 3) (by decide +kernel) rfl
theorem x58_37 : Ze d 58 37 [l0, l1] st s = Ze d 58 38 [l0, l1] (aD dz0 :: st) s := Ze_n (i := (.dconst 0)) (len := 1) (by decide +kernel) rfl
theorem x58_38 : Ze d 58 38 [l0, l1] st s = Ze d 58 54 [l0, l1] st s := Ze_n (i := (.goto 16)) (len := 3) (by decide +kernel) rfl
theorem x58_41 : Ze d 58 41 [aR r, l1] st s = Ze d 58 42 [aR r, l1] (aR r :: st) s := Ze_n (i := (.aload_n 0)) (len := 1) (by decide +kernel) rfl
theorem x58_42 (h : obC r = 0) : Ze d 58 42 [l0, l1] (aR r :: st) s = Ze d 58 45 [l0, l1] (aR (fcn r 62) :: st) s := Ze_gf (len := 3) (idx := 152) (by decide +kernel) rfl h rfl
theorem x58_45 : Ze d 58 45 [l0, aI z] st s = Ze d 58 46 [l0, aI z] (aI z :: st) s := Ze_n (i := (.iload_n 1)) (len := 1) (by decide +kernel) rfl
theorem x58_46 (h0 : 0 ≤ i) (h1 : i < aN1 r) : Ze d 58 46 [l0, l1] (aI i :: aR r :: st) s = Ze d 58 47 [l0, l1] (aI (s r i.toNat) :: st) s := Ze_n (i := .iaload) (len := 1) (by decide +kernel) (if_pos ⟨h0, h1⟩)
theorem x58_47 : Ze d 58 47 [l0, l1] (aI a :: st) s = Ze d 58 48 [l0, l1] (aD (i2dZ a) :: st) s := Ze_n (i := .i2d) (len := 1) (by decide +kernel) rfl
theorem x58_48 : Ze d 58 48 [aR r, l1] st s = Ze d 58 49 [aR r, l1] (aR r :: st) s := Ze_n (i := (.aload_n 0)) (len := 1) (by decide +kernel) rfl
theorem x58_49 (h : obC r = 0) : Ze d 58 49 [l0, l1] (aR r :: st) s = Ze d 58 52 [l0, l1] (aI (s r 74) :: st) s := Ze_gf (len := 3) (idx := 356) (by decide +kernel) rfl h rfl
theorem x58_52 : Ze d 58 52 [l0, l1] (aI a :: st) s = Ze d 58 53 [l0, l1] (aD (i2dZ a) :: st) s := Ze_n (i := .i2d) (len := 1) (by decide +kernel) rfl
theorem x58_53 (h : dnum a b) : Ze d 58 53 [l0, l1] (aD b :: aD a :: st) s = Ze d 58 54 [l0, l1] (aD (ddivZ a b) :: st) s := Ze_n (i := .ddiv) (len := 1) (by decide +kernel) (if_pos h)
theorem x58_54 : Ze d 58 54 [l0, l1] [aD z] s = rD z s := Ze_d (by decide +kernel) rfl
theorem en58 : Zc (d + 1) 58 [aR r, aI a1] s = Ze d 58 0 [aR r, aI a1] [] s := rfl
theorem x59_0 : Ze d 59 0 [l0, aI z, l2, l3, l4, l5] st s = Ze d 59 1 [l0, aI z, l2, l3, l4, l5] (aI z :: st) s := Ze_n (i := (.iload_n 1)) (len := 1) (by decide +kernel) rfl
theorem x59_1 : Ze d 59 1 [l0, l1, l2, l3, l4, l5] st s = Ze d 59 2 [l0, l1, l2, l3, l4, l5] (aI 0 :: st) s := Ze_n (i := (.iconst 0)) (len := 1) (by decide +kernel) rfl
theorem x59_2 : Ze d 59 2 [l0, l1, l2, l3, l4, l5] st s = Ze d 59 3 [l0, l1, l2, l3, l4, l5] (aI 5 :: st) s := Ze_n (i := (.iconst 5)) (len := 1) (by decide +kernel) rfl
theorem x59_3 (h6 : st.length ≤ 4) : Ze d 59 3 [l0, l1, l2, l3, l4, l5] (aI a2 :: aI a1 :: aI a0 :: st) s = zcI (Zc d 1 [aI a0, aI a1, aI a2] s) d 59 6 [l0, l1, l2, l3, l4, l5] st := Ze_csI (idx := 183) (len := 3) (as := [aI a0, aI a1, aI a2]) (by decide +kernel) rfl rfl (by decide +kernel) rfl h6
theorem x59_6 : Ze d 59 6 [l0, l1, l2, l3, l4, l5] (aI a :: st) s = if a = 0 then Ze d 59 9 [l0, l1, l2, l3, l4, l5] st s else Ze d 59 15 [l0, l1, l2, l3, l4, l5] st s := Ze_b (i := (.ifCond .ne 9)) (len := 3) (by decide +kernel) rfl
theorem x59_9 : Ze d 59 9 [aR r, l1, l2, l3, l4, l5] st s = Ze d 59 10 [aR r, l1, l2, l3, l4, l5] (aR r :: st) s := Ze_n (i := (.aload_n 0)) (len := 1) (by decide +kernel) rfl
theorem x59_10 : Ze d 59 10 [l0, l1, l2, l3, l4, l5] st s = Ze d 59 11 [l0, l1, l2, l3, l4, l5] (aI 1 :: st) s := Ze_n (i := (.iconst 1)) (len := 1) (by decide +kernel) rfl
theorem x59_11 (h : obC r = 0) (h6 : st.length ≤ 4) : Ze d 59 11 [l0, l1, l2, l3, l4, l5] (aI a1 :: aR r :: st) s = zcI (Zc d 2 [aR r, aI a1] s) d 59 14 [l0, l1, l2, l3, l4, l5] st := Ze_cvI (idx := 187) (len := 3) (as := [aI a1]) (by decide +kernel) rfl (by decide +kernel) rfl h h6
theorem x59_14 : Ze d 59 14 [l0, l1, l2, l3, l4, l5] [aI z] s = rI z s := Ze_i1 (by decide +kernel) rfl
theorem x59_15 : Ze d 59 15 [aR r, l1, l2, l3, l4, l5] st s = Ze d 59 16 [aR r, l1, l2, l3, l4, l5] (aR r :: st) s := Ze_n (i := (.aload_n 0)) (len := 1) (by decide +kernel) rfl
theorem x59_16 : Ze d 59 16 [l0, l1, l2, l3, l4, l5] st s = Ze d 59 17 [l0, l1, l2, l3, l4, l5] (aI 0 :: st) s := Ze_n (i := (.iconst 0)) (len := 1) (by decide +kernel) rfl
theorem x59_17 (h : obC r = 0) : Ze d 59 17 [l0, l1, l2, l3, l4, l5] (aI z :: aR r :: st) s = Ze d 59 20 [l0, l1, l2, l3, l4, l5] st (mu s r 4 z) := Ze_n (i := .putfield 180) (len := 3) (by decide +kernel) (if_pos h)
theorem x59_20 : Ze d 59 20 [l0, l1, l2, l3, l4, l5] st s = Ze d 59 21 [l0, l1, l2, l3, l4, l5] (aI 0 :: st) s := Ze_n (i := (.iconst 0)) (len := 1) (by decide +kernel) rfl
theorem x59_21 : Ze d 59 21 [l0, l1, l2, l3, l4, l5] (aI z :: st) s = Ze d 59 22 [l0, l1, aI z, l3, l4, l5] st s := Ze_n (i := (.istore_n 2)) (len := 1) (by decide +kernel) rfl
theorem x59_22 : Ze d 59 22 [l0, l1, l2, l3, l4, l5] st s = Ze d 59 23 [l0, l1, l2, l3, l4, l5] (aI 0 :: st) s := Ze_n (i := (.iconst 0)) (len := 1) (by decide +kernel) rfl
theorem x59_23 : Ze d 59 23 [l0, l1, l2, l3, l4, l5] (aI z :: st) s = Ze d 59 24 [l0, l1, l2, aI z, l4, l5] st s := Ze_n (i := (.istore_n 3)) (len := 1) (by decide +kernel) rfl
theorem x59_24 : Ze d 59 24 [l0, l1, l2, l3, l4, l5] st s = Ze d 59 25 [l0, l1, l2, l3, l4, l5] (aI 0 :: st) s := Ze_n (i := (.iconst 0)) (len := 1) (by decide +kernel) rfl
theorem x59_25 : Ze d 59 25 [l0, l1, l2, l3, l4, l5] (aI z :: st) s = Ze d 59 27 [l0, l1, l2, l3, aI z, l5] st s := Ze_n (i := (.istore 4)) (len := 2) (by decide +kernel) rfl
theorem x59_27 : Ze d 59 27 [l0, l1, l2, l3, l4, l5] st s = Ze d 59 29 [l0, l1, l2, l3, l4, l5] (aI 24 :: st) s := Ze_n (i := (.bipush 24)) (len := 2) (by decide +kernel) rfl
theorem x59_29 : Ze d 59 29 [l0, l1, l2, l3, l4, l5] (aI z :: st) s = Ze d 59 31 [l0, l1, l2, l3, l4, aI z] st s := Ze_n (i := (.istore 5)) (len := 2) (by decide +kernel) rfl
theorem x59_31 : Ze d 59 31 [l0, l1, l2, l3, l4, aI z] st s = Ze d 59 33 [l0, l1, l2, l3, l4, aI z] (aI z :: st) s := Ze_n (i := (.iload 5)) (len := 2) (by decide +kernel) rfl
theorem x59_33 : Ze d 59 33 [l0, l1, l2, l3, l4, l5] st s = Ze d 59 35 [l0, l1, l2, l3, l4, l5] (aI 24 :: st) s := Ze_n (i := (.bipush 24)) (len := 2) (by decide +kernel) rfl
theorem x59_35 : Ze d 59 35 [aR r, l1, l2, l3, l4, l5] st s = Ze d 59 36 [aR r, l1, l2, l3, l4, l5] (aR r :: st) s := Ze_n (i := (.aload_n 0)) (len := 1) (by decide +kernel) rfl
theorem x59_36 (h : obC r = 0) : Ze d 59 36 [l0, l1, l2, l3, l4, l5] (aR r :: st) s = Ze d 59 39 [l0, l1, l2, l3, l4, l5] (aI (s r 71) :: st) s := Ze_gf (len := 3) (idx := 347) (by decide +kernel) rfl h rfl
theorem x59_39 : Ze d 59 39 [l0, l1, l2, l3, l4, l5] (aI b :: aI a :: st) s = Ze d 59 40 [l0, l1, l2, l3, l4, l5] (aI (wrap (a + b)) :: st) s := Ze_n (i := .iadd) (len := 1) (by decide +kernel) rfl
theorem x59_40 : Ze d 59 40 [l0, l1, l2, l3, l4, l5] (aI b :: aI a :: st) s = if a < b then Ze d 59 43 [l0, l1, l2, l3, l4, l5] st s else Ze d 59 85 [l0, l1, l2, l3, l4, l5] st s := Ze_b (i := (.if_icmp .ge 45)) (len := 3) (by decide +kernel) rfl
theorem x59_43 : Ze d 59 43 [l0, l1, aI z, l3, l4, l5] st s = Ze d 59 44 [l0, l1, aI z, l3, l4, l5] (aI z :: st) s := Ze_n (i := (.iload_n 2)) (len := 1) (by decide +kernel) rfl
theorem x59_44 : Ze d 59 44 [aR r, l1, l2, l3, l4, l5] st s = Ze d 59 45 [aR r, l1, l2, l3, l4, l5] (aR r :: st) s := Ze_n (i := (.aload_n 0)) (len := 1) (by decide +kernel) rfl
theorem x59_45 (h : obC r = 0) : Ze d 59 45 [l0, l1, l2, l3, l4, l5] (aR r :: st) s = Ze d 59 48 [l0, l1, l2, l3, l4, l5] (aR (fcn r 46) :: st) s := Ze_gf (len := 3) (idx := 122) (by decide +kernel) rfl h rfl
theorem x59_48 : Ze d 59 48 [l0, l1, l2, l3, l4, aI z] st s = Ze d 59 50 [l0, l1, l2, l3, l4, aI z] (aI z :: st) s := Ze_n (i := (.iload 5)) (len := 2) (by decide +kernel) rfl
theorem x59_50 (h0 : 0 ≤ i) (h1 : i < aN1 r) : Ze d 59 50 [l0, l1, l2, l3, l4, l5] (aI i :: aR r :: st) s = Ze d 59 51 [l0, l1, l2, l3, l4, l5] (aI (s r i.toNat) :: st) s := Ze_n (i := .iaload) (len := 1) (by decide +kernel) (if_pos ⟨h0, h1⟩)
theorem x59_51 : Ze d 59 51 [l0, l1, l2, l3, l4, l5] (aI b :: aI a :: st) s = Ze d 59 52 [l0, l1, l2, l3, l4, l5] (aI (wrap (a + b)) :: st) s := Ze_n (i := .iadd) (len := 1) (by decide +kernel) rfl
theorem x59_52 : Ze d 59 52 [l0, l1, l2, l3, l4, l5] (aI z :: st) s = Ze d 59 53 [l0, l1, aI z, l3, l4, l5] st s := Ze_n (i := (.istore_n 2)) (len := 1) (by decide +kernel) rfl
theorem x59_53 : Ze d 59 53 [aR r, l1, l2, l3, l4, l5] st s = Ze d 59 54 [aR r, l1, l2, l3, l4, l5] (aR r :: st) s := Ze_n (i := (.aload_n 0)) (len := 1) (by decide +kernel) rfl
theorem x59_54 (h : obC r = 0) : Ze d 59 54 [l0, l1, l2, l3, l4, l5] (aR r :: st) s = Ze d 59 57 [l0, l1, l2, l3, l4, l5] (aR (fcn r 44) :: st) s := Ze_gf (len := 3) (idx := 116) (by decide +kernel) rfl h rfl
theorem x59_57 : Ze d 59 57 [l0, l1, l2, l3, l4, aI z] st s = Ze d 59 59 [l0, l1, l2, l3, l4, aI z] (aI z :: st) s := Ze_n (i := (.iload 5)) (len := 2) (by decide +kernel) rfl
theorem x59_59 (h0 : 0 ≤ i) (h1 : i < aN1 r) : Ze d 59 59 [l0, l1, l2, l3, l4, l5] (aI i :: aR r :: st) s = Ze d 59 60 [l0, l1, l2, l3, l4, l5] (aI (s r i.toNat) :: st) s := Ze_n (i := .iaload) (len := 1) (by decide +kernel) (if_pos ⟨h0, h1⟩)
theorem x59_60 : Ze d 59 60 [l0, l1, l2, l3, l4, l5] st s = Ze d 59 61 [l0, l1, l2, l3, l4, l5] (aI 3 :: st) s := Ze_n (i := (.iconst 3)) (len := 1) (by decide +kernel) rfl
theorem x59_61 : Ze d 59 61 [l0, l1, l2, l3, l4, l5] (aI b :: aI a :: st) s = if a = b then Ze d 59 64 [l0, l1, l2, l3, l4, l5] st s else Ze d 59 67 [l0, l1, l2, l3, l4, l5] st s := Ze_b (i := (.if_icmp .ne 6)) (len := 3) (by decide +kernel) rfl
theorem x59_64 : Ze d 59 64 [l0, l1, l2, aI z, l4, l5] st s = Ze d 59 67 [l0, l1, l2, aI (wrap (z + 1)), l4, l5] st s := Ze_n (i := (.iinc 3 1)) (len := 3) (by decide +kernel) rfl
theorem x59_67 : Ze d 59 67 [l0, l1, l2, l3, aI z, l5] st s = Ze d 59 69 [l0, l1, l2, l3, aI z, l5] (aI z :: st) s := Ze_n (i := (.iload 4)) (len := 2) (by decide +kernel) rfl
theorem x59_69 : Ze d 59 69 [aR r, l1, l2, l3, l4, l5] st s = Ze d 59 70 [aR r, l1, l2, l3, l4, l5] (aR r :: st) s := Ze_n (i := (.aload_n 0)) (len := 1) (by decide +kernel) rfl
theorem x59_70 (h : obC r = 0) : Ze d 59 70 [l0, l1, l2, l3, l4, l5] (aR r :: st) s = Ze d 59 73 [l0, l1, l2, l3, l4, l5] (aR (fcn r 47) :: st) s := Ze_gf (len := 3) (idx := 125) (by decide +kernel) rfl h rfl
theorem x59_73 : Ze d 59 73 [l0, l1, l2, l3, l4, aI z] st s = Ze d 59 75 [l0, l1, l2, l3, l4, aI z] (aI z :: st) s := Ze_n (i := (.iload 5)) (len := 2) (by decide +kernel) rfl
theorem x59_75 (h0 : 0 ≤ i) (h1 : i < aN1 r) : Ze d 59 75 [l0, l1, l2, l3, l4, l5] (aI i :: aR r :: st) s = Ze d 59 76 [l0, l1, l2, l3, l4, l5] (aI (s r i.toNat) :: st) s := Ze_n (i := .iaload) (len := 1) (by decide +kernel) (if_pos ⟨h0, h1⟩)
theorem x59_76 : Ze d 59 76 [l0, l1, l2, l3, l4, l5] (aI b :: aI a :: st) s = Ze d 59 77 [l0, l1, l2, l3, l4, l5] (aI (wrap (a + b)) :: st) s := Ze_n (i := .iadd) (len := 1) (by decide +kernel) rfl
theorem x59_77 : Ze d 59 77 [l0, l1, l2, l3, l4, l5] (aI z :: st) s = Ze d 59 79 [l0, l1, l2, l3, aI z, l5] st s := Ze_n (i := (.istore 4)) (len := 2) (by decide +kernel) rfl
theorem x59_79 : Ze d 59 79 [l0, l1, l2, l3, l4, aI z] st s = Ze d 59 82 [l0, l1, l2, l3, l4, aI (wrap (z + 1))] st s := Ze_n (i := (.iinc 5 1)) (len := 3) (by decide +kernel) rfl
theorem x59_82 : Ze d 59 82 [l0, l1, l2, l3, l4, l5] st s = Ze d 59 31 [l0, l1, l2, l3, l4, l5] st s := Ze_n (i := (.goto (-51))) (len := 3) (by decide +kernel) rfl
theorem x59_85 : Ze d 59 85 [l0, aI z, l2, l3, l4, l5] st s = Ze d 59 86 [l0, aI z, l2, l3, l4, l5] (aI z :: st) s := Ze_n (i := (.iload_n 1)) (len := 1) (by decide +kernel) rfl
theorem x59_86 : Ze d 59 86 [l0, l1, l2, l3, l4, l5] (aI a :: st) s = if a = 0 then Ze d 59 89 [l0, l1, l2, l3, l4, l5] st s else Ze d 59 96 [l0, l1, l2, l3, l4, l5] st s := Ze_b (i := (.ifCond .ne 10)) (len := 3) (by decide +kernel) rfl
theorem x59_89 : Ze d 59 89 [aR r, l1, l2, l3, l4, l5] st s = Ze d 59 90 [aR r, l1, l2, l3, l4, l5] (aR r :: st) s := Ze_n (i := (.aload_n 0)) (len := 1) (by decide +kernel) rfl
theorem x59_90 (h : obC r = 0) : Ze d 59 90 [l0, l1, l2, l3, l4, l5] (aR r :: st) s = Ze d 59 93 [l0, l1, l2, l3, l4, l5] (aI (s r 1) :: st) s := Ze_gf (len := 3) (idx := 191) (by decide +kernel) rfl h rfl
theorem x59_93 : Ze d 59 93 [l0, l1, l2, l3, l4, l5] st s = Ze d 59 140 [l0, l1, l2, l3, l4, l5] st s := Ze_n (i := (.goto 47)) (len := 3) (by decide +kernel) rfl
theorem x59_96 : Ze d 59 96 [l0, aI z, l2, l3, l4, l5] st s = Ze d 59 97 [l0, aI z, l2, l3, l4, l5] (aI z :: st) s := Ze_n (i := (.iload_n 1)) (len := 1) (by decide +kernel) rfl
theorem x59_97 : Ze d 59 97 [l0, l1, l2, l3, l4, l5] st s = Ze d 59 98 [l0, l1, l2, l3, l4, l5] (aI 1 :: st) s := Ze_n (i := (.iconst 1)) (len := 1) (by decide +kernel) rfl
theorem x59_98 : Ze d 59 98 [l0, l1, l2, l3, l4, l5] (aI b :: aI a :: st) s = if a = b then Ze d 59 101 [l0, l1, l2, l3, l4, l5] st s else Ze d 59 108 [l0, l1, l2, l3, l4, l5] st s := Ze_b (i := (.if_icmp .ne 10)) (len := 3) (by decide +kernel) rfl
theorem x59_101 : Ze d 59 101 [aR r, l1, l2, l3, l4, l5] st s = Ze d 59 102 [aR r, l1, l2, l3, l4, l5] (aR r :: st) s := Ze_n (i := (.aload_n 0)) (len := 1) (by decide +kernel) rfl
theorem x59_102 (h : obC r = 0) : Ze d 59 102 [l0, l1, l2, l3, l4, l5] (aR r :: st) s = Ze d 59 105 [l0, l1, l2, l3, l4, l5] (aI (s r 71) :: st) s := Ze_gf (len := 3) (idx := 347) (by decide +kernel) rfl h rfl
theorem x59_105 : Ze d 59 105 [l0, l1, l2, l3, l4, l5] st s = Ze d 59 140 [l0, l1, l2, l3, l4, l5] st s := Ze_n (i := (.goto 35)) (len := 3) (by decide +kernel) rfl
theorem x59_108 : Ze d 59 108 [l0, aI z, l2, l3, l4, l5] st s = Ze d 59 109 [l0, aI z, l2, l3, l4, l5] (aI z :: st) s := Ze_n (i := (.iload_n 1)) (len := 1) (by decide +kernel) rfl
theorem x59_109 : Ze d 59 109 [l0, l1, l2, l3, l4, l5] st s = Ze d 59 110 [l0, l1, l2, l3, l4, l5] (aI 2 :: st) s := Ze_n (i := (.iconst 2)) (len := 1) (by decide +kernel) rfl
theorem x59_110 : Ze d 59 110 [l0, l1, l2, l3, l4, l5] (aI b :: aI a :: st) s = if a = b then Ze d 59 113 [l0, l1, l2, l3, l4, l5] st s else Ze d 59 117 [l0, l1, l2, l3, l4, l5] st s := Ze_b (i := (.if_icmp .ne 7)) (len := 3) (by decide +kernel) rfl
theorem x59_113 : Ze d 59 113 [l0, l1, aI z, l3, l4, l5] st s = Ze d 59 114 [l0, l1, aI z, l3, l4, l5] (aI z :: st) s := Ze_n (i := (.iload_n 2)) (len := 1) (by decide +kernel) rfl
theorem x59_114 : Ze d 59 114 [l0, l1, l2, l3, l4, l5] st s = Ze d 59 140 [l0, l1, l2, l3, l4, l5] st s := Ze_n (i := (.goto 26)) (len := 3) (by decide +kernel) rfl
theorem x59_117 : Ze d 59 117 [l0, aI z, l2, l3, l4, l5] st s = Ze d 59 118 [l0, aI z, l2, l3, l4, l5] (aI z :: st) s := Ze_n (i := (.iload_n 1)) (len := 1) (by decide +kernel) rfl
theorem x59_118 : Ze d 59 118 [l0, l1, l2, l3, l4, l5] st s = Ze d 59 119 [l0, l1, l2, l3, l4, l5] (aI 3 :: st) s := Ze_n (i := (.iconst 3)) (len := 1) (by decide +kernel) rfl
theorem x59_119 : Ze d 59 119 [l0, l1, l2, l3, l4, l5] (aI b :: aI a :: st) s = if a = b then Ze d 59 122 [l0, l1, l2, l3, l4, l5] st s else Ze d 59 126 [l0, l1, l2, l3, l4, l5] st s := Ze_b (i := (.if_icmp .ne 7)) (len := 3) (by decide +kernel) rfl
theorem x59_122 : Ze d 59 122 [l0, l1, l2, aI z, l4, l5] st s = Ze d 59 123 [l0, l1, l2, aI z, l4, l5] (aI z :: st) s := Ze_n (i := (.iload_n 3)) (len := 1) (by decide +kernel) rfl
theorem x59_123 : Ze d 59 123 [l0, l1, l2, l3, l4, l5] st s = Ze d 59 140 [l0, l1, l2, l3, l4, l5] st s := Ze_n (i := (.goto 17)) (len := 3) (by decide +kernel) rfl
theorem x59_126 : Ze d 59 126 [l0, aI z, l2, l3, l4, l5] st s = Ze d 59 127 [l0, aI z, l2, l3, l4, l5] (aI z :: st) s := Ze_n (i := (.iload_n 1)) (len := 1) (by decide +kernel) rfl
theorem x59_127 : Ze d 59 127 [l0, l1, l2, l3, l4, l5] st s = Ze d 59 128 [l0, l1, l2, l3, l4, l5] (aI 4 :: st) s := Ze_n (i := (.iconst 4)) (len := 1) (by decide +kernel) rfl
theorem x59_128 : Ze d 59 128 [l0, l1, l2, l3, l4, l5] (aI b :: aI a :: st) s = if a = b then Ze d 59 131 [l0, l1, l2, l3, l4, l5] st s else Ze d 59 138 [l0, l1, l2, l3, l4, l5] st s := Ze_b (i := (.if_icmp .ne 10)) (len := 3) (by decide +kernel) rfl
theorem x59_131 : Ze d 59 131 [aR r, l1, l2, l3, l4, l5] st s = Ze d 59 132 [aR r, l1, l2, l3, l4, l5] (aR r :: st) s := Ze_n (i := (.aload_n 0)) (len := 1) (by decide +kernel) rfl
theorem x59_132 (h : obC r = 0) : Ze d 59 132 [l0, l1, l2, l3, l4, l5] (aR r :: st) s = Ze d 59 135 [l0, l1, l2, l3, l4, l5] (aI (s r 73) :: st) s := Ze_gf (len := 3) (idx := 353) (by decide +kernel) rfl h rfl
theorem x59_135 : Ze d 59 135 [l0, l1, l2, l3, l4, l5] st s = Ze d 59 140 [l0, l1, l2, l3, l4, l5] st s := Ze_n (i := (.goto 5)) (len := 3) (by decide +kernel) rfl
theorem x59_138 : Ze d 59 138 [l0, l1, l2, l3, aI z, l5] st s = Ze d 59 140 [l0, l1, l2, l3, aI z, l5] (aI z :: st) s := Ze_n (i := (.iload 4)) (len := 2) (by decide +kernel) rfl
theorem x59_140 : Ze d 59 140 [l0, l1, l2, l3, l4, l5] [aI z] s = rI z s := Ze_i1 (by decide +kernel) rfl
theorem en59 : Zc (d + 1) 59 [aR r, aI a1] s = Ze d 59 0 [aR r, aI a1, aU, aU, aU, aU] [] s := rfl
theorem x63_0 : Ze d 63 0 [l0, l1, l2, l3] st s = Ze d 63 1 [l0, l1, l2, l3] (aI 0 :: st) s := Ze_n (i := (.iconst 0)) (len := 1) (by decide +kernel) rfl
theorem x63_1 : Ze d 63 1 [l0, l1, l2, l3] (aI z :: st) s = Ze d 63 2 [l0, l1, aI z, l3] st s := Ze_n (i := (.istore_n 2)) (len := 1) (by decide +kernel) rfl
theorem x63_2 : Ze d 63 2 [aR r, l1, l2, l3] st s = Ze d 63 3 [aR r, l1, l2, l3] (aR r :: st) s := Ze_n (i := (.aload_n 0)) (len := 1) (by decide +kernel) rfl
theorem x63_3 (h : (kd r).1 = 1) : Ze d 63 3 [l0, l1, l2, l3] (aR r :: st) s = Ze d 63 4 [l0, l1, l2, l3] (aI ((kd r).2 : Int) :: st) s := Ze_n (i := .arraylength) (len := 1) (by decide +kernel) (if_pos h)
theorem x63_4 : Ze d 63 4 [l0, l1, l2, l3] (aI z :: st) s = Ze d 63 5 [l0, l1, l2, aI z] st s := Ze_n (i := (.istore_n 3)) (len := 1) (by decide +kernel) rfl
theorem x63_5 : Ze d 63 5 [l0, l1, aI z, l3] st s = Ze d 63 6 [l0, l1, aI z, l3] (aI z :: st) s := Ze_n (i := (.iload_n 2)) (len := 1) (by decide +kernel) rfl
theorem x63_6 : Ze d 63 6 [l0, l1, l2, aI z] st s = Ze d 63 7 [l0, l1, l2, aI z] (aI z :: st) s := Ze_n (i := (.iload_n 3)) (len := 1) (by decide +kernel) rfl
theorem x63_7 : Ze d 63 7 [l0, l1, l2, l3] (aI b :: aI a :: st) s = if a < b then Ze d 63 10 [l0, l1, l2, l3] st s else Ze d 63 20 [l0, l1, l2, l3] st s := Ze_b (i := (.if_icmp .ge 13)) (len := 3) (by decide +kernel) rfl
theorem x63_10 : Ze d 63 10 [aR r, l1, l2, l3] st s = Ze d 63 11 [aR r, l1, l2, l3] (aR r :: st) s := Ze_n (i := (.aload_n 0)) (len := 1) (by decide +kernel) rfl
theorem x63_11 : Ze d 63 11 [l0, l1, aI z, l3] st s = Ze d 63 12 [l0, l1, aI z, l3] (aI z :: st) s := Ze_n (i := (.iload_n 2)) (len := 1) (by decide +kernel) rfl
theorem x63_12 : Ze d 63 12 [l0, aI z, l2, l3] st s = Ze d 63 13 [l0, aI z, l2, l3] (aI z :: st) s := Ze_n (i := (.iload_n 1)) (len := 1) (by decide +kernel) rfl
theorem x63_13 (h0 : 0 ≤ i) (h1 : i < aN1 r) : Ze d 63 13 [l0, l1, l2, l3] (aI z :: aI i :: aR r :: st) s = Ze d 63 14 [l0, l1, l2, l3] st (mu s r i.toNat z) := Ze_n (i := .iastore) (len := 1) (by decide +kernel) (if_pos ⟨h0, h1⟩)
theorem x63_14 : Ze d 63 14 [l0, l1, aI z, l3] st s = Ze d 63 17 [l0, l1, aI (wrap (z + 1)), l3] st s := Ze_n (i := (.iinc 2 1)) (len := 3) (by decide +kernel) rfl
theorem x63_17 : Ze d 63 17 [l0, l1, l2, l3] st s = Ze d 63 5 [l0, l1, l2, l3] st s := Ze_n (i := (.goto (-12))) (len := 3) (by decide +kernel) rfl
theorem x63_20 : Ze d 63 20 [l0, l1, l2, l3] [] s = rV s := Ze_v (by decide +kernel) rfl
theorem en63 : Zc (d + 1) 63 [aR r0, aI a1] s = Ze d 63 0 [aR r0, aI a1, aU, aU] [] s := rfl
