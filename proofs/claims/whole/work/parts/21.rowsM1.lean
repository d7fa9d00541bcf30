variable {d r q : Nat} {l0 l1 l2 l3 l4 l5 l6 l7 l8 l9 l10 l11 l12 l13 l14 l15 : AV} {st : List AV} {s : Mem} {a b z i n dp sp a0 a1 a2 a3 a4 a5 a6 : Int} {r0 r1 r2 r3 r4 : Nat}
theorem x0_0 : Ze d 0 0 [aR r] st s = Ze d 0 1 [aR r] (aR r :: st) s := Ze_n (i := (.aload_n 0)) (len := 1) (by decide +kernel) rfl
theorem x0_1 (h : obC r = 0) : Ze d 0 1 [l0] (aR r :: st) s = Ze d 0 4 [l0] (aI (s r 4) :: st) s := Ze_gf (len := 3) (idx := 180) (by decide +kernel) rfl h rfl
theorem x0_4 : Ze d 0 4 [l0] [aI z] s = rI z s := Ze_i1 (by decide +kernel) rfl
theorem en0 : Zc (d + 1) 0 [aR r] s = Ze d 0 0 [aR r] [] s := rfl
theorem x1_0 : Ze d 1 0 [aI z, l1, l2] st s = Ze d 1 1 [aI z, l1, l2] (aI z :: st) s := Ze_n (i := (.iload_n 0)) (len := 1) (by decide +kernel) rfl
theorem x1_1 : Ze d 1 1 [l0, aI z, l2] st s = Ze d 1 2 [l0, aI z, l2] (aI z :: st) s := Ze_n (i := (.iload_n 1)) (len := 1) (by decide +kernel) rfl
theorem x1_2 : Ze d 1 2 [l0, l1, l2] (aI b :: aI a :: st) s = if a < b then Ze d 1 14 [l0, l1, l2] st s else Ze d 1 5 [l0, l1, l2] st s := Ze_b (i := (.if_icmp .lt 12)) (len := 3) (by decide +kernel) rfl
theorem x1_5 : Ze d 1 5 [aI z, l1, l2] st s = Ze d 1 6 [aI z, l1, l2] (aI z :: st) s := Ze_n (i := (.iload_n 0)) (len := 1) (by decide +kernel) rfl
theorem x1_6 : Ze d 1 6 [l0, l1, aI z] st s = Ze d 1 7 [l0, l1, aI z] (aI z :: st) s := Ze_n (i := (.iload_n 2)) (len := 1) (by decide +kernel) rfl
theorem x1_7 : Ze d 1 7 [l0, l1, l2] (aI b :: aI a :: st) s = if b < a then Ze d 1 14 [l0, l1, l2] st s else Ze d 1 10 [l0, l1, l2] st s := Ze_b (i := (.if_icmp .gt 7)) (len := 3) (by decide +kernel) rfl
theorem x1_10 : Ze d 1 10 [l0, l1, l2] st s = Ze d 1 11 [l0, l1, l2] (aI 1 :: st) s := Ze_n (i := (.iconst 1)) (len := 1) (by decide +kernel) rfl
theorem x1_11 : Ze d 1 11 [l0, l1, l2] st s = Ze d 1 15 [l0, l1, l2] st s := Ze_n (i := (.goto 4)) (len := 3) (by decide +kernel) rfl
theorem x1_14 : Ze d 1 14 [l0, l1, l2] st s = Ze d 1 15 [l0, l1, l2] (aI 0 :: st) s := Ze_n (i := (.iconst 0)) (len := 1) (by decide +kernel) rfl
theorem x1_15 (h : z = 0 ∨ z = 1) : Ze d 1 15 [l0, l1, l2] [aI z] s = rI z s := Ze_i2 (by decide +kernel) rfl h
theorem en1 : Zc (d + 1) 1 [aI a0, aI a1, aI a2] s = Ze d 1 0 [aI a0, aI a1, aI a2] [] s := rfl
theorem x2_0 : Ze d 2 0 [aR r, l1] st s = Ze d 2 1 [aR r, l1] (aR r :: st) s := Ze_n (i := (.aload_n 0)) (len := 1) (by decide +kernel) rfl
theorem x2_1 : Ze d 2 1 [l0, aI z] st s = Ze d 2 2 [l0, aI z] (aI z :: st) s := Ze_n (i := (.iload_n 1)) (len := 1) (by decide +kernel) rfl
theorem x2_2 (h : obC r = 0) : Ze d 2 2 [l0, l1] (aI z :: aR r :: st) s = Ze d 2 5 [l0, l1] st (mu s r 4 z) := Ze_n (i := .putfield 180) (len := 3) (by decide +kernel) (if_pos h)
theorem x2_5 : Ze d 2 5 [l0, l1] st s = Ze d 2 6 [l0, l1] (aI 0 :: st) s := Ze_n (i := (.iconst 0)) (len := 1) (by decide +kernel) rfl
theorem x2_6 : Ze d 2 6 [l0, l1] [aI z] s = rI z s := Ze_i1 (by decide +kernel) rfl
theorem en2 : Zc (d + 1) 2 [aR r, aI a1] s = Ze d 2 0 [aR r, aI a1] [] s := rfl
theorem x3_0 : Ze d 3 0 [l0, l1, l2, l3, l4, l5, l6] st s = Ze d 3 1 [l0, l1, l2, l3, l4, l5, l6] (aI 0 :: st) s := Ze_n (i := (.iconst 0)) (len := 1) (by decide +kernel) rfl
theorem x3_1 : Ze d 3 1 [l0, l1, l2, l3, l4, l5, l6] (aI z :: st) s = Ze d 3 2 [l0, l1, l2, aI z, l4, l5, l6] st s := Ze_n (i := (.istore_n 3)) (len := 1) (by decide +kernel) rfl
theorem x3_2 : Ze d 3 2 [l0, l1, l2, l3, l4, l5, l6] st s = Ze d 3 3 [l0, l1, l2, l3, l4, l5, l6] (aI 1 :: st) s := Ze_n (i := (.iconst 1)) (len := 1) (by decide +kernel) rfl
theorem x3_3 : Ze d 3 3 [l0, l1, l2, l3, l4, l5, l6] (aI z :: st) s = Ze d 3 5 [l0, l1, l2, l3, aI z, l5, l6] st s := Ze_n (i := (.istore 4)) (len := 2) (by decide +kernel) rfl
theorem x3_5 : Ze d 3 5 [l0, l1, l2, l3, l4, l5, l6] st s = Ze d 3 7 [l0, l1, l2, l3, l4, l5, l6] (aI 56 :: st) s := Ze_n (i := (.bipush 56)) (len := 2) (by decide +kernel) rfl
theorem x3_7 : Ze d 3 7 [l0, l1, l2, l3, l4, l5, l6] (aI z :: st) s = Ze d 3 9 [l0, l1, l2, l3, l4, aI z, l6] st s := Ze_n (i := (.istore 5)) (len := 2) (by decide +kernel) rfl
theorem x3_9 : Ze d 3 9 [l0, l1, l2, l3, l4, aI z, l6] st s = Ze d 3 11 [l0, l1, l2, l3, l4, aI z, l6] (aI z :: st) s := Ze_n (i := (.iload 5)) (len := 2) (by decide +kernel) rfl
theorem x3_11 : Ze d 3 11 [l0, l1, l2, l3, l4, l5, l6] (aI a :: st) s = if a < 0 then Ze d 3 57 [l0, l1, l2, l3, l4, l5, l6] st s else Ze d 3 14 [l0, l1, l2, l3, l4, l5, l6] st s := Ze_b (i := (.ifCond .lt 46)) (len := 3) (by decide +kernel) rfl
theorem x3_14 : Ze d 3 14 [l0, aL z, l2, l3, l4, l5, l6] st s = Ze d 3 15 [l0, aL z, l2, l3, l4, l5, l6] (aL z :: st) s := Ze_n (i := (.lload_n 1)) (len := 1) (by decide +kernel) rfl
theorem x3_15 : Ze d 3 15 [l0, l1, l2, l3, l4, aI z, l6] st s = Ze d 3 17 [l0, l1, l2, l3, l4, aI z, l6] (aI z :: st) s := Ze_n (i := (.iload 5)) (len := 2) (by decide +kernel) rfl
theorem x3_17 : Ze d 3 17 [l0, l1, l2, l3, l4, l5, l6] (aI b :: aL a :: st) s = Ze d 3 18 [l0, l1, l2, l3, l4, l5, l6] (aL (lshrZ a b) :: st) s := Ze_n (i := .lshr) (len := 1) (by decide +kernel) rfl
theorem x3_18 : Ze d 3 18 [l0, l1, l2, l3, l4, l5, l6] (aL a :: st) s = Ze d 3 19 [l0, l1, l2, l3, l4, l5, l6] (aI (l2iZ a) :: st) s := Ze_n (i := .l2i) (len := 1) (by decide +kernel) rfl
theorem x3_19 : Ze d 3 19 [l0, l1, l2, l3, l4, l5, l6] st s = Ze d 3 22 [l0, l1, l2, l3, l4, l5, l6] (aI 255 :: st) s := Ze_n (i := (.sipush 255)) (len := 3) (by decide +kernel) rfl
theorem x3_22 : Ze d 3 22 [l0, l1, l2, l3, l4, l5, l6] (aI b :: aI a :: st) s = Ze d 3 23 [l0, l1, l2, l3, l4, l5, l6] (aI (iand a b) :: st) s := Ze_n (i := .iand) (len := 1) (by decide +kernel) rfl
theorem x3_23 : Ze d 3 23 [l0, l1, l2, l3, l4, l5, l6] (aI z :: st) s = Ze d 3 25 [l0, l1, l2, l3, l4, l5, aI z] st s := Ze_n (i := (.istore 6)) (len := 2) (by decide +kernel) rfl
theorem x3_25 : Ze d 3 25 [l0, l1, l2, l3, l4, l5, aI z] st s = Ze d 3 27 [l0, l1, l2, l3, l4, l5, aI z] (aI z :: st) s := Ze_n (i := (.iload 6)) (len := 2) (by decide +kernel) rfl
theorem x3_27 : Ze d 3 27 [l0, l1, l2, l3, l4, l5, l6] (aI a :: st) s = if a = 0 then Ze d 3 30 [l0, l1, l2, l3, l4, l5, l6] st s else Ze d 3 33 [l0, l1, l2, l3, l4, l5, l6] st s := Ze_b (i := (.ifCond .ne 6)) (len := 3) (by decide +kernel) rfl
theorem x3_30 : Ze d 3 30 [l0, l1, l2, l3, l4, l5, l6] st s = Ze d 3 51 [l0, l1, l2, l3, l4, l5, l6] st s := Ze_n (i := (.goto 21)) (len := 3) (by decide +kernel) rfl
theorem x3_33 : Ze d 3 33 [l0, l1, l2, l3, l4, l5, aI z] st s = Ze d 3 35 [l0, l1, l2, l3, l4, l5, aI z] (aI z :: st) s := Ze_n (i := (.iload 6)) (len := 2) (by decide +kernel) rfl
theorem x3_35 : Ze d 3 35 [l0, l1, l2, l3, l4, l5, l6] st s = Ze d 3 37 [l0, l1, l2, l3, l4, l5, l6] (aI 32 :: st) s := Ze_n (i := (.bipush 32)) (len := 2) (by decide +kernel) rfl
theorem x3_37 : Ze d 3 37 [l0, l1, l2, l3, l4, l5, l6] st s = Ze d 3 39 [l0, l1, l2, l3, l4, l5, l6] (aI 126 :: st) s := Ze_n (i := (.bipush 126)) (len := 2) (by decide +kernel) rfl
theorem x3_39 (h6 : st.length ≤ 4) : Ze d 3 39 [l0, l1, l2, l3, l4, l5, l6] (aI a2 :: aI a1 :: aI a0 :: st) s = zcI (Zc d 1 [aI a0, aI a1, aI a2] s) d 3 42 [l0, l1, l2, l3, l4, l5, l6] st := Ze_csI (idx := 183) (len := 3) (as := [aI a0, aI a1, aI a2]) (by decide +kernel) rfl rfl (by decide +kernel) rfl h6
theorem x3_42 : Ze d 3 42 [l0, l1, l2, l3, l4, l5, l6] (aI a :: st) s = if a = 0 then Ze d 3 45 [l0, l1, l2, l3, l4, l5, l6] st s else Ze d 3 48 [l0, l1, l2, l3, l4, l5, l6] st s := Ze_b (i := (.ifCond .ne 6)) (len := 3) (by decide +kernel) rfl
theorem x3_45 : Ze d 3 45 [l0, l1, l2, l3, l4, l5, l6] st s = Ze d 3 46 [l0, l1, l2, l3, l4, l5, l6] (aI 0 :: st) s := Ze_n (i := (.iconst 0)) (len := 1) (by decide +kernel) rfl
theorem x3_46 : Ze d 3 46 [l0, l1, l2, l3, l4, l5, l6] (aI z :: st) s = Ze d 3 48 [l0, l1, l2, l3, aI z, l5, l6] st s := Ze_n (i := (.istore 4)) (len := 2) (by decide +kernel) rfl
theorem x3_48 : Ze d 3 48 [l0, l1, l2, aI z, l4, l5, l6] st s = Ze d 3 51 [l0, l1, l2, aI (wrap (z + 1)), l4, l5, l6] st s := Ze_n (i := (.iinc 3 1)) (len := 3) (by decide +kernel) rfl
theorem x3_51 : Ze d 3 51 [l0, l1, l2, l3, l4, aI z, l6] st s = Ze d 3 54 [l0, l1, l2, l3, l4, aI (wrap (z + (-8))), l6] st s := Ze_n (i := (.iinc 5 (-8))) (len := 3) (by decide +kernel) rfl
theorem x3_54 : Ze d 3 54 [l0, l1, l2, l3, l4, l5, l6] st s = Ze d 3 9 [l0, l1, l2, l3, l4, l5, l6] st s := Ze_n (i := (.goto (-45))) (len := 3) (by decide +kernel) rfl
theorem x3_57 : Ze d 3 57 [l0, l1, l2, l3, aI z, l5, l6] st s = Ze d 3 59 [l0, l1, l2, l3, aI z, l5, l6] (aI z :: st) s := Ze_n (i := (.iload 4)) (len := 2) (by decide +kernel) rfl
theorem x3_59 : Ze d 3 59 [l0, l1, l2, l3, l4, l5, l6] (aI a :: st) s = if a = 0 then Ze d 3 62 [l0, l1, l2, l3, l4, l5, l6] st s else Ze d 3 68 [l0, l1, l2, l3, l4, l5, l6] st s := Ze_b (i := (.ifCond .ne 9)) (len := 3) (by decide +kernel) rfl
theorem x3_62 : Ze d 3 62 [aR r, l1, l2, l3, l4, l5, l6] st s = Ze d 3 63 [aR r, l1, l2, l3, l4, l5, l6] (aR r :: st) s := Ze_n (i := (.aload_n 0)) (len := 1) (by decide +kernel) rfl
theorem x3_63 : Ze d 3 63 [l0, l1, l2, l3, l4, l5, l6] st s = Ze d 3 64 [l0, l1, l2, l3, l4, l5, l6] (aI 1 :: st) s := Ze_n (i := (.iconst 1)) (len := 1) (by decide +kernel) rfl
theorem x3_64 (h : obC r = 0) (h6 : st.length ≤ 4) : Ze d 3 64 [l0, l1, l2, l3, l4, l5, l6] (aI a1 :: aR r :: st) s = zcI (Zc d 2 [aR r, aI a1] s) d 3 67 [l0, l1, l2, l3, l4, l5, l6] st := Ze_cvI (idx := 187) (len := 3) (as := [aI a1]) (by decide +kernel) rfl (by decide +kernel) rfl h h6
theorem x3_67 : Ze d 3 67 [l0, l1, l2, l3, l4, l5, l6] [aI z] s = rI z s := Ze_i1 (by decide +kernel) rfl
theorem x3_68 : Ze d 3 68 [aR r, l1, l2, l3, l4, l5, l6] st s = Ze d 3 69 [aR r, l1, l2, l3, l4, l5, l6] (aR r :: st) s := Ze_n (i := (.aload_n 0)) (len := 1) (by decide +kernel) rfl
theorem x3_69 (h : obC r = 0) : Ze d 3 69 [l0, l1, l2, l3, l4, l5, l6] (aR r :: st) s = Ze d 3 72 [l0, l1, l2, l3, l4, l5, l6] (aI (s r 1) :: st) s := Ze_gf (len := 3) (idx := 191) (by decide +kernel) rfl h rfl
theorem x3_72 : Ze d 3 72 [l0, l1, l2, aI z, l4, l5, l6] st s = Ze d 3 73 [l0, l1, l2, aI z, l4, l5, l6] (aI z :: st) s := Ze_n (i := (.iload_n 3)) (len := 1) (by decide +kernel) rfl
theorem x3_73 : Ze d 3 73 [l0, l1, l2, l3, l4, l5, l6] (aI b :: aI a :: st) s = Ze d 3 74 [l0, l1, l2, l3, l4, l5, l6] (aI (wrap (a + b)) :: st) s := Ze_n (i := .iadd) (len := 1) (by decide +kernel) rfl
theorem x3_74 : Ze d 3 74 [l0, l1, l2, l3, l4, l5, l6] st s = Ze d 3 77 [l0, l1, l2, l3, l4, l5, l6] (aI 200 :: st) s := Ze_n (i := (.sipush 200)) (len := 3) (by decide +kernel) rfl
theorem x3_77 : Ze d 3 77 [l0, l1, l2, l3, l4, l5, l6] (aI b :: aI a :: st) s = if b < a then Ze d 3 80 [l0, l1, l2, l3, l4, l5, l6] st s else Ze d 3 86 [l0, l1, l2, l3, l4, l5, l6] st s := Ze_b (i := (.if_icmp .le 9)) (len := 3) (by decide +kernel) rfl
theorem x3_80 : Ze d 3 80 [aR r, l1, l2, l3, l4, l5, l6] st s = Ze d 3 81 [aR r, l1, l2, l3, l4, l5, l6] (aR r :: st) s := Ze_n (i := (.aload_n 0)) (len := 1) (by decide +kernel) rfl
theorem x3_81 : Ze d 3 81 [l0, l1, l2, l3, l4, l5, l6] st s = Ze d 3 82 [l0, l1, l2, l3, l4, l5, l6] (aI 2 :: st) s := Ze_n (i := (.iconst 2)) (len := 1) (by decide +kernel) rfl
theorem x3_82 (h : obC r = 0) (h6 : st.length ≤ 4) : Ze d 3 82 [l0, l1, l2, l3, l4, l5, l6] (aI a1 :: aR r :: st) s = zcI (Zc d 2 [aR r, aI a1] s) d 3 85 [l0, l1, l2, l3, l4, l5, l6] st := Ze_cvI (idx := 187) (len := 3) (as := [aI a1]) (by decide +kernel) rfl (by decide +kernel) rfl h h6
theorem x3_85 : Ze d 3 85 [l0, l1, l2, l3, l4, l5, l6] [aI z] s = rI z s := Ze_i1 (by decide +kernel) rfl
theorem x3_86 : Ze d 3 86 [aR r, l1, l2, l3, l4, l5, l6] st s = Ze d 3 87 [aR r, l1, l2, l3, l4, l5, l6] (aR r :: st) s := Ze_n (i := (.aload_n 0)) (len := 1) (by decide +kernel) rfl
theorem x3_87 : Ze d 3 87 [l0, l1, l2, l3, l4, l5, l6] st s = Ze d 3 88 [l0, l1, l2, l3, l4, l5, l6] (aI 0 :: st) s := Ze_n (i := (.iconst 0)) (len := 1) (by decide +kernel) rfl
theorem x3_88 (h : obC r = 0) : Ze d 3 88 [l0, l1, l2, l3, l4, l5, l6] (aI z :: aR r :: st) s = Ze d 3 91 [l0, l1, l2, l3, l4, l5, l6] st (mu s r 4 z) := Ze_n (i := .putfield 180) (len := 3) (by decide +kernel) (if_pos h)
theorem x3_91 : Ze d 3 91 [l0, l1, l2, l3, l4, l5, l6] st s = Ze d 3 93 [l0, l1, l2, l3, l4, l5, l6] (aI 56 :: st) s := Ze_n (i := (.bipush 56)) (len := 2) (by decide +kernel) rfl
theorem x3_93 : Ze d 3 93 [l0, l1, l2, l3, l4, l5, l6] (aI z :: st) s = Ze d 3 95 [l0, l1, l2, l3, l4, aI z, l6] st s := Ze_n (i := (.istore 5)) (len := 2) (by decide +kernel) rfl
theorem x3_95 : Ze d 3 95 [l0, l1, l2, l3, l4, aI z, l6] st s = Ze d 3 97 [l0, l1, l2, l3, l4, aI z, l6] (aI z :: st) s := Ze_n (i := (.iload 5)) (len := 2) (by decide +kernel) rfl
theorem x3_97 : Ze d 3 97 [l0, l1, l2, l3, l4, l5, l6] (aI a :: st) s = if a < 0 then Ze d 3 146 [l0, l1, l2, l3, l4, l5, l6] st s else Ze d 3 100 [l0, l1, l2, l3, l4, l5, l6] st s := Ze_b (i := (.ifCond .lt 49)) (len := 3) (by decide +kernel) rfl
theorem x3_100 : Ze d 3 100 [l0, aL z, l2, l3, l4, l5, l6] st s = Ze d 3 101 [l0, aL z, l2, l3, l4, l5, l6] (aL z :: st) s := Ze_n (i := (.lload_n 1)) (len := 1) (by decide +kernel) rfl
theorem x3_101 : Ze d 3 101 [l0, l1, l2, l3, l4, aI z, l6] st s = Ze d 3 103 [l0, l1, l2, l3, l4, aI z, l6] (aI z :: st) s := Ze_n (i := (.iload 5)) (len := 2) (by decide +kernel) rfl
theorem x3_103 : Ze d 3 103 [l0, l1, l2, l3, l4, l5, l6] (aI b :: aL a :: st) s = Ze d 3 104 [l0, l1, l2, l3, l4, l5, l6] (aL (lshrZ a b) :: st) s := Ze_n (i := .lshr) (len := 1) (by decide +kernel) rfl
theorem x3_104 : Ze d 3 104 [l0, l1, l2, l3, l4, l5, l6] (aL a :: st) s = Ze d 3 105 [l0, l1, l2, l3, l4, l5, l6] (aI (l2iZ a) :: st) s := Ze_n (i := .l2i) (len := 1) (by decide +kernel) rfl
theorem x3_105 : Ze d 3 105 [l0, l1, l2, l3, l4, l5, l6] st s = Ze d 3 108 [l0, l1, l2, l3, l4, l5, l6] (aI 255 :: st) s := Ze_n (i := (.sipush 255)) (len := 3) (by decide +kernel) rfl
theorem x3_108 : Ze d 3 108 [l0, l1, l2, l3, l4, l5, l6] (aI b :: aI a :: st) s = Ze d 3 109 [l0, l1, l2, l3, l4, l5, l6] (aI (iand a b) :: st) s := Ze_n (i := .iand) (len := 1) (by decide +kernel) rfl
theorem x3_109 : Ze d 3 109 [l0, l1, l2, l3, l4, l5, l6] (aI z :: st) s = Ze d 3 111 [l0, l1, l2, l3, l4, l5, aI z] st s := Ze_n (i := (.istore 6)) (len := 2) (by decide +kernel) rfl
theorem x3_111 : Ze d 3 111 [l0, l1, l2, l3, l4, l5, aI z] st s = Ze d 3 113 [l0, l1, l2, l3, l4, l5, aI z] (aI z :: st) s := Ze_n (i := (.iload 6)) (len := 2) (by decide +kernel) rfl
theorem x3_113 : Ze d 3 113 [l0, l1, l2, l3, l4, l5, l6] (aI a :: st) s = if a = 0 then Ze d 3 116 [l0, l1, l2, l3, l4, l5, l6] st s else Ze d 3 119 [l0, l1, l2, l3, l4, l5, l6] st s := Ze_b (i := (.ifCond .ne 6)) (len := 3) (by decide +kernel) rfl
theorem x3_116 : Ze d 3 116 [l0, l1, l2, l3, l4, l5, l6] st s = Ze d 3 140 [l0, l1, l2, l3, l4, l5, l6] st s := Ze_n (i := (.goto 24)) (len := 3) (by decide +kernel) rfl
theorem x3_119 : Ze d 3 119 [aR r, l1, l2, l3, l4, l5, l6] st s = Ze d 3 120 [aR r, l1, l2, l3, l4, l5, l6] (aR r :: st) s := Ze_n (i := (.aload_n 0)) (len := 1) (by decide +kernel) rfl
theorem x3_120 (h : obC r = 0) : Ze d 3 120 [l0, l1, l2, l3, l4, l5, l6] (aR r :: st) s = Ze d 3 123 [l0, l1, l2, l3, l4, l5, l6] (aR (fcn r 0) :: st) s := Ze_gf (len := 3) (idx := 7) (by decide +kernel) rfl h rfl
theorem x3_123 : Ze d 3 123 [aR r, l1, l2, l3, l4, l5, l6] st s = Ze d 3 124 [aR r, l1, l2, l3, l4, l5, l6] (aR r :: st) s := Ze_n (i := (.aload_n 0)) (len := 1) (by decide +kernel) rfl
theorem x3_124 (h : obC r = 0) : Ze d 3 124 [l0, l1, l2, l3, l4, l5, l6] (aR r :: st) s = Ze d 3 127 [l0, l1, l2, l3, l4, l5, l6] (aI (s r 1) :: st) s := Ze_gf (len := 3) (idx := 191) (by decide +kernel) rfl h rfl
theorem x3_127 : Ze d 3 127 [l0, l1, l2, l3, l4, l5, aI z] st s = Ze d 3 129 [l0, l1, l2, l3, l4, l5, aI z] (aI z :: st) s := Ze_n (i := (.iload 6)) (len := 2) (by decide +kernel) rfl
theorem x3_129 (h0 : 0 ≤ i) (h1 : i < aN1 r) : Ze d 3 129 [l0, l1, l2, l3, l4, l5, l6] (aI z :: aI i :: aR r :: st) s = Ze d 3 130 [l0, l1, l2, l3, l4, l5, l6] st (mu s r i.toNat z) := Ze_n (i := .iastore) (len := 1) (by decide +kernel) (if_pos ⟨h0, h1⟩)
theorem x3_130 : Ze d 3 130 [aR r, l1, l2, l3, l4, l5, l6] st s = Ze d 3 131 [aR r, l1, l2, l3, l4, l5, l6] (aR r :: st) s := Ze_n (i := (.aload_n 0)) (len := 1) (by decide +kernel) rfl
theorem x3_131 : Ze d 3 131 [l0, l1, l2, l3, l4, l5, l6] (aR r :: st) s = Ze d 3 132 [l0, l1, l2, l3, l4, l5, l6] (aR r :: aR r :: st) s := Ze_n (i := .dup) (len := 1) (by decide +kernel) rfl
theorem x3_131i : Ze d 3 131 [l0, l1, l2, l3, l4, l5, l6] (aI a :: st) s = Ze d 3 132 [l0, l1, l2, l3, l4, l5, l6] (aI a :: aI a :: st) s := Ze_n (i := .dup) (len := 1) (by decide +kernel) rfl
theorem x3_132 (h : obC r = 0) : Ze d 3 132 [l0, l1, l2, l3, l4, l5, l6] (aR r :: st) s = Ze d 3 135 [l0, l1, l2, l3, l4, l5, l6] (aI (s r 1) :: st) s := Ze_gf (len := 3) (idx := 191) (by decide +kernel) rfl h rfl
theorem x3_135 : Ze d 3 135 [l0, l1, l2, l3, l4, l5, l6] st s = Ze d 3 136 [l0, l1, l2, l3, l4, l5, l6] (aI 1 :: st) s := Ze_n (i := (.iconst 1)) (len := 1) (by decide +kernel) rfl
theorem x3_136 : Ze d 3 136 [l0, l1, l2, l3, l4, l5, l6] (aI b :: aI a :: st) s = Ze d 3 137 [l0, l1, l2, l3, l4, l5, l6] (aI (wrap (a + b)) :: st) s := Ze_n (i := .iadd) (len := 1) (by decide +kernel) rfl
theorem x3_137 (h : obC r = 0) : Ze d 3 137 [l0, l1, l2, l3, l4, l5, l6] (aI z :: aR r :: st) s = Ze d 3 140 [l0, l1, l2, l3, l4, l5, l6] st (mu s r 1 z) := Ze_n (i := .putfield 191) (len := 3) (by decide +kernel) (if_pos h)
theorem x3_140 : Ze d 3 140 [l0, l1, l2, l3, l4, aI z, l6] st s = Ze d 3 143 [l0, l1, l2, l3, l4, aI (wrap (z + (-8))), l6] st s := Ze_n (i := (.iinc 5 (-8))) (len := 3) (by decide +kernel) rfl
theorem x3_143 : Ze d 3 143 [l0, l1, l2, l3, l4, l5, l6] st s = Ze d 3 95 [l0, l1, l2, l3, l4, l5, l6] st s := Ze_n (i := (.goto (-48))) (len := 3) (by decide +kernel) rfl
theorem x3_146 : Ze d 3 146 [aR r, l1, l2, l3, l4, l5, l6] st s = Ze d 3 147 [aR r, l1, l2, l3, l4, l5, l6] (aR r :: st) s := Ze_n (i := (.aload_n 0)) (len := 1) (by decide +kernel) rfl
theorem x3_147 (h : obC r = 0) : Ze d 3 147 [l0, l1, l2, l3, l4, l5, l6] (aR r :: st) s = Ze d 3 150 [l0, l1, l2, l3, l4, l5, l6] (aI (s r 1) :: st) s := Ze_gf (len := 3) (idx := 191) (by decide +kernel) rfl h rfl
theorem x3_150 : Ze d 3 150 [l0, l1, l2, l3, l4, l5, l6] [aI z] s = rI z s := Ze_i1 (by decide +kernel) rfl
theorem en3 : Zc (d + 1) 3 [aR r, aL a1] s = Ze d 3 0 [aR r, aL a1, aU, aU, aU, aU, aU] [] s := rfl
theorem x4_0 : Ze d 4 0 [aR r, l1] st s = Ze d 4 1 [aR r, l1] (aR r :: st) s := Ze_n (i := (.aload_n 0)) (len := 1) (by decide +kernel) rfl
theorem x4_1 : Ze d 4 1 [l0, l1] st s = Ze d 4 2 [l0, l1] (aI 0 :: st) s := Ze_n (i := (.iconst 0)) (len := 1) (by decide +kernel) rfl
theorem x4_2 (h : obC r = 0) : Ze d 4 2 [l0, l1] (aI z :: aR r :: st) s = Ze d 4 5 [l0, l1] st (mu s r 4 z) := Ze_n (i := .putfield 180) (len := 3) (by decide +kernel) (if_pos h)
theorem x4_5 : Ze d 4 5 [aR r, l1] st s = Ze d 4 6 [aR r, l1] (aR r :: st) s := Ze_n (i := (.aload_n 0)) (len := 1) (by decide +kernel) rfl
theorem x4_6 (h : obC r = 0) : Ze d 4 6 [l0, l1] (aR r :: st) s = Ze d 4 9 [l0, l1] (aI (s r 1) :: st) s := Ze_gf (len := 3) (idx := 191) (by decide +kernel) rfl h rfl
theorem x4_9 : Ze d 4 9 [l0, l1] (aI z :: st) s = Ze d 4 10 [l0, aI z] st s := Ze_n (i := (.istore_n 1)) (len := 1) (by decide +kernel) rfl
theorem x4_10 : Ze d 4 10 [aR r, l1] st s = Ze d 4 11 [aR r, l1] (aR r :: st) s := Ze_n (i := (.aload_n 0)) (len := 1) (by decide +kernel) rfl
theorem x4_11 : Ze d 4 11 [l0, l1] st s = Ze d 4 12 [l0, l1] (aI 0 :: st) s := Ze_n (i := (.iconst 0)) (len := 1) (by decide +kernel) rfl
theorem x4_12 (h : obC r = 0) : Ze d 4 12 [l0, l1] (aI z :: aR r :: st) s = Ze d 4 15 [l0, l1] st (mu s r 1 z) := Ze_n (i := .putfield 191) (len := 3) (by decide +kernel) (if_pos h)
theorem x4_15 : Ze d 4 15 [l0, aI z] st s = Ze d 4 16 [l0, aI z] (aI z :: st) s := Ze_n (i := (.iload_n 1)) (len := 1) (by decide +kernel) rfl
theorem x4_16 : Ze d 4 16 [l0, l1] [aI z] s = rI z s := Ze_i1 (by decide +kernel) rfl
theorem en4 : Zc (d + 1) 4 [aR r] s = Ze d 4 0 [aR r, aU] [] s := rfl
theorem x5_0 : Ze d 5 0 [aR r, l1] st s = Ze d 5 1 [aR r, l1] (aR r :: st) s := Ze_n (i := (.aload_n 0)) (len := 1) (by decide +kernel) rfl
theorem x5_1 (h : obC r = 0) : Ze d 5 1 [l0, l1] (aR r :: st) s = Ze d 5 4 [l0, l1] (aI (s r 5) :: st) s := Ze_gf (len := 3) (idx := 194) (by decide +kernel) rfl h rfl
theorem x5_4 : Ze d 5 4 [l0, l1] (aI a :: st) s = if a = 0 then Ze d 5 7 [l0, l1] st s else Ze d 5 12 [l0, l1] st s := Ze_b (i := (.ifCond .ne 8)) (len := 3) (by decide +kernel) rfl
theorem x5_7 : Ze d 5 7 [aR r, l1] st s = Ze d 5 8 [aR r, l1] (aR r :: st) s := Ze_n (i := (.aload_n 0)) (len := 1) (by decide +kernel) rfl
theorem x5_8 : Ze d 5 8 [l0, aI z] st s = Ze d 5 9 [l0, aI z] (aI z :: st) s := Ze_n (i := (.iload_n 1)) (len := 1) (by decide +kernel) rfl
theorem x5_9 (h : obC r = 0) : Ze d 5 9 [l0, l1] (aI z :: aR r :: st) s = Ze d 5 12 [l0, l1] st (mu s r 3 z) := Ze_n (i := .putfield 13) (len := 3) (by decide +kernel) (if_pos h)
theorem x5_12 : Ze d 5 12 [aR r, l1] st s = Ze d 5 13 [aR r, l1] (aR r :: st) s := Ze_n (i := (.aload_n 0)) (len := 1) (by decide +kernel) rfl
theorem x5_13 : Ze d 5 13 [l0, l1] st s = Ze d 5 14 [l0, l1] (aI 1 :: st) s := Ze_n (i := (.iconst 1)) (len := 1) (by decide +kernel) rfl
theorem x5_14 (h : obC r = 0) (h2 : z = 0 ∨ z = 1) : Ze d 5 14 [l0, l1] (aI z :: aR r :: st) s = Ze d 5 17 [l0, l1] st (mu s r 5 z) := Ze_n (i := .putfield 194) (len := 3) (by decide +kernel) (if_pos ⟨h, h2⟩)
theorem x5_17 : Ze d 5 17 [l0, l1] [] s = rV s := Ze_v (by decide +kernel) rfl
theorem en5 : Zc (d + 1) 5 [aR r, aI a1] s = Ze d 5 0 [aR r, aI a1] [] s := rfl
theorem x6_0 : Ze d 6 0 [l0, aI z] st s = Ze d 6 1 [l0, aI z] (aI z :: st) s := Ze_n (i := (.iload_n 1)) (len := 1) (by decide +kernel) rfl
theorem x6_1 : Ze d 6 1 [aR r, l1] st s = Ze d 6 2 [aR r, l1] (aR r :: st) s := Ze_n (i := (.aload_n 0)) (len := 1) (by decide +kernel) rfl
theorem x6_2 (h : obC r = 0) : Ze d 6 2 [l0, l1] (aR r :: st) s = Ze d 6 5 [l0, l1] (aI (s r 1) :: st) s := Ze_gf (len := 3) (idx := 191) (by decide +kernel) rfl h rfl
theorem x6_5 : Ze d 6 5 [l0, l1] (aI b :: aI a :: st) s = if a < b then Ze d 6 8 [l0, l1] st s else Ze d 6 17 [l0, l1] st s := Ze_b (i := (.if_icmp .ge 12)) (len := 3) (by decide +kernel) rfl
theorem x6_8 : Ze d 6 8 [aR r, l1] st s = Ze d 6 9 [aR r, l1] (aR r :: st) s := Ze_n (i := (.aload_n 0)) (len := 1) (by decide +kernel) rfl
theorem x6_9 (h : obC r = 0) : Ze d 6 9 [l0, l1] (aR r :: st) s = Ze d 6 12 [l0, l1] (aR (fcn r 0) :: st) s := Ze_gf (len := 3) (idx := 7) (by decide +kernel) rfl h rfl
theorem x6_12 : Ze d 6 12 [l0, aI z] st s = Ze d 6 13 [l0, aI z] (aI z :: st) s := Ze_n (i := (.iload_n 1)) (len := 1) (by decide +kernel) rfl
theorem x6_13 (h0 : 0 ≤ i) (h1 : i < aN1 r) : Ze d 6 13 [l0, l1] (aI i :: aR r :: st) s = Ze d 6 14 [l0, l1] (aI (s r i.toNat) :: st) s := Ze_n (i := .iaload) (len := 1) (by decide +kernel) (if_pos ⟨h0, h1⟩)
theorem x6_14 : Ze d 6 14 [l0, l1] st s = Ze d 6 18 [l0, l1] st s := Ze_n (i := (.goto 4)) (len := 3) (by decide +kernel) rfl
theorem x6_17 : Ze d 6 17 [l0, l1] st s = Ze d 6 18 [l0, l1] (aI (-1) :: st) s := Ze_n (i := (.iconst (-1))) (len := 1) (by decide +kernel) rfl
theorem x6_18 : Ze d 6 18 [l0, l1] [aI z] s = rI z s := Ze_i1 (by decide +kernel) rfl
theorem en6 : Zc (d + 1) 6 [aR r, aI a1] s = Ze d 6 0 [aR r, aI a1] [] s := rfl
theorem x7_0 : Ze d 7 0 [aR r] st s = Ze d 7 1 [aR r] (aR r :: st) s := Ze_n (i := (.aload_n 0)) (len := 1) (by decide +kernel) rfl
theorem x7_1 (h : obC r = 0) : Ze d 7 1 [l0] (aR r :: st) s = Ze d 7 4 [l0] (aI (s r 2) :: st) s := Ze_gf (len := 3) (idx := 198) (by decide +kernel) rfl h rfl
theorem x7_4 : Ze d 7 4 [aR r] st s = Ze d 7 5 [aR r] (aR r :: st) s := Ze_n (i := (.aload_n 0)) (len := 1) (by decide +kernel) rfl
theorem x7_5 (h : obC r = 0) : Ze d 7 5 [l0] (aR r :: st) s = Ze d 7 8 [l0] (aI (s r 1) :: st) s := Ze_gf (len := 3) (idx := 191) (by decide +kernel) rfl h rfl
theorem x7_8 : Ze d 7 8 [l0] (aI b :: aI a :: st) s = if a < b then Ze d 7 11 [l0] st s else Ze d 7 38 [l0] st s := Ze_b (i := (.if_icmp .ge 30)) (len := 3) (by decide +kernel) rfl
theorem x7_11 : Ze d 7 11 [aR r] st s = Ze d 7 12 [aR r] (aR r :: st) s := Ze_n (i := (.aload_n 0)) (len := 1) (by decide +kernel) rfl
theorem x7_12 (h : obC r = 0) : Ze d 7 12 [l0] (aR r :: st) s = Ze d 7 15 [l0] (aR (fcn r 0) :: st) s := Ze_gf (len := 3) (idx := 7) (by decide +kernel) rfl h rfl
theorem x7_15 : Ze d 7 15 [aR r] st s = Ze d 7 16 [aR r] (aR r :: st) s := Ze_n (i := (.aload_n 0)) (len := 1) (by decide +kernel) rfl
theorem x7_16 (h : obC r = 0) : Ze d 7 16 [l0] (aR r :: st) s = Ze d 7 19 [l0] (aI (s r 2) :: st) s := Ze_gf (len := 3) (idx := 198) (by decide +kernel) rfl h rfl
theorem x7_19 (h0 : 0 ≤ i) (h1 : i < aN1 r) : Ze d 7 19 [l0] (aI i :: aR r :: st) s = Ze d 7 20 [l0] (aI (s r i.toNat) :: st) s := Ze_n (i := .iaload) (len := 1) (by decide +kernel) (if_pos ⟨h0, h1⟩)
theorem x7_20 : Ze d 7 20 [l0] st s = Ze d 7 22 [l0] (aI 32 :: st) s := Ze_n (i := (.bipush 32)) (len := 2) (by decide +kernel) rfl
theorem x7_22 : Ze d 7 22 [l0] (aI b :: aI a :: st) s = if a = b then Ze d 7 25 [l0] st s else Ze d 7 38 [l0] st s := Ze_b (i := (.if_icmp .ne 16)) (len := 3) (by decide +kernel) rfl
theorem x7_25 : Ze d 7 25 [aR r] st s = Ze d 7 26 [aR r] (aR r :: st) s := Ze_n (i := (.aload_n 0)) (len := 1) (by decide +kernel) rfl
theorem x7_26 : Ze d 7 26 [l0] (aR r :: st) s = Ze d 7 27 [l0] (aR r :: aR r :: st) s := Ze_n (i := .dup) (len := 1) (by decide +kernel) rfl
theorem x7_26i : Ze d 7 26 [l0] (aI a :: st) s = Ze d 7 27 [l0] (aI a :: aI a :: st) s := Ze_n (i := .dup) (len := 1) (by decide +kernel) rfl
theorem x7_27 (h : obC r = 0) : Ze d 7 27 [l0] (aR r :: st) s = Ze d 7 30 [l0] (aI (s r 2) :: st) s := Ze_gf (len := 3) (idx := 198) (by decide +kernel) rfl h rfl
theorem x7_30 : Ze d 7 30 [l0] st s = Ze d 7 31 [l0] (aI 1 :: st) s := Ze_n (i := (.iconst 1)) (len := 1) (by decide +kernel) rfl
theorem x7_31 : Ze d 7 31 [l0] (aI b :: aI a :: st) s = Ze d 7 32 [l0] (aI (wrap (a + b)) :: st) s := Ze_n (i := .iadd) (len := 1) (by decide +kernel) rfl
theorem x7_32 (h : obC r = 0) : Ze d 7 32 [l0] (aI z :: aR r :: st) s = Ze d 7 35 [l0] st (mu s r 2 z) := Ze_n (i := .putfield 198) (len := 3) (by decide +kernel) (if_pos h)
theorem x7_35 : Ze d 7 35 [l0] st s = Ze d 7 0 [l0] st s := Ze_n (i := (.goto (-35))) (len := 3) (by decide +kernel) rfl
theorem x7_38 : Ze d 7 38 [aR r] st s = Ze d 7 39 [aR r] (aR r :: st) s := Ze_n (i := (.aload_n 0)) (len := 1) (by decide +kernel) rfl
theorem x7_39 : Ze d 7 39 [aR r] st s = Ze d 7 40 [aR r] (aR r :: st) s := Ze_n (i := (.aload_n 0)) (len := 1) (by decide +kernel) rfl
theorem x7_40 (h : obC r = 0) : Ze d 7 40 [l0] (aR r :: st) s = Ze d 7 43 [l0] (aI (s r 2) :: st) s := Ze_gf (len := 3) (idx := 198) (by decide +kernel) rfl h rfl
theorem x7_43 (h : obC r = 0) (h6 : st.length ≤ 4) : Ze d 7 43 [l0] (aI a1 :: aR r :: st) s = zcI (Zc d 6 [aR r, aI a1] s) d 7 46 [l0] st := Ze_cvI (idx := 201) (len := 3) (as := [aI a1]) (by decide +kernel) rfl (by decide +kernel) rfl h h6
theorem x7_46 : Ze d 7 46 [l0] [aI z] s = rI z s := Ze_i1 (by decide +kernel) rfl
theorem en7 : Zc (d + 1) 7 [aR r] s = Ze d 7 0 [aR r] [] s := rfl
theorem x8_0 : Ze d 8 0 [aR r, l1] st s = Ze d 8 1 [aR r, l1] (aR r :: st) s := Ze_n (i := (.aload_n 0)) (len := 1) (by decide +kernel) rfl
theorem x8_1 (h : obC r = 0) (h6 : st.length ≤ 4) : Ze d 8 1 [l0, l1] (aR r :: st) s = zcI (Zc d 7 [aR r] s) d 8 4 [l0, l1] st := Ze_cvI (idx := 204) (len := 3) (as := []) (by decide +kernel) rfl (by decide +kernel) rfl h h6
theorem x8_4 : Ze d 8 4 [l0, aI z] st s = Ze d 8 5 [l0, aI z] (aI z :: st) s := Ze_n (i := (.iload_n 1)) (len := 1) (by decide +kernel) rfl
theorem x8_5 : Ze d 8 5 [l0, l1] (aI b :: aI a :: st) s = if a = b then Ze d 8 8 [l0, l1] st s else Ze d 8 42 [l0, l1] st s := Ze_b (i := (.if_icmp .ne 37)) (len := 3) (by decide +kernel) rfl
theorem x8_8 : Ze d 8 8 [l0, aI z] st s = Ze d 8 9 [l0, aI z] (aI z :: st) s := Ze_n (i := (.iload_n 1)) (len := 1) (by decide +kernel) rfl
theorem x8_9 : Ze d 8 9 [l0, l1] st s = Ze d 8 11 [l0, l1] (aI 60 :: st) s := Ze_n (i := (.bipush 60)) (len := 2) (by decide +kernel) rfl
theorem x8_11 : Ze d 8 11 [l0, l1] (aI b :: aI a :: st) s = if a = b then Ze d 8 14 [l0, l1] st s else Ze d 8 29 [l0, l1] st s := Ze_b (i := (.if_icmp .ne 18)) (len := 3) (by decide +kernel) rfl
theorem x8_14 : Ze d 8 14 [aR r, l1] st s = Ze d 8 15 [aR r, l1] (aR r :: st) s := Ze_n (i := (.aload_n 0)) (len := 1) (by decide +kernel) rfl
theorem x8_15 : Ze d 8 15 [aR r, l1] st s = Ze d 8 16 [aR r, l1] (aR r :: st) s := Ze_n (i := (.aload_n 0)) (len := 1) (by decide +kernel) rfl
theorem x8_16 (h : obC r = 0) : Ze d 8 16 [l0, l1] (aR r :: st) s = Ze d 8 19 [l0, l1] (aI (s r 2) :: st) s := Ze_gf (len := 3) (idx := 198) (by decide +kernel) rfl h rfl
theorem x8_19 : Ze d 8 19 [l0, l1] st s = Ze d 8 20 [l0, l1] (aI 1 :: st) s := Ze_n (i := (.iconst 1)) (len := 1) (by decide +kernel) rfl
theorem x8_20 : Ze d 8 20 [l0, l1] (aI b :: aI a :: st) s = Ze d 8 21 [l0, l1] (aI (wrap (a + b)) :: st) s := Ze_n (i := .iadd) (len := 1) (by decide +kernel) rfl
theorem x8_21 (h : obC r = 0) (h6 : st.length ≤ 4) : Ze d 8 21 [l0, l1] (aI a1 :: aR r :: st) s = zcI (Zc d 6 [aR r, aI a1] s) d 8 24 [l0, l1] st := Ze_cvI (idx := 201) (len := 3) (as := [aI a1]) (by decide +kernel) rfl (by decide +kernel) rfl h h6
theorem x8_24 : Ze d 8 24 [l0, l1] st s = Ze d 8 26 [l0, l1] (aI 61 :: st) s := Ze_n (i := (.bipush 61)) (len := 2) (by decide +kernel) rfl
theorem x8_26 : Ze d 8 26 [l0, l1] (aI b :: aI a :: st) s = if a = b then Ze d 8 42 [l0, l1] st s else Ze d 8 29 [l0, l1] st s := Ze_b (i := (.if_icmp .eq 16)) (len := 3) (by decide +kernel) rfl
theorem x8_29 : Ze d 8 29 [aR r, l1] st s = Ze d 8 30 [aR r, l1] (aR r :: st) s := Ze_n (i := (.aload_n 0)) (len := 1) (by decide +kernel) rfl
theorem x8_30 : Ze d 8 30 [l0, l1] (aR r :: st) s = Ze d 8 31 [l0, l1] (aR r :: aR r :: st) s := Ze_n (i := .dup) (len := 1) (by decide +kernel) rfl
theorem x8_30i : Ze d 8 30 [l0, l1] (aI a :: st) s = Ze d 8 31 [l0, l1] (aI a :: aI a :: st) s := Ze_n (i := .dup) (len := 1) (by decide +kernel) rfl
theorem x8_31 (h : obC r = 0) : Ze d 8 31 [l0, l1] (aR r :: st) s = Ze d 8 34 [l0, l1] (aI (s r 2) :: st) s := Ze_gf (len := 3) (idx := 198) (by decide +kernel) rfl h rfl
theorem x8_34 : Ze d 8 34 [l0, l1] st s = Ze d 8 35 [l0, l1] (aI 1 :: st) s := Ze_n (i := (.iconst 1)) (len := 1) (by decide +kernel) rfl
theorem x8_35 : Ze d 8 35 [l0, l1] (aI b :: aI a :: st) s = Ze d 8 36 [l0, l1] (aI (wrap (a + b)) :: st) s := Ze_n (i := .iadd) (len := 1) (by decide +kernel) rfl
theorem x8_36 (h : obC r = 0) : Ze d 8 36 [l0, l1] (aI z :: aR r :: st) s = Ze d 8 39 [l0, l1] st (mu s r 2 z) := Ze_n (i := .putfield 198) (len := 3) (by decide +kernel) (if_pos h)
theorem x8_39 : Ze d 8 39 [l0, l1] st s = Ze d 8 50 [l0, l1] st s := Ze_n (i := (.goto 11)) (len := 3) (by decide +kernel) rfl
theorem x8_42 : Ze d 8 42 [aR r, l1] st s = Ze d 8 43 [aR r, l1] (aR r :: st) s := Ze_n (i := (.aload_n 0)) (len := 1) (by decide +kernel) rfl
theorem x8_43 : Ze d 8 43 [aR r, l1] st s = Ze d 8 44 [aR r, l1] (aR r :: st) s := Ze_n (i := (.aload_n 0)) (len := 1) (by decide +kernel) rfl
theorem x8_44 (h : obC r = 0) : Ze d 8 44 [l0, l1] (aR r :: st) s = Ze d 8 47 [l0, l1] (aI (s r 2) :: st) s := Ze_gf (len := 3) (idx := 198) (by decide +kernel) rfl h rfl
theorem x8_47 (h : obC r = 0) (h6 : st.length ≤ 4) : Ze d 8 47 [l0, l1] (aI a1 :: aR r :: st) s = zcV (Zc d 5 [aR r, aI a1] s) d 8 50 [l0, l1] st := Ze_cvV (idx := 208) (len := 3) (as := [aI a1]) (by decide +kernel) rfl (by decide +kernel) rfl h h6
theorem x8_50 : Ze d 8 50 [l0, l1] [] s = rV s := Ze_v (by decide +kernel) rfl
theorem en8 : Zc (d + 1) 8 [aR r, aI a1] s = Ze d 8 0 [aR r, aI a1] [] s := rfl
theorem x9_0 : Ze d 9 0 [aI z] st s = Ze d 9 1 [aI z] (aI z :: st) s := Ze_n (i := (.iload_n 0)) (len := 1) (by decide +kernel) rfl
theorem x9_1 : Ze d 9 1 [l0] st s = Ze d 9 3 [l0] (aI 48 :: st) s := Ze_n (i := (.bipush 48)) (len := 2) (by decide +kernel) rfl
theorem x9_3 : Ze d 9 3 [l0] st s = Ze d 9 5 [l0] (aI 57 :: st) s := Ze_n (i := (.bipush 57)) (len := 2) (by decide +kernel) rfl
theorem x9_5 (h6 : st.length ≤ 4) : Ze d 9 5 [l0] (aI a2 :: aI a1 :: aI a0 :: st) s = zcI (Zc d 1 [aI a0, aI a1, aI a2] s) d 9 8 [l0] st := Ze_csI (idx := 183) (len := 3) (as := [aI a0, aI a1, aI a2]) (by decide +kernel) rfl rfl (by decide +kernel) rfl h6
theorem x9_8 (h : z = 0 ∨ z = 1) : Ze d 9 8 [l0] [aI z] s = rI z s := Ze_i2 (by decide +kernel) rfl h
theorem en9 : Zc (d + 1) 9 [aI a0] s = Ze d 9 0 [aI a0] [] s := rfl
theorem x10_0 : Ze d 10 0 [aI z] st s = Ze d 10 1 [aI z] (aI z :: st) s := Ze_n (i := (.iload_n 0)) (len := 1) (by decide +kernel) rfl
theorem x10_1 : Ze d 10 1 [l0] st s = Ze d 10 3 [l0] (aI 97 :: st) s := Ze_n (i := (.bipush 97)) (len := 2) (by decide +kernel) rfl
theorem x10_3 : Ze d 10 3 [l0] st s = Ze d 10 5 [l0] (aI 122 :: st) s := Ze_n (i := (.bipush 122)) (len := 2) (by decide +kernel) rfl
theorem x10_5 (h6 : st.length ≤ 4) : Ze d 10 5 [l0] (aI a2 :: aI a1 :: aI a0 :: st) s = zcI (Zc d 1 [aI a0, aI a1, aI a2] s) d 10 8 [l0] st := Ze_csI (idx := 183) (len := 3) (as := [aI a0, aI a1, aI a2]) (by decide +kernel) rfl rfl (by decide +kernel) rfl h6
theorem x10_8 (h : z = 0 ∨ z = 1) : Ze d 10 8 [l0] [aI z] s = rI z s := Ze_i2 (by decide +kernel) rfl h
theorem en10 : Zc (d + 1) 10 [aI a0] s = Ze d 10 0 [aI a0] [] s := rfl
theorem x11_0 : Ze d 11 0 [aR r, l1] st s = Ze d 11 1 [aR r, l1] (aR r :: st) s := Ze_n (i := (.aload_n 0)) (len := 1) (by decide +kernel) rfl
theorem x11_1 (h : obC r = 0) (h6 : st.length ≤ 4) : Ze d 11 1 [l0, l1] (aR r :: st) s = zcI (Zc d 7 [aR r] s) d 11 4 [l0, l1] st := Ze_cvI (idx := 204) (len := 3) (as := []) (by decide +kernel) rfl (by decide +kernel) rfl h h6
theorem x11_4 : Ze d 11 4 [l0, l1] (aI z :: st) s = Ze d 11 5 [l0, aI z] st s := Ze_n (i := (.istore_n 1)) (len := 1) (by decide +kernel) rfl
theorem x11_5 : Ze d 11 5 [l0, aI z] st s = Ze d 11 6 [l0, aI z] (aI z :: st) s := Ze_n (i := (.iload_n 1)) (len := 1) (by decide +kernel) rfl
theorem x11_6 (h6 : st.length ≤ 4) : Ze d 11 6 [l0, l1] (aI a0 :: st) s = zcI (Zc d 10 [aI a0] s) d 11 9 [l0, l1] st := Ze_csI (idx := 212) (len := 3) (as := [aI a0]) (by decide +kernel) rfl rfl (by decide +kernel) rfl h6
theorem x11_9 : Ze d 11 9 [l0, l1] (aI a :: st) s = if a = 0 then Ze d 11 25 [l0, l1] st s else Ze d 11 12 [l0, l1] st s := Ze_b (i := (.ifCond .eq 16)) (len := 3) (by decide +kernel) rfl
theorem x11_12 : Ze d 11 12 [aR r, l1] st s = Ze d 11 13 [aR r, l1] (aR r :: st) s := Ze_n (i := (.aload_n 0)) (len := 1) (by decide +kernel) rfl
theorem x11_13 : Ze d 11 13 [l0, l1] (aR r :: st) s = Ze d 11 14 [l0, l1] (aR r :: aR r :: st) s := Ze_n (i := .dup) (len := 1) (by decide +kernel) rfl
theorem x11_13i : Ze d 11 13 [l0, l1] (aI a :: st) s = Ze d 11 14 [l0, l1] (aI a :: aI a :: st) s := Ze_n (i := .dup) (len := 1) (by decide +kernel) rfl
theorem x11_14 (h : obC r = 0) : Ze d 11 14 [l0, l1] (aR r :: st) s = Ze d 11 17 [l0, l1] (aI (s r 2) :: st) s := Ze_gf (len := 3) (idx := 198) (by decide +kernel) rfl h rfl
theorem x11_17 : Ze d 11 17 [l0, l1] st s = Ze d 11 18 [l0, l1] (aI 1 :: st) s := Ze_n (i := (.iconst 1)) (len := 1) (by decide +kernel) rfl
theorem x11_18 : Ze d 11 18 [l0, l1] (aI b :: aI a :: st) s = Ze d 11 19 [l0, l1] (aI (wrap (a + b)) :: st) s := Ze_n (i := .iadd) (len := 1) (by decide +kernel) rfl
theorem x11_19 (h : obC r = 0) : Ze d 11 19 [l0, l1] (aI z :: aR r :: st) s = Ze d 11 22 [l0, l1] st (mu s r 2 z) := Ze_n (i := .putfield 198) (len := 3) (by decide +kernel) (if_pos h)
theorem x11_22 : Ze d 11 22 [l0, l1] st s = Ze d 11 33 [l0, l1] st s := Ze_n (i := (.goto 11)) (len := 3) (by decide +kernel) rfl
theorem x11_25 : Ze d 11 25 [aR r, l1] st s = Ze d 11 26 [aR r, l1] (aR r :: st) s := Ze_n (i := (.aload_n 0)) (len := 1) (by decide +kernel) rfl
theorem x11_26 : Ze d 11 26 [aR r, l1] st s = Ze d 11 27 [aR r, l1] (aR r :: st) s := Ze_n (i := (.aload_n 0)) (len := 1) (by decide +kernel) rfl
theorem x11_27 (h : obC r = 0) : Ze d 11 27 [l0, l1] (aR r :: st) s = Ze d 11 30 [l0, l1] (aI (s r 2) :: st) s := Ze_gf (len := 3) (idx := 198) (by decide +kernel) rfl h rfl
theorem x11_30 (h : obC r = 0) (h6 : st.length ≤ 4) : Ze d 11 30 [l0, l1] (aI a1 :: aR r :: st) s = zcV (Zc d 5 [aR r, aI a1] s) d 11 33 [l0, l1] st := Ze_cvV (idx := 208) (len := 3) (as := [aI a1]) (by decide +kernel) rfl (by decide +kernel) rfl h h6
theorem x11_33 : Ze d 11 33 [l0, aI z] st s = Ze d 11 34 [l0, aI z] (aI z :: st) s := Ze_n (i := (.iload_n 1)) (len := 1) (by decide +kernel) rfl
theorem x11_34 : Ze d 11 34 [l0, l1] st s = Ze d 11 36 [l0, l1] (aI 97 :: st) s := Ze_n (i := (.bipush 97)) (len := 2) (by decide +kernel) rfl
theorem x11_36 : Ze d 11 36 [l0, l1] (aI b :: aI a :: st) s = Ze d 11 37 [l0, l1] (aI (wrap (a - b)) :: st) s := Ze_n (i := .isub) (len := 1) (by decide +kernel) rfl
theorem x11_37 : Ze d 11 37 [l0, l1] [aI z] s = rI z s := Ze_i1 (by decide +kernel) rfl
theorem en11 : Zc (d + 1) 11 [aR r] s = Ze d 11 0 [aR r, aU] [] s := rfl
theorem x12_0 : Ze d 12 0 [aR r, l1, l2, l3, l4, l5, l6] st s = Ze d 12 1 [aR r, l1, l2, l3, l4, l5, l6] (aR r :: st) s := Ze_n (i := (.aload_n 0)) (len := 1) (by decide +kernel) rfl
theorem x12_1 (h : obC r = 0) (h6 : st.length ≤ 4) : Ze d 12 1 [l0, l1, l2, l3, l4, l5, l6] (aR r :: st) s = zcI (Zc d 7 [aR r] s) d 12 4 [l0, l1, l2, l3, l4, l5, l6] st := Ze_cvI (idx := 204) (len := 3) (as := []) (by decide +kernel) rfl (by decide +kernel) rfl h h6
theorem x12_4 : Ze d 12 4 [l0, l1, l2, l3, l4, l5, l6] (aI z :: st) s = Ze d 12 5 [l0, l1, l2, aI z, l4, l5, l6] st s := Ze_n (i := (.istore_n 3)) (len := 1) (by decide +kernel) rfl
theorem x12_5 : Ze d 12 5 [aR r, l1, l2, l3, l4, l5, l6] st s = Ze d 12 6 [aR r, l1, l2, l3, l4, l5, l6] (aR r :: st) s := Ze_n (i := (.aload_n 0)) (len := 1) (by decide +kernel) rfl
theorem x12_6 (h : obC r = 0) : Ze d 12 6 [l0, l1, l2, l3, l4, l5, l6] (aR r :: st) s = Ze d 12 9 [l0, l1, l2, l3, l4, l5, l6] (aI (s r 2) :: st) s := Ze_gf (len := 3) (idx := 198) (by decide +kernel) rfl h rfl
theorem x12_9 : Ze d 12 9 [l0, l1, l2, l3, l4, l5, l6] (aI z :: st) s = Ze d 12 11 [l0, l1, l2, l3, aI z, l5, l6] st s := Ze_n (i := (.istore 4)) (len := 2) (by decide +kernel) rfl
theorem x12_11 : Ze d 12 11 [l0, l1, l2, l3, l4, l5, l6] st s = Ze d 12 12 [l0, l1, l2, l3, l4, l5, l6] (aI 0 :: st) s := Ze_n (i := (.iconst 0)) (len := 1) (by decide +kernel) rfl
theorem x12_12 : Ze d 12 12 [l0, l1, l2, l3, l4, l5, l6] (aI z :: st) s = Ze d 12 14 [l0, l1, l2, l3, l4, aI z, l6] st s := Ze_n (i := (.istore 5)) (len := 2) (by decide +kernel) rfl
theorem x12_14 : Ze d 12 14 [l0, l1, l2, l3, l4, l5, l6] st s = Ze d 12 15 [l0, l1, l2, l3, l4, l5, l6] (aI 0 :: st) s := Ze_n (i := (.iconst 0)) (len := 1) (by decide +kernel) rfl
theorem x12_15 : Ze d 12 15 [l0, l1, l2, l3, l4, l5, l6] (aI z :: st) s = Ze d 12 17 [l0, l1, l2, l3, l4, l5, aI z] st s := Ze_n (i := (.istore 6)) (len := 2) (by decide +kernel) rfl
theorem x12_17 : Ze d 12 17 [l0, l1, l2, aI z, l4, l5, l6] st s = Ze d 12 18 [l0, l1, l2, aI z, l4, l5, l6] (aI z :: st) s := Ze_n (i := (.iload_n 3)) (len := 1) (by decide +kernel) rfl
theorem x12_18 (h6 : st.length ≤ 4) : Ze d 12 18 [l0, l1, l2, l3, l4, l5, l6] (aI a0 :: st) s = zcI (Zc d 9 [aI a0] s) d 12 21 [l0, l1, l2, l3, l4, l5, l6] st := Ze_csI (idx := 216) (len := 3) (as := [aI a0]) (by decide +kernel) rfl rfl (by decide +kernel) rfl h6
theorem x12_21 : Ze d 12 21 [l0, l1, l2, l3, l4, l5, l6] (aI a :: st) s = if a = 0 then Ze d 12 24 [l0, l1, l2, l3, l4, l5, l6] st s else Ze d 12 34 [l0, l1, l2, l3, l4, l5, l6] st s := Ze_b (i := (.ifCond .ne 13)) (len := 3) (by decide +kernel) rfl
theorem x12_24 : Ze d 12 24 [aR r, l1, l2, l3, l4, l5, l6] st s = Ze d 12 25 [aR r, l1, l2, l3, l4, l5, l6] (aR r :: st) s := Ze_n (i := (.aload_n 0)) (len := 1) (by decide +kernel) rfl
theorem x12_25 : Ze d 12 25 [aR r, l1, l2, l3, l4, l5, l6] st s = Ze d 12 26 [aR r, l1, l2, l3, l4, l5, l6] (aR r :: st) s := Ze_n (i := (.aload_n 0)) (len := 1) (by decide +kernel) rfl
theorem x12_26 (h : obC r = 0) : Ze d 12 26 [l0, l1, l2, l3, l4, l5, l6] (aR r :: st) s = Ze d 12 29 [l0, l1, l2, l3, l4, l5, l6] (aI (s r 2) :: st) s := Ze_gf (len := 3) (idx := 198) (by decide +kernel) rfl h rfl
theorem x12_29 (h : obC r = 0) (h6 : st.length ≤ 4) : Ze d 12 29 [l0, l1, l2, l3, l4, l5, l6] (aI a1 :: aR r :: st) s = zcV (Zc d 5 [aR r, aI a1] s) d 12 32 [l0, l1, l2, l3, l4, l5, l6] st := Ze_cvV (idx := 208) (len := 3) (as := [aI a1]) (by decide +kernel) rfl (by decide +kernel) rfl h h6
theorem x12_32 : Ze d 12 32 [l0, l1, l2, l3, l4, l5, l6] st s = Ze d 12 33 [l0, l1, l2, l3, l4, l5, l6] (aI 0 :: st) s := Ze_n (i := (.iconst 0)) (len := 1) (by decide +kernel) rfl
theorem x12_33 : Ze d 12 33 [l0, l1, l2, l3, l4, l5, l6] [aI z] s = rI z s := Ze_i1 (by decide +kernel) rfl
theorem x12_34 : Ze d 12 34 [aR r, l1, l2, l3, l4, l5, l6] st s = Ze d 12 35 [aR r, l1, l2, l3, l4, l5, l6] (aR r :: st) s := Ze_n (i := (.aload_n 0)) (len := 1) (by decide +kernel) rfl
theorem x12_35 : Ze d 12 35 [aR r, l1, l2, l3, l4, l5, l6] st s = Ze d 12 36 [aR r, l1, l2, l3, l4, l5, l6] (aR r :: st) s := Ze_n (i := (.aload_n 0)) (len := 1) (by decide +kernel) rfl
theorem x12_36 (h : obC r = 0) : Ze d 12 36 [l0, l1, l2, l3, l4, l5, l6] (aR r :: st) s = Ze d 12 39 [l0, l1, l2, l3, l4, l5, l6] (aI (s r 2) :: st) s := Ze_gf (len := 3) (idx := 198) (by decide +kernel) rfl h rfl
theorem x12_39 (h : obC r = 0) (h6 : st.length ≤ 4) : Ze d 12 39 [l0, l1, l2, l3, l4, l5, l6] (aI a1 :: aR r :: st) s = zcI (Zc d 6 [aR r, aI a1] s) d 12 42 [l0, l1, l2, l3, l4, l5, l6] st := Ze_cvI (idx := 201) (len := 3) (as := [aI a1]) (by decide +kernel) rfl (by decide +kernel) rfl h h6
theorem x12_42 (h6 : st.length ≤ 4) : Ze d 12 42 [l0, l1, l2, l3, l4, l5, l6] (aI a0 :: st) s = zcI (Zc d 9 [aI a0] s) d 12 45 [l0, l1, l2, l3, l4, l5, l6] st := Ze_csI (idx := 216) (len := 3) (as := [aI a0]) (by decide +kernel) rfl rfl (by decide +kernel) rfl h6
theorem x12_45 : Ze d 12 45 [l0, l1, l2, l3, l4, l5, l6] (aI a :: st) s = if a = 0 then Ze d 12 91 [l0, l1, l2, l3, l4, l5, l6] st s else Ze d 12 48 [l0, l1, l2, l3, l4, l5, l6] st s := Ze_b (i := (.ifCond .eq 46)) (len := 3) (by decide +kernel) rfl
theorem x12_48 : Ze d 12 48 [l0, l1, l2, l3, l4, l5, aI z] st s = Ze d 12 50 [l0, l1, l2, l3, l4, l5, aI z] (aI z :: st) s := Ze_n (i := (.iload 6)) (len := 2) (by decide +kernel) rfl
theorem x12_50 : Ze d 12 50 [l0, l1, l2, l3, l4, l5, l6] st s = Ze d 12 52 [l0, l1, l2, l3, l4, l5, l6] (aI 6 :: st) s := Ze_n (i := (.bipush 6)) (len := 2) (by decide +kernel) rfl
theorem x12_52 : Ze d 12 52 [l0, l1, l2, l3, l4, l5, l6] (aI b :: aI a :: st) s = if a < b then Ze d 12 55 [l0, l1, l2, l3, l4, l5, l6] st s else Ze d 12 75 [l0, l1, l2, l3, l4, l5, l6] st s := Ze_b (i := (.if_icmp .ge 23)) (len := 3) (by decide +kernel) rfl
theorem x12_55 : Ze d 12 55 [l0, l1, l2, l3, l4, l5, l6] st s = Ze d 12 57 [l0, l1, l2, l3, l4, l5, l6] (aI 10 :: st) s := Ze_n (i := (.bipush 10)) (len := 2) (by decide +kernel) rfl
theorem x12_57 : Ze d 12 57 [l0, l1, l2, l3, l4, aI z, l6] st s = Ze d 12 59 [l0, l1, l2, l3, l4, aI z, l6] (aI z :: st) s := Ze_n (i := (.iload 5)) (len := 2) (by decide +kernel) rfl
theorem x12_59 : Ze d 12 59 [l0, l1, l2, l3, l4, l5, l6] (aI b :: aI a :: st) s = Ze d 12 60 [l0, l1, l2, l3, l4, l5, l6] (aI (wrap (a * b)) :: st) s := Ze_n (i := .imul) (len := 1) (by decide +kernel) rfl
theorem x12_60 : Ze d 12 60 [aR r, l1, l2, l3, l4, l5, l6] st s = Ze d 12 61 [aR r, l1, l2, l3, l4, l5, l6] (aR r :: st) s := Ze_n (i := (.aload_n 0)) (len := 1) (by decide +kernel) rfl
theorem x12_61 (h : obC r = 0) : Ze d 12 61 [l0, l1, l2, l3, l4, l5, l6] (aR r :: st) s = Ze d 12 64 [l0, l1, l2, l3, l4, l5, l6] (aR (fcn r 0) :: st) s := Ze_gf (len := 3) (idx := 7) (by decide +kernel) rfl h rfl
theorem x12_64 : Ze d 12 64 [aR r, l1, l2, l3, l4, l5, l6] st s = Ze d 12 65 [aR r, l1, l2, l3, l4, l5, l6] (aR r :: st) s := Ze_n (i := (.aload_n 0)) (len := 1) (by decide +kernel) rfl
theorem x12_65 (h : obC r = 0) : Ze d 12 65 [l0, l1, l2, l3, l4, l5, l6] (aR r :: st) s = Ze d 12 68 [l0, l1, l2, l3, l4, l5, l6] (aI (s r 2) :: st) s := Ze_gf (len := 3) (idx := 198) (by decide +kernel) rfl h rfl
theorem x12_68 (h0 : 0 ≤ i) (h1 : i < aN1 r) : Ze d 12 68 [l0, l1, l2, l3, l4, l5, l6] (aI i :: aR r :: st) s = Ze d 12 69 [l0, l1, l2, l3, l4, l5, l6] (aI (s r i.toNat) :: st) s := Ze_n (i := .iaload) (len := 1) (by decide +kernel) (if_pos ⟨h0, h1⟩)
theorem x12_69 : Ze d 12 69 [l0, l1, l2, l3, l4, l5, l6] (aI b :: aI a :: st) s = Ze d 12 70 [l0, l1, l2, l3, l4, l5, l6] (aI (wrap (a + b)) :: st) s := Ze_n (i := .iadd) (len := 1) (by decide +kernel) rfl
theorem x12_70 : Ze d 12 70 [l0, l1, l2, l3, l4, l5, l6] st s = Ze d 12 72 [l0, l1, l2, l3, l4, l5, l6] (aI 48 :: st) s := Ze_n (i := (.bipush 48)) (len := 2) (by decide +kernel) rfl
theorem x12_72 : Ze d 12 72 [l0, l1, l2, l3, l4, l5, l6] (aI b :: aI a :: st) s = Ze d 12 73 [l0, l1, l2, l3, l4, l5, l6] (aI (wrap (a - b)) :: st) s := Ze_n (i := .isub) (len := 1) (by decide +kernel) rfl
theorem x12_73 : Ze d 12 73 [l0, l1, l2, l3, l4, l5, l6] (aI z :: st) s = Ze d 12 75 [l0, l1, l2, l3, l4, aI z, l6] st s := Ze_n (i := (.istore 5)) (len := 2) (by decide +kernel) rfl
theorem x12_75 : Ze d 12 75 [l0, l1, l2, l3, l4, l5, aI z] st s = Ze d 12 78 [l0, l1, l2, l3, l4, l5, aI (wrap (z + 1))] st s := Ze_n (i := (.iinc 6 1)) (len := 3) (by decide +kernel) rfl
theorem x12_78 : Ze d 12 78 [aR r, l1, l2, l3, l4, l5, l6] st s = Ze d 12 79 [aR r, l1, l2, l3, l4, l5, l6] (aR r :: st) s := Ze_n (i := (.aload_n 0)) (len := 1) (by decide +kernel) rfl
theorem x12_79 : Ze d 12 79 [l0, l1, l2, l3, l4, l5, l6] (aR r :: st) s = Ze d 12 80 [l0, l1, l2, l3, l4, l5, l6] (aR r :: aR r :: st) s := Ze_n (i := .dup) (len := 1) (by decide +kernel) rfl
theorem x12_79i : Ze d 12 79 [l0, l1, l2, l3, l4, l5, l6] (aI a :: st) s = Ze d 12 80 [l0, l1, l2, l3, l4, l5, l6] (aI a :: aI a :: st) s := Ze_n (i := .dup) (len := 1) (by decide +kernel) rfl
theorem x12_80 (h : obC r = 0) : Ze d 12 80 [l0, l1, l2, l3, l4, l5, l6] (aR r :: st) s = Ze d 12 83 [l0, l1, l2, l3, l4, l5, l6] (aI (s r 2) :: st) s := Ze_gf (len := 3) (idx := 198) (by decide +kernel) rfl h rfl
theorem x12_83 : Ze d 12 83 [l0, l1, l2, l3, l4, l5, l6] st s = Ze d 12 84 [l0, l1, l2, l3, l4, l5, l6] (aI 1 :: st) s := Ze_n (i := (.iconst 1)) (len := 1) (by decide +kernel) rfl
theorem x12_84 : Ze d 12 84 [l0, l1, l2, l3, l4, l5, l6] (aI b :: aI a :: st) s = Ze d 12 85 [l0, l1, l2, l3, l4, l5, l6] (aI (wrap (a + b)) :: st) s := Ze_n (i := .iadd) (len := 1) (by decide +kernel) rfl
theorem x12_85 (h : obC r = 0) : Ze d 12 85 [l0, l1, l2, l3, l4, l5, l6] (aI z :: aR r :: st) s = Ze d 12 88 [l0, l1, l2, l3, l4, l5, l6] st (mu s r 2 z) := Ze_n (i := .putfield 198) (len := 3) (by decide +kernel) (if_pos h)
theorem x12_88 : Ze d 12 88 [l0, l1, l2, l3, l4, l5, l6] st s = Ze d 12 34 [l0, l1, l2, l3, l4, l5, l6] st s := Ze_n (i := (.goto (-54))) (len := 3) (by decide +kernel) rfl
theorem x12_91 : Ze d 12 91 [l0, l1, l2, l3, l4, l5, aI z] st s = Ze d 12 93 [l0, l1, l2, l3, l4, l5, aI z] (aI z :: st) s := Ze_n (i := (.iload 6)) (len := 2) (by decide +kernel) rfl
theorem x12_93 : Ze d 12 93 [l0, l1, l2, l3, l4, l5, l6] st s = Ze d 12 94 [l0, l1, l2, l3, l4, l5, l6] (aI 5 :: st) s := Ze_n (i := (.iconst 5)) (len := 1) (by decide +kernel) rfl
theorem x12_94 : Ze d 12 94 [l0, l1, l2, l3, l4, l5, l6] (aI b :: aI a :: st) s = if b < a then Ze d 12 116 [l0, l1, l2, l3, l4, l5, l6] st s else Ze d 12 97 [l0, l1, l2, l3, l4, l5, l6] st s := Ze_b (i := (.if_icmp .gt 22)) (len := 3) (by decide +kernel) rfl
theorem x12_97 : Ze d 12 97 [l0, l1, l2, l3, l4, aI z, l6] st s = Ze d 12 99 [l0, l1, l2, l3, l4, aI z, l6] (aI z :: st) s := Ze_n (i := (.iload 5)) (len := 2) (by decide +kernel) rfl
theorem x12_99 : Ze d 12 99 [l0, l1, l2, l3, l4, l5, l6] st s = Ze d 12 101 [l0, l1, l2, l3, l4, l5, l6] (aI 65535 :: st) s := Ze_n (i := (.ldc 219)) (len := 2) (by decide +kernel) rfl
theorem x12_101 : Ze d 12 101 [l0, l1, l2, l3, l4, l5, l6] (aI b :: aI a :: st) s = if b < a then Ze d 12 116 [l0, l1, l2, l3, l4, l5, l6] st s else Ze d 12 104 [l0, l1, l2, l3, l4, l5, l6] st s := Ze_b (i := (.if_icmp .gt 15)) (len := 3) (by decide +kernel) rfl
theorem x12_104 : Ze d 12 104 [l0, l1, l2, l3, l4, aI z, l6] st s = Ze d 12 106 [l0, l1, l2, l3, l4, aI z, l6] (aI z :: st) s := Ze_n (i := (.iload 5)) (len := 2) (by decide +kernel) rfl
theorem x12_106 : Ze d 12 106 [l0, aI z, l2, l3, l4, l5, l6] st s = Ze d 12 107 [l0, aI z, l2, l3, l4, l5, l6] (aI z :: st) s := Ze_n (i := (.iload_n 1)) (len := 1) (by decide +kernel) rfl
theorem x12_107 : Ze d 12 107 [l0, l1, l2, l3, l4, l5, l6] (aI b :: aI a :: st) s = if a < b then Ze d 12 116 [l0, l1, l2, l3, l4, l5, l6] st s else Ze d 12 110 [l0, l1, l2, l3, l4, l5, l6] st s := Ze_b (i := (.if_icmp .lt 9)) (len := 3) (by decide +kernel) rfl
theorem x12_110 : Ze d 12 110 [l0, l1, l2, l3, l4, aI z, l6] st s = Ze d 12 112 [l0, l1, l2, l3, l4, aI z, l6] (aI z :: st) s := Ze_n (i := (.iload 5)) (len := 2) (by decide +kernel) rfl
theorem x12_112 : Ze d 12 112 [l0, l1, aI z, l3, l4, l5, l6] st s = Ze d 12 113 [l0, l1, aI z, l3, l4, l5, l6] (aI z :: st) s := Ze_n (i := (.iload_n 2)) (len := 1) (by decide +kernel) rfl
theorem x12_113 : Ze d 12 113 [l0, l1, l2, l3, l4, l5, l6] (aI b :: aI a :: st) s = if b < a then Ze d 12 116 [l0, l1, l2, l3, l4, l5, l6] st s else Ze d 12 122 [l0, l1, l2, l3, l4, l5, l6] st s := Ze_b (i := (.if_icmp .le 9)) (len := 3) (by decide +kernel) rfl
theorem x12_116 : Ze d 12 116 [aR r, l1, l2, l3, l4, l5, l6] st s = Ze d 12 117 [aR r, l1, l2, l3, l4, l5, l6] (aR r :: st) s := Ze_n (i := (.aload_n 0)) (len := 1) (by decide +kernel) rfl
theorem x12_117 : Ze d 12 117 [l0, l1, l2, l3, aI z, l5, l6] st s = Ze d 12 119 [l0, l1, l2, l3, aI z, l5, l6] (aI z :: st) s := Ze_n (i := (.iload 4)) (len := 2) (by decide +kernel) rfl
theorem x12_119 (h : obC r = 0) (h6 : st.length ≤ 4) : Ze d 12 119 [l0, l1, l2, l3, l4, l5, l6] (aI a1 :: aR r :: st) s = zcV (Zc d 5 [aR r, aI a1] s) d 12 122 [l0, l1, l2, l3, l4, l5, l6] st := Ze_cvV (idx := 208) (len := 3) (as := [aI a1]) (by decide +kernel) rfl (by decide +kernel) rfl h h6
theorem x12_122 : Ze d 12 122 [l0, l1, l2, l3, l4, aI z, l6] st s = Ze d 12 124 [l0, l1, l2, l3, l4, aI z, l6] (aI z :: st) s := Ze_n (i := (.iload 5)) (len := 2) (by decide +kernel) rfl
theorem x12_124 : Ze d 12 124 [l0, l1, l2, l3, l4, l5, l6] [aI z] s = rI z s := Ze_i1 (by decide +kernel) rfl
theorem en12 : Zc (d + 1) 12 [aR r, aI a1, aI a2] s = Ze d 12 0 [aR r, aI a1, aI a2, aU, aU, aU, aU] [] s := rfl
theorem x13_0 : Ze d 13 0 [aR r, l1, l2, l3, l4] st s = Ze d 13 1 [aR r, l1, l2, l3, l4] (aR r :: st) s := Ze_n (i := (.aload_n 0)) (len := 1) (by decide +kernel) rfl
theorem x13_1 (h : obC r = 0) : Ze d 13 1 [l0, l1, l2, l3, l4] (aR r :: st) s = Ze d 13 4 [l0, l1, l2, l3, l4] (aR (fcn r 6) :: st) s := Ze_gf (len := 3) (idx := 17) (by decide +kernel) rfl h rfl
theorem x13_4 : Ze d 13 4 [aR r, l1, l2, l3, l4] st s = Ze d 13 5 [aR r, l1, l2, l3, l4] (aR r :: st) s := Ze_n (i := (.aload_n 0)) (len := 1) (by decide +kernel) rfl
theorem x13_5 (h : obC r = 0) : Ze d 13 5 [l0, l1, l2, l3, l4] (aR r :: st) s = Ze d 13 8 [l0, l1, l2, l3, l4] (aI (s r 16) :: st) s := Ze_gf (len := 3) (idx := 220) (by decide +kernel) rfl h rfl
theorem x13_8 : Ze d 13 8 [l0, aI z, l2, l3, l4] st s = Ze d 13 9 [l0, aI z, l2, l3, l4] (aI z :: st) s := Ze_n (i := (.iload_n 1)) (len := 1) (by decide +kernel) rfl
theorem x13_9 (h0 : 0 ≤ i) (h1 : i < aN1 r) : Ze d 13 9 [l0, l1, l2, l3, l4] (aI z :: aI i :: aR r :: st) s = Ze d 13 10 [l0, l1, l2, l3, l4] st (mu s r i.toNat z) := Ze_n (i := .iastore) (len := 1) (by decide +kernel) (if_pos ⟨h0, h1⟩)
theorem x13_10 : Ze d 13 10 [aR r, l1, l2, l3, l4] st s = Ze d 13 11 [aR r, l1, l2, l3, l4] (aR r :: st) s := Ze_n (i := (.aload_n 0)) (len := 1) (by decide +kernel) rfl
theorem x13_11 (h : obC r = 0) : Ze d 13 11 [l0, l1, l2, l3, l4] (aR r :: st) s = Ze d 13 14 [l0, l1, l2, l3, l4] (aR (fcn r 7) :: st) s := Ze_gf (len := 3) (idx := 20) (by decide +kernel) rfl h rfl
theorem x13_14 : Ze d 13 14 [aR r, l1, l2, l3, l4] st s = Ze d 13 15 [aR r, l1, l2, l3, l4] (aR r :: st) s := Ze_n (i := (.aload_n 0)) (len := 1) (by decide +kernel) rfl
theorem x13_15 (h : obC r = 0) : Ze d 13 15 [l0, l1, l2, l3, l4] (aR r :: st) s = Ze d 13 18 [l0, l1, l2, l3, l4] (aI (s r 16) :: st) s := Ze_gf (len := 3) (idx := 220) (by decide +kernel) rfl h rfl
theorem x13_18 : Ze d 13 18 [l0, l1, aI z, l3, l4] st s = Ze d 13 19 [l0, l1, aI z, l3, l4] (aI z :: st) s := Ze_n (i := (.iload_n 2)) (len := 1) (by decide +kernel) rfl
theorem x13_19 (h0 : 0 ≤ i) (h1 : i < aN1 r) : Ze d 13 19 [l0, l1, l2, l3, l4] (aI z :: aI i :: aR r :: st) s = Ze d 13 20 [l0, l1, l2, l3, l4] st (mu s r i.toNat z) := Ze_n (i := .iastore) (len := 1) (by decide +kernel) (if_pos ⟨h0, h1⟩)
theorem x13_20 : Ze d 13 20 [aR r, l1, l2, l3, l4] st s = Ze d 13 21 [aR r, l1, l2, l3, l4] (aR r :: st) s := Ze_n (i := (.aload_n 0)) (len := 1) (by decide +kernel) rfl
theorem x13_21 (h : obC r = 0) : Ze d 13 21 [l0, l1, l2, l3, l4] (aR r :: st) s = Ze d 13 24 [l0, l1, l2, l3, l4] (aR (fcn r 8) :: st) s := Ze_gf (len := 3) (idx := 23) (by decide +kernel) rfl h rfl
theorem x13_24 : Ze d 13 24 [aR r, l1, l2, l3, l4] st s = Ze d 13 25 [aR r, l1, l2, l3, l4] (aR r :: st) s := Ze_n (i := (.aload_n 0)) (len := 1) (by decide +kernel) rfl
theorem x13_25 (h : obC r = 0) : Ze d 13 25 [l0, l1, l2, l3, l4] (aR r :: st) s = Ze d 13 28 [l0, l1, l2, l3, l4] (aI (s r 16) :: st) s := Ze_gf (len := 3) (idx := 220) (by decide +kernel) rfl h rfl
theorem x13_28 : Ze d 13 28 [l0, l1, l2, aI z, l4] st s = Ze d 13 29 [l0, l1, l2, aI z, l4] (aI z :: st) s := Ze_n (i := (.iload_n 3)) (len := 1) (by decide +kernel) rfl
theorem x13_29 (h0 : 0 ≤ i) (h1 : i < aN1 r) : Ze d 13 29 [l0, l1, l2, l3, l4] (aI z :: aI i :: aR r :: st) s = Ze d 13 30 [l0, l1, l2, l3, l4] st (mu s r i.toNat z) := Ze_n (i := .iastore) (len := 1) (by decide +kernel) (if_pos ⟨h0, h1⟩)
theorem x13_30 : Ze d 13 30 [aR r, l1, l2, l3, l4] st s = Ze d 13 31 [aR r, l1, l2, l3, l4] (aR r :: st) s := Ze_n (i := (.aload_n 0)) (len := 1) (by decide +kernel) rfl
theorem x13_31 (h : obC r = 0) : Ze d 13 31 [l0, l1, l2, l3, l4] (aR r :: st) s = Ze d 13 34 [l0, l1, l2, l3, l4] (aR (fcn r 9) :: st) s := Ze_gf (len := 3) (idx := 26) (by decide +kernel) rfl h rfl
theorem x13_34 : Ze d 13 34 [aR r, l1, l2, l3, l4] st s = Ze d 13 35 [aR r, l1, l2, l3, l4] (aR r :: st) s := Ze_n (i := (.aload_n 0)) (len := 1) (by decide +kernel) rfl
theorem x13_35 (h : obC r = 0) : Ze d 13 35 [l0, l1, l2, l3, l4] (aR r :: st) s = Ze d 13 38 [l0, l1, l2, l3, l4] (aI (s r 16) :: st) s := Ze_gf (len := 3) (idx := 220) (by decide +kernel) rfl h rfl
theorem x13_38 : Ze d 13 38 [l0, l1, l2, l3, aI z] st s = Ze d 13 40 [l0, l1, l2, l3, aI z] (aI z :: st) s := Ze_n (i := (.iload 4)) (len := 2) (by decide +kernel) rfl
theorem x13_40 (h0 : 0 ≤ i) (h1 : i < aN1 r) : Ze d 13 40 [l0, l1, l2, l3, l4] (aI z :: aI i :: aR r :: st) s = Ze d 13 41 [l0, l1, l2, l3, l4] st (mu s r i.toNat z) := Ze_n (i := .iastore) (len := 1) (by decide +kernel) (if_pos ⟨h0, h1⟩)
theorem x13_41 : Ze d 13 41 [aR r, l1, l2, l3, l4] st s = Ze d 13 42 [aR r, l1, l2, l3, l4] (aR r :: st) s := Ze_n (i := (.aload_n 0)) (len := 1) (by decide +kernel) rfl
theorem x13_42 : Ze d 13 42 [l0, l1, l2, l3, l4] (aR r :: st) s = Ze d 13 43 [l0, l1, l2, l3, l4] (aR r :: aR r :: st) s := Ze_n (i := .dup) (len := 1) (by decide +kernel) rfl
theorem x13_42i : Ze d 13 42 [l0, l1, l2, l3, l4] (aI a :: st) s = Ze d 13 43 [l0, l1, l2, l3, l4] (aI a :: aI a :: st) s := Ze_n (i := .dup) (len := 1) (by decide +kernel) rfl
theorem x13_43 (h : obC r = 0) : Ze d 13 43 [l0, l1, l2, l3, l4] (aR r :: st) s = Ze d 13 46 [l0, l1, l2, l3, l4] (aI (s r 16) :: st) s := Ze_gf (len := 3) (idx := 220) (by decide +kernel) rfl h rfl
theorem x13_46 : Ze d 13 46 [l0, l1, l2, l3, l4] st s = Ze d 13 47 [l0, l1, l2, l3, l4] (aI 1 :: st) s := Ze_n (i := (.iconst 1)) (len := 1) (by decide +kernel) rfl
theorem x13_47 : Ze d 13 47 [l0, l1, l2, l3, l4] (aI b :: aI a :: st) s = Ze d 13 48 [l0, l1, l2, l3, l4] (aI (wrap (a + b)) :: st) s := Ze_n (i := .iadd) (len := 1) (by decide +kernel) rfl
theorem x13_48 (h : obC r = 0) : Ze d 13 48 [l0, l1, l2, l3, l4] (aI z :: aR r :: st) s = Ze d 13 51 [l0, l1, l2, l3, l4] st (mu s r 16 z) := Ze_n (i := .putfield 220) (len := 3) (by decide +kernel) (if_pos h)
theorem x13_51 : Ze d 13 51 [aR r, l1, l2, l3, l4] st s = Ze d 13 52 [aR r, l1, l2, l3, l4] (aR r :: st) s := Ze_n (i := (.aload_n 0)) (len := 1) (by decide +kernel) rfl
theorem x13_52 (h : obC r = 0) : Ze d 13 52 [l0, l1, l2, l3, l4] (aR r :: st) s = Ze d 13 55 [l0, l1, l2, l3, l4] (aI (s r 16) :: st) s := Ze_gf (len := 3) (idx := 220) (by decide +kernel) rfl h rfl
theorem x13_55 : Ze d 13 55 [l0, l1, l2, l3, l4] st s = Ze d 13 56 [l0, l1, l2, l3, l4] (aI 1 :: st) s := Ze_n (i := (.iconst 1)) (len := 1) (by decide +kernel) rfl
theorem x13_56 : Ze d 13 56 [l0, l1, l2, l3, l4] (aI b :: aI a :: st) s = Ze d 13 57 [l0, l1, l2, l3, l4] (aI (wrap (a - b)) :: st) s := Ze_n (i := .isub) (len := 1) (by decide +kernel) rfl
theorem x13_57 : Ze d 13 57 [l0, l1, l2, l3, l4] [aI z] s = rI z s := Ze_i1 (by decide +kernel) rfl
theorem en13 : Zc (d + 1) 13 [aR r, aI a1, aI a2, aI a3, aI a4] s = Ze d 13 0 [aR r, aI a1, aI a2, aI a3, aI a4] [] s := rfl
theorem x14_0 : Ze d 14 0 [aR r, l1, l2, l3] st s = Ze d 14 1 [aR r, l1, l2, l3] (aR r :: st) s := Ze_n (i := (.aload_n 0)) (len := 1) (by decide +kernel) rfl
theorem x14_1 (h : obC r = 0) (h6 : st.length ≤ 4) : Ze d 14 1 [l0, l1, l2, l3] (aR r :: st) s = zcI (Zc d 11 [aR r] s) d 14 4 [l0, l1, l2, l3] st := Ze_cvI (idx := 223) (len := 3) (as := []) (by decide +kernel) rfl (by decide +kernel) rfl h h6
theorem x14_4 : Ze d 14 4 [l0, l1, l2, l3] (aI z :: st) s = Ze d 14 5 [l0, aI z, l2, l3] st s := Ze_n (i := (.istore_n 1)) (len := 1) (by decide +kernel) rfl
theorem x14_5 : Ze d 14 5 [aR r, l1, l2, l3] st s = Ze d 14 6 [aR r, l1, l2, l3] (aR r :: st) s := Ze_n (i := (.aload_n 0)) (len := 1) (by decide +kernel) rfl
theorem x14_6 (h : obC r = 0) : Ze d 14 6 [l0, l1, l2, l3] (aR r :: st) s = Ze d 14 9 [l0, l1, l2, l3] (aR (fcn r 14) :: st) s := Ze_gf (len := 3) (idx := 41) (by decide +kernel) rfl h rfl
theorem x14_9 : Ze d 14 9 [aR r, l1, l2, l3] st s = Ze d 14 10 [aR r, l1, l2, l3] (aR r :: st) s := Ze_n (i := (.aload_n 0)) (len := 1) (by decide +kernel) rfl
theorem x14_10 (h : obC r = 0) : Ze d 14 10 [l0, l1, l2, l3] (aR r :: st) s = Ze d 14 13 [l0, l1, l2, l3] (aI (s r 18) :: st) s := Ze_gf (len := 3) (idx := 226) (by decide +kernel) rfl h rfl
theorem x14_13 : Ze d 14 13 [l0, l1, l2, l3] st s = Ze d 14 14 [l0, l1, l2, l3] (aI 1 :: st) s := Ze_n (i := (.iconst 1)) (len := 1) (by decide +kernel) rfl
theorem x14_14 : Ze d 14 14 [l0, l1, l2, l3] (aI b :: aI a :: st) s = Ze d 14 15 [l0, l1, l2, l3] (aI (wrap (a - b)) :: st) s := Ze_n (i := .isub) (len := 1) (by decide +kernel) rfl
theorem x14_15 (h0 : 0 ≤ i) (h1 : i < aN1 r) : Ze d 14 15 [l0, l1, l2, l3] (aI i :: aR r :: st) s = Ze d 14 16 [l0, l1, l2, l3] (aI (s r i.toNat) :: st) s := Ze_n (i := .iaload) (len := 1) (by decide +kernel) (if_pos ⟨h0, h1⟩)
theorem x14_16 : Ze d 14 16 [l0, l1, l2, l3] (aI z :: st) s = Ze d 14 17 [l0, l1, aI z, l3] st s := Ze_n (i := (.istore_n 2)) (len := 1) (by decide +kernel) rfl
theorem x14_17 : Ze d 14 17 [aR r, l1, l2, l3] st s = Ze d 14 18 [aR r, l1, l2, l3] (aR r :: st) s := Ze_n (i := (.aload_n 0)) (len := 1) (by decide +kernel) rfl
theorem x14_18 (h : obC r = 0) (h6 : st.length ≤ 4) : Ze d 14 18 [l0, l1, l2, l3] (aR r :: st) s = zcI (Zc d 7 [aR r] s) d 14 21 [l0, l1, l2, l3] st := Ze_cvI (idx := 204) (len := 3) (as := []) (by decide +kernel) rfl (by decide +kernel) rfl h h6
theorem x14_21 : Ze d 14 21 [l0, l1, l2, l3] st s = Ze d 14 23 [l0, l1, l2, l3] (aI 126 :: st) s := Ze_n (i := (.bipush 126)) (len := 2) (by decide +kernel) rfl
theorem x14_23 : Ze d 14 23 [l0, l1, l2, l3] (aI b :: aI a :: st) s = if a = b then Ze d 14 26 [l0, l1, l2, l3] st s else Ze d 14 30 [l0, l1, l2, l3] st s := Ze_b (i := (.if_icmp .ne 7)) (len := 3) (by decide +kernel) rfl
theorem x14_26 : Ze d 14 26 [l0, l1, l2, l3] st s = Ze d 14 27 [l0, l1, l2, l3] (aI 1 :: st) s := Ze_n (i := (.iconst 1)) (len := 1) (by decide +kernel) rfl
theorem x14_27 : Ze d 14 27 [l0, l1, l2, l3] st s = Ze d 14 31 [l0, l1, l2, l3] st s := Ze_n (i := (.goto 4)) (len := 3) (by decide +kernel) rfl
theorem x14_30 : Ze d 14 30 [l0, l1, l2, l3] st s = Ze d 14 31 [l0, l1, l2, l3] (aI 0 :: st) s := Ze_n (i := (.iconst 0)) (len := 1) (by decide +kernel) rfl
theorem x14_31 : Ze d 14 31 [l0, l1, l2, l3] (aI z :: st) s = Ze d 14 32 [l0, l1, l2, aI z] st s := Ze_n (i := (.istore_n 3)) (len := 1) (by decide +kernel) rfl
theorem x14_32 : Ze d 14 32 [l0, l1, l2, aI z] st s = Ze d 14 33 [l0, l1, l2, aI z] (aI z :: st) s := Ze_n (i := (.iload_n 3)) (len := 1) (by decide +kernel) rfl
theorem x14_33 : Ze d 14 33 [l0, l1, l2, l3] (aI a :: st) s = if a = 0 then Ze d 14 46 [l0, l1, l2, l3] st s else Ze d 14 36 [l0, l1, l2, l3] st s := Ze_b (i := (.ifCond .eq 13)) (len := 3) (by decide +kernel) rfl
theorem x14_36 : Ze d 14 36 [aR r, l1, l2, l3] st s = Ze d 14 37 [aR r, l1, l2, l3] (aR r :: st) s := Ze_n (i := (.aload_n 0)) (len := 1) (by decide +kernel) rfl
theorem x14_37 : Ze d 14 37 [l0, l1, l2, l3] (aR r :: st) s = Ze d 14 38 [l0, l1, l2, l3] (aR r :: aR r :: st) s := Ze_n (i := .dup) (len := 1) (by decide +kernel) rfl
theorem x14_37i : Ze d 14 37 [l0, l1, l2, l3] (aI a :: st) s = Ze d 14 38 [l0, l1, l2, l3] (aI a :: aI a :: st) s := Ze_n (i := .dup) (len := 1) (by decide +kernel) rfl
theorem x14_38 (h : obC r = 0) : Ze d 14 38 [l0, l1, l2, l3] (aR r :: st) s = Ze d 14 41 [l0, l1, l2, l3] (aI (s r 2) :: st) s := Ze_gf (len := 3) (idx := 198) (by decide +kernel) rfl h rfl
theorem x14_41 : Ze d 14 41 [l0, l1, l2, l3] st s = Ze d 14 42 [l0, l1, l2, l3] (aI 1 :: st) s := Ze_n (i := (.iconst 1)) (len := 1) (by decide +kernel) rfl
theorem x14_42 : Ze d 14 42 [l0, l1, l2, l3] (aI b :: aI a :: st) s = Ze d 14 43 [l0, l1, l2, l3] (aI (wrap (a + b)) :: st) s := Ze_n (i := .iadd) (len := 1) (by decide +kernel) rfl
theorem x14_43 (h : obC r = 0) : Ze d 14 43 [l0, l1, l2, l3] (aI z :: aR r :: st) s = Ze d 14 46 [l0, l1, l2, l3] st (mu s r 2 z) := Ze_n (i := .putfield 198) (len := 3) (by decide +kernel) (if_pos h)
theorem x14_46 : Ze d 14 46 [aR r, l1, l2, l3] st s = Ze d 14 47 [aR r, l1, l2, l3] (aR r :: st) s := Ze_n (i := (.aload_n 0)) (len := 1) (by decide +kernel) rfl
theorem x14_47 : Ze d 14 47 [l0, l1, l2, l3] st s = Ze d 14 49 [l0, l1, l2, l3] (aI 58 :: st) s := Ze_n (i := (.bipush 58)) (len := 2) (by decide +kernel) rfl
theorem x14_49 (h : obC r = 0) (h6 : st.length ≤ 4) : Ze d 14 49 [l0, l1, l2, l3] (aI a1 :: aR r :: st) s = zcV (Zc d 8 [aR r, aI a1] s) d 14 52 [l0, l1, l2, l3] st := Ze_cvV (idx := 229) (len := 3) (as := [aI a1]) (by decide +kernel) rfl (by decide +kernel) rfl h h6
theorem x14_52 : Ze d 14 52 [aR r, l1, l2, l3] st s = Ze d 14 53 [aR r, l1, l2, l3] (aR r :: st) s := Ze_n (i := (.aload_n 0)) (len := 1) (by decide +kernel) rfl
theorem x14_53 (h : obC r = 0) : Ze d 14 53 [l0, l1, l2, l3] (aR r :: st) s = Ze d 14 56 [l0, l1, l2, l3] (aI (s r 5) :: st) s := Ze_gf (len := 3) (idx := 194) (by decide +kernel) rfl h rfl
theorem x14_56 : Ze d 14 56 [l0, l1, l2, l3] (aI a :: st) s = if a = 0 then Ze d 14 60 [l0, l1, l2, l3] st s else Ze d 14 59 [l0, l1, l2, l3] st s := Ze_b (i := (.ifCond .eq 4)) (len := 3) (by decide +kernel) rfl
theorem x14_59 : Ze d 14 59 [l0, l1, l2, l3] [] s = rV s := Ze_v (by decide +kernel) rfl
theorem x14_60 : Ze d 14 60 [aR r, l1, l2, l3] st s = Ze d 14 61 [aR r, l1, l2, l3] (aR r :: st) s := Ze_n (i := (.aload_n 0)) (len := 1) (by decide +kernel) rfl
theorem x14_61 (h : obC r = 0) : Ze d 14 61 [l0, l1, l2, l3] (aR r :: st) s = Ze d 14 64 [l0, l1, l2, l3] (aR (fcn r 10) :: st) s := Ze_gf (len := 3) (idx := 29) (by decide +kernel) rfl h rfl
theorem x14_64 : Ze d 14 64 [aR r, l1, l2, l3] st s = Ze d 14 65 [aR r, l1, l2, l3] (aR r :: st) s := Ze_n (i := (.aload_n 0)) (len := 1) (by decide +kernel) rfl
theorem x14_65 (h : obC r = 0) : Ze d 14 65 [l0, l1, l2, l3] (aR r :: st) s = Ze d 14 68 [l0, l1, l2, l3] (aI (s r 17) :: st) s := Ze_gf (len := 3) (idx := 232) (by decide +kernel) rfl h rfl
theorem x14_68 : Ze d 14 68 [l0, aI z, l2, l3] st s = Ze d 14 69 [l0, aI z, l2, l3] (aI z :: st) s := Ze_n (i := (.iload_n 1)) (len := 1) (by decide +kernel) rfl
theorem x14_69 (h0 : 0 ≤ i) (h1 : i < aN1 r) : Ze d 14 69 [l0, l1, l2, l3] (aI z :: aI i :: aR r :: st) s = Ze d 14 70 [l0, l1, l2, l3] st (mu s r i.toNat z) := Ze_n (i := .iastore) (len := 1) (by decide +kernel) (if_pos ⟨h0, h1⟩)
theorem x14_70 : Ze d 14 70 [aR r, l1, l2, l3] st s = Ze d 14 71 [aR r, l1, l2, l3] (aR r :: st) s := Ze_n (i := (.aload_n 0)) (len := 1) (by decide +kernel) rfl
theorem x14_71 (h : obC r = 0) : Ze d 14 71 [l0, l1, l2, l3] (aR r :: st) s = Ze d 14 74 [l0, l1, l2, l3] (aR (fcn r 13) :: st) s := Ze_gf (len := 3) (idx := 38) (by decide +kernel) rfl h rfl
theorem x14_74 : Ze d 14 74 [aR r, l1, l2, l3] st s = Ze d 14 75 [aR r, l1, l2, l3] (aR r :: st) s := Ze_n (i := (.aload_n 0)) (len := 1) (by decide +kernel) rfl
theorem x14_75 (h : obC r = 0) : Ze d 14 75 [l0, l1, l2, l3] (aR r :: st) s = Ze d 14 78 [l0, l1, l2, l3] (aI (s r 17) :: st) s := Ze_gf (len := 3) (idx := 232) (by decide +kernel) rfl h rfl
theorem x14_78 : Ze d 14 78 [l0, l1, l2, aI z] st s = Ze d 14 79 [l0, l1, l2, aI z] (aI z :: st) s := Ze_n (i := (.iload_n 3)) (len := 1) (by decide +kernel) rfl
theorem x14_79 : Ze d 14 79 [l0, l1, l2, l3] (aI a :: st) s = if a = 0 then Ze d 14 86 [l0, l1, l2, l3] st s else Ze d 14 82 [l0, l1, l2, l3] st s := Ze_b (i := (.ifCond .eq 7)) (len := 3) (by decide +kernel) rfl
theorem x14_82 : Ze d 14 82 [l0, l1, l2, l3] st s = Ze d 14 83 [l0, l1, l2, l3] (aI 1 :: st) s := Ze_n (i := (.iconst 1)) (len := 1) (by decide +kernel) rfl
theorem x14_83 : Ze d 14 83 [l0, l1, l2, l3] st s = Ze d 14 87 [l0, l1, l2, l3] st s := Ze_n (i := (.goto 4)) (len := 3) (by decide +kernel) rfl
theorem x14_86 : Ze d 14 86 [l0, l1, l2, l3] st s = Ze d 14 87 [l0, l1, l2, l3] (aI 0 :: st) s := Ze_n (i := (.iconst 0)) (len := 1) (by decide +kernel) rfl
theorem x14_87 (h0 : 0 ≤ i) (h1 : i < aN1 r) : Ze d 14 87 [l0, l1, l2, l3] (aI z :: aI i :: aR r :: st) s = Ze d 14 88 [l0, l1, l2, l3] st (mu s r i.toNat z) := Ze_n (i := .iastore) (len := 1) (by decide +kernel) (if_pos ⟨h0, h1⟩)
theorem x14_88 : Ze d 14 88 [aR r, l1, l2, l3] st s = Ze d 14 89 [aR r, l1, l2, l3] (aR r :: st) s := Ze_n (i := (.aload_n 0)) (len := 1) (by decide +kernel) rfl
theorem x14_89 (h : obC r = 0) : Ze d 14 89 [l0, l1, l2, l3] (aR r :: st) s = Ze d 14 92 [l0, l1, l2, l3] (aR (fcn r 12) :: st) s := Ze_gf (len := 3) (idx := 35) (by decide +kernel) rfl h rfl
theorem x14_92 : Ze d 14 92 [aR r, l1, l2, l3] st s = Ze d 14 93 [aR r, l1, l2, l3] (aR r :: st) s := Ze_n (i := (.aload_n 0)) (len := 1) (by decide +kernel) rfl
theorem x14_93 (h : obC r = 0) : Ze d 14 93 [l0, l1, l2, l3] (aR r :: st) s = Ze d 14 96 [l0, l1, l2, l3] (aI (s r 17) :: st) s := Ze_gf (len := 3) (idx := 232) (by decide +kernel) rfl h rfl
theorem x14_96 : Ze d 14 96 [l0, l1, l2, l3] st s = Ze d 14 97 [l0, l1, l2, l3] (aI (-1) :: st) s := Ze_n (i := (.iconst (-1))) (len := 1) (by decide +kernel) rfl
theorem x14_97 (h0 : 0 ≤ i) (h1 : i < aN1 r) : Ze d 14 97 [l0, l1, l2, l3] (aI z :: aI i :: aR r :: st) s = Ze d 14 98 [l0, l1, l2, l3] st (mu s r i.toNat z) := Ze_n (i := .iastore) (len := 1) (by decide +kernel) (if_pos ⟨h0, h1⟩)
theorem x14_98 : Ze d 14 98 [aR r, l1, l2, l3] st s = Ze d 14 99 [aR r, l1, l2, l3] (aR r :: st) s := Ze_n (i := (.aload_n 0)) (len := 1) (by decide +kernel) rfl
theorem x14_99 (h : obC r = 0) : Ze d 14 99 [l0, l1, l2, l3] (aR r :: st) s = Ze d 14 102 [l0, l1, l2, l3] (aR (fcn r 15) :: st) s := Ze_gf (len := 3) (idx := 44) (by decide +kernel) rfl h rfl
theorem x14_102 : Ze d 14 102 [aR r, l1, l2, l3] st s = Ze d 14 103 [aR r, l1, l2, l3] (aR r :: st) s := Ze_n (i := (.aload_n 0)) (len := 1) (by decide +kernel) rfl
theorem x14_103 (h : obC r = 0) : Ze d 14 103 [l0, l1, l2, l3] (aR r :: st) s = Ze d 14 106 [l0, l1, l2, l3] (aI (s r 18) :: st) s := Ze_gf (len := 3) (idx := 226) (by decide +kernel) rfl h rfl
theorem x14_106 : Ze d 14 106 [l0, l1, l2, l3] st s = Ze d 14 107 [l0, l1, l2, l3] (aI 1 :: st) s := Ze_n (i := (.iconst 1)) (len := 1) (by decide +kernel) rfl
theorem x14_107 : Ze d 14 107 [l0, l1, l2, l3] (aI b :: aI a :: st) s = Ze d 14 108 [l0, l1, l2, l3] (aI (wrap (a - b)) :: st) s := Ze_n (i := .isub) (len := 1) (by decide +kernel) rfl
theorem x14_108 (h0 : 0 ≤ i) (h1 : i < aN1 r) : Ze d 14 108 [l0, l1, l2, l3] (aI i :: aR r :: st) s = Ze d 14 109 [l0, l1, l2, l3] (aI (s r i.toNat) :: st) s := Ze_n (i := .iaload) (len := 1) (by decide +kernel) (if_pos ⟨h0, h1⟩)
theorem x14_109 : Ze d 14 109 [l0, l1, l2, l3] (aI a :: st) s = if a < 0 then Ze d 14 112 [l0, l1, l2, l3] st s else Ze d 14 125 [l0, l1, l2, l3] st s := Ze_b (i := (.ifCond .ge 16)) (len := 3) (by decide +kernel) rfl
theorem x14_112 : Ze d 14 112 [aR r, l1, l2, l3] st s = Ze d 14 113 [aR r, l1, l2, l3] (aR r :: st) s := Ze_n (i := (.aload_n 0)) (len := 1) (by decide +kernel) rfl
theorem x14_113 (h : obC r = 0) : Ze d 14 113 [l0, l1, l2, l3] (aR r :: st) s = Ze d 14 116 [l0, l1, l2, l3] (aR (fcn r 8) :: st) s := Ze_gf (len := 3) (idx := 23) (by decide +kernel) rfl h rfl
theorem x14_116 : Ze d 14 116 [l0, l1, aI z, l3] st s = Ze d 14 117 [l0, l1, aI z, l3] (aI z :: st) s := Ze_n (i := (.iload_n 2)) (len := 1) (by decide +kernel) rfl
theorem x14_117 : Ze d 14 117 [aR r, l1, l2, l3] st s = Ze d 14 118 [aR r, l1, l2, l3] (aR r :: st) s := Ze_n (i := (.aload_n 0)) (len := 1) (by decide +kernel) rfl
theorem x14_118 (h : obC r = 0) : Ze d 14 118 [l0, l1, l2, l3] (aR r :: st) s = Ze d 14 121 [l0, l1, l2, l3] (aI (s r 17) :: st) s := Ze_gf (len := 3) (idx := 232) (by decide +kernel) rfl h rfl
theorem x14_121 (h0 : 0 ≤ i) (h1 : i < aN1 r) : Ze d 14 121 [l0, l1, l2, l3] (aI z :: aI i :: aR r :: st) s = Ze d 14 122 [l0, l1, l2, l3] st (mu s r i.toNat z) := Ze_n (i := .iastore) (len := 1) (by decide +kernel) (if_pos ⟨h0, h1⟩)
theorem x14_122 : Ze d 14 122 [l0, l1, l2, l3] st s = Ze d 14 145 [l0, l1, l2, l3] st s := Ze_n (i := (.goto 23)) (len := 3) (by decide +kernel) rfl
theorem x14_125 : Ze d 14 125 [aR r, l1, l2, l3] st s = Ze d 14 126 [aR r, l1, l2, l3] (aR r :: st) s := Ze_n (i := (.aload_n 0)) (len := 1) (by decide +kernel) rfl
theorem x14_126 (h : obC r = 0) : Ze d 14 126 [l0, l1, l2, l3] (aR r :: st) s = Ze d 14 129 [l0, l1, l2, l3] (aR (fcn r 12) :: st) s := Ze_gf (len := 3) (idx := 35) (by decide +kernel) rfl h rfl
theorem x14_129 : Ze d 14 129 [aR r, l1, l2, l3] st s = Ze d 14 130 [aR r, l1, l2, l3] (aR r :: st) s := Ze_n (i := (.aload_n 0)) (len := 1) (by decide +kernel) rfl
theorem x14_130 (h : obC r = 0) : Ze d 14 130 [l0, l1, l2, l3] (aR r :: st) s = Ze d 14 133 [l0, l1, l2, l3] (aR (fcn r 15) :: st) s := Ze_gf (len := 3) (idx := 44) (by decide +kernel) rfl h rfl
theorem x14_133 : Ze d 14 133 [aR r, l1, l2, l3] st s = Ze d 14 134 [aR r, l1, l2, l3] (aR r :: st) s := Ze_n (i := (.aload_n 0)) (len := 1) (by decide +kernel) rfl
theorem x14_134 (h : obC r = 0) : Ze d 14 134 [l0, l1, l2, l3] (aR r :: st) s = Ze d 14 137 [l0, l1, l2, l3] (aI (s r 18) :: st) s := Ze_gf (len := 3) (idx := 226) (by decide +kernel) rfl h rfl
theorem x14_137 : Ze d 14 137 [l0, l1, l2, l3] st s = Ze d 14 138 [l0, l1, l2, l3] (aI 1 :: st) s := Ze_n (i := (.iconst 1)) (len := 1) (by decide +kernel) rfl
theorem x14_138 : Ze d 14 138 [l0, l1, l2, l3] (aI b :: aI a :: st) s = Ze d 14 139 [l0, l1, l2, l3] (aI (wrap (a - b)) :: st) s := Ze_n (i := .isub) (len := 1) (by decide +kernel) rfl
theorem x14_139 (h0 : 0 ≤ i) (h1 : i < aN1 r) : Ze d 14 139 [l0, l1, l2, l3] (aI i :: aR r :: st) s = Ze d 14 140 [l0, l1, l2, l3] (aI (s r i.toNat) :: st) s := Ze_n (i := .iaload) (len := 1) (by decide +kernel) (if_pos ⟨h0, h1⟩)
theorem x14_140 : Ze d 14 140 [aR r, l1, l2, l3] st s = Ze d 14 141 [aR r, l1, l2, l3] (aR r :: st) s := Ze_n (i := (.aload_n 0)) (len := 1) (by decide +kernel) rfl
theorem x14_141 (h : obC r = 0) : Ze d 14 141 [l0, l1, l2, l3] (aR r :: st) s = Ze d 14 144 [l0, l1, l2, l3] (aI (s r 17) :: st) s := Ze_gf (len := 3) (idx := 232) (by decide +kernel) rfl h rfl
theorem x14_144 (h0 : 0 ≤ i) (h1 : i < aN1 r) : Ze d 14 144 [l0, l1, l2, l3] (aI z :: aI i :: aR r :: st) s = Ze d 14 145 [l0, l1, l2, l3] st (mu s r i.toNat z) := Ze_n (i := .iastore) (len := 1) (by decide +kernel) (if_pos ⟨h0, h1⟩)
theorem x14_145 : Ze d 14 145 [aR r, l1, l2, l3] st s = Ze d 14 146 [aR r, l1, l2, l3] (aR r :: st) s := Ze_n (i := (.aload_n 0)) (len := 1) (by decide +kernel) rfl
theorem x14_146 (h : obC r = 0) : Ze d 14 146 [l0, l1, l2, l3] (aR r :: st) s = Ze d 14 149 [l0, l1, l2, l3] (aR (fcn r 15) :: st) s := Ze_gf (len := 3) (idx := 44) (by decide +kernel) rfl h rfl
theorem x14_149 : Ze d 14 149 [aR r, l1, l2, l3] st s = Ze d 14 150 [aR r, l1, l2, l3] (aR r :: st) s := Ze_n (i := (.aload_n 0)) (len := 1) (by decide +kernel) rfl
theorem x14_150 (h : obC r = 0) : Ze d 14 150 [l0, l1, l2, l3] (aR r :: st) s = Ze d 14 153 [l0, l1, l2, l3] (aI (s r 18) :: st) s := Ze_gf (len := 3) (idx := 226) (by decide +kernel) rfl h rfl
theorem x14_153 : Ze d 14 153 [l0, l1, l2, l3] st s = Ze d 14 154 [l0, l1, l2, l3] (aI 1 :: st) s := Ze_n (i := (.iconst 1)) (len := 1) (by decide +kernel) rfl
theorem x14_154 : Ze d 14 154 [l0, l1, l2, l3] (aI b :: aI a :: st) s = Ze d 14 155 [l0, l1, l2, l3] (aI (wrap (a - b)) :: st) s := Ze_n (i := .isub) (len := 1) (by decide +kernel) rfl
theorem x14_155 : Ze d 14 155 [aR r, l1, l2, l3] st s = Ze d 14 156 [aR r, l1, l2, l3] (aR r :: st) s := Ze_n (i := (.aload_n 0)) (len := 1) (by decide +kernel) rfl
theorem x14_156 (h : obC r = 0) : Ze d 14 156 [l0, l1, l2, l3] (aR r :: st) s = Ze d 14 159 [l0, l1, l2, l3] (aI (s r 17) :: st) s := Ze_gf (len := 3) (idx := 232) (by decide +kernel) rfl h rfl
theorem x14_159 (h0 : 0 ≤ i) (h1 : i < aN1 r) : Ze d 14 159 [l0, l1, l2, l3] (aI z :: aI i :: aR r :: st) s = Ze d 14 160 [l0, l1, l2, l3] st (mu s r i.toNat z) := Ze_n (i := .iastore) (len := 1) (by decide +kernel) (if_pos ⟨h0, h1⟩)
theorem x14_160 : Ze d 14 160 [aR r, l1, l2, l3] st s = Ze d 14 161 [aR r, l1, l2, l3] (aR r :: st) s := Ze_n (i := (.aload_n 0)) (len := 1) (by decide +kernel) rfl
theorem x14_161 : Ze d 14 161 [l0, l1, l2, l3] (aR r :: st) s = Ze d 14 162 [l0, l1, l2, l3] (aR r :: aR r :: st) s := Ze_n (i := .dup) (len := 1) (by decide +kernel) rfl
theorem x14_161i : Ze d 14 161 [l0, l1, l2, l3] (aI a :: st) s = Ze d 14 162 [l0, l1, l2, l3] (aI a :: aI a :: st) s := Ze_n (i := .dup) (len := 1) (by decide +kernel) rfl
theorem x14_162 (h : obC r = 0) : Ze d 14 162 [l0, l1, l2, l3] (aR r :: st) s = Ze d 14 165 [l0, l1, l2, l3] (aI (s r 17) :: st) s := Ze_gf (len := 3) (idx := 232) (by decide +kernel) rfl h rfl
theorem x14_165 : Ze d 14 165 [l0, l1, l2, l3] st s = Ze d 14 166 [l0, l1, l2, l3] (aI 1 :: st) s := Ze_n (i := (.iconst 1)) (len := 1) (by decide +kernel) rfl
theorem x14_166 : Ze d 14 166 [l0, l1, l2, l3] (aI b :: aI a :: st) s = Ze d 14 167 [l0, l1, l2, l3] (aI (wrap (a + b)) :: st) s := Ze_n (i := .iadd) (len := 1) (by decide +kernel) rfl
theorem x14_167 (h : obC r = 0) : Ze d 14 167 [l0, l1, l2, l3] (aI z :: aR r :: st) s = Ze d 14 170 [l0, l1, l2, l3] st (mu s r 17 z) := Ze_n (i := .putfield 232) (len := 3) (by decide +kernel) (if_pos h)
theorem x14_170 : Ze d 14 170 [l0, l1, l2, l3] [] s = rV s := Ze_v (by decide +kernel) rfl
theorem en14 : Zc (d + 1) 14 [aR r] s = Ze d 14 0 [aR r, aU, aU, aU] [] s := rfl
theorem x15_0 : Ze d 15 0 [aR r, l1, l2, l3] st s = Ze d 15 1 [aR r, l1, l2, l3] (aR r :: st) s := Ze_n (i := (.aload_n 0)) (len := 1) (by decide +kernel) rfl
theorem x15_1 : Ze d 15 1 [l0, l1, l2, l3] st s = Ze d 15 2 [l0, l1, l2, l3] (aI 0 :: st) s := Ze_n (i := (.iconst 0)) (len := 1) (by decide +kernel) rfl
theorem x15_2 (h : obC r = 0) : Ze d 15 2 [l0, l1, l2, l3] (aI z :: aR r :: st) s = Ze d 15 5 [l0, l1, l2, l3] st (mu s r 18 z) := Ze_n (i := .putfield 226) (len := 3) (by decide +kernel) (if_pos h)
theorem x15_5 : Ze d 15 5 [l0, l1, l2, l3] st s = Ze d 15 6 [l0, l1, l2, l3] (aI (-1) :: st) s := Ze_n (i := (.iconst (-1))) (len := 1) (by decide +kernel) rfl
theorem x15_6 : Ze d 15 6 [l0, l1, l2, l3] (aI z :: st) s = Ze d 15 7 [l0, aI z, l2, l3] st s := Ze_n (i := (.istore_n 1)) (len := 1) (by decide +kernel) rfl
theorem x15_7 : Ze d 15 7 [aR r, l1, l2, l3] st s = Ze d 15 8 [aR r, l1, l2, l3] (aR r :: st) s := Ze_n (i := (.aload_n 0)) (len := 1) (by decide +kernel) rfl
theorem x15_8 (h : obC r = 0) : Ze d 15 8 [l0, l1, l2, l3] (aR r :: st) s = Ze d 15 11 [l0, l1, l2, l3] (aI (s r 5) :: st) s := Ze_gf (len := 3) (idx := 194) (by decide +kernel) rfl h rfl
theorem x15_11 : Ze d 15 11 [l0, l1, l2, l3] (aI a :: st) s = if a = 0 then Ze d 15 14 [l0, l1, l2, l3] st s else Ze d 15 406 [l0, l1, l2, l3] st s := Ze_b (i := (.ifCond .ne 395)) (len := 3) (by decide +kernel) rfl
theorem x15_14 : Ze d 15 14 [l0, aI z, l2, l3] st s = Ze d 15 15 [l0, aI z, l2, l3] (aI z :: st) s := Ze_n (i := (.iload_n 1)) (len := 1) (by decide +kernel) rfl
theorem x15_15 : Ze d 15 15 [l0, l1, l2, l3] (aI a :: st) s = if a < 0 then Ze d 15 18 [l0, l1, l2, l3] st s else Ze d 15 163 [l0, l1, l2, l3] st s := Ze_b (i := (.ifCond .ge 148)) (len := 3) (by decide +kernel) rfl
theorem x15_18 : Ze d 15 18 [aR r, l1, l2, l3] st s = Ze d 15 19 [aR r, l1, l2, l3] (aR r :: st) s := Ze_n (i := (.aload_n 0)) (len := 1) (by decide +kernel) rfl
theorem x15_19 (h : obC r = 0) (h6 : st.length ≤ 4) : Ze d 15 19 [l0, l1, l2, l3] (aR r :: st) s = zcI (Zc d 7 [aR r] s) d 15 22 [l0, l1, l2, l3] st := Ze_cvI (idx := 204) (len := 3) (as := []) (by decide +kernel) rfl (by decide +kernel) rfl h h6
theorem x15_22 : Ze d 15 22 [l0, l1, l2, l3] (aI z :: st) s = Ze d 15 23 [l0, l1, aI z, l3] st s := Ze_n (i := (.istore_n 2)) (len := 1) (by decide +kernel) rfl
theorem x15_23 : Ze d 15 23 [aR r, l1, l2, l3] st s = Ze d 15 24 [aR r, l1, l2, l3] (aR r :: st) s := Ze_n (i := (.aload_n 0)) (len := 1) (by decide +kernel) rfl
theorem x15_24 (h : obC r = 0) : Ze d 15 24 [l0, l1, l2, l3] (aR r :: st) s = Ze d 15 27 [l0, l1, l2, l3] (aI (s r 18) :: st) s := Ze_gf (len := 3) (idx := 226) (by decide +kernel) rfl h rfl
theorem x15_27 : Ze d 15 27 [l0, l1, l2, l3] st s = Ze d 15 28 [l0, l1, l2, l3] (aI 3 :: st) s := Ze_n (i := (.iconst 3)) (len := 1) (by decide +kernel) rfl
theorem x15_28 : Ze d 15 28 [l0, l1, l2, l3] (aI b :: aI a :: st) s = if a = b then Ze d 15 31 [l0, l1, l2, l3] st s else Ze d 15 42 [l0, l1, l2, l3] st s := Ze_b (i := (.if_icmp .ne 14)) (len := 3) (by decide +kernel) rfl
theorem x15_31 : Ze d 15 31 [aR r, l1, l2, l3] st s = Ze d 15 32 [aR r, l1, l2, l3] (aR r :: st) s := Ze_n (i := (.aload_n 0)) (len := 1) (by decide +kernel) rfl
theorem x15_32 : Ze d 15 32 [aR r, l1, l2, l3] st s = Ze d 15 33 [aR r, l1, l2, l3] (aR r :: st) s := Ze_n (i := (.aload_n 0)) (len := 1) (by decide +kernel) rfl
theorem x15_33 (h : obC r = 0) : Ze d 15 33 [l0, l1, l2, l3] (aR r :: st) s = Ze d 15 36 [l0, l1, l2, l3] (aI (s r 2) :: st) s := Ze_gf (len := 3) (idx := 198) (by decide +kernel) rfl h rfl
theorem x15_36 (h : obC r = 0) (h6 : st.length ≤ 4) : Ze d 15 36 [l0, l1, l2, l3] (aI a1 :: aR r :: st) s = zcV (Zc d 5 [aR r, aI a1] s) d 15 39 [l0, l1, l2, l3] st := Ze_cvV (idx := 208) (len := 3) (as := [aI a1]) (by decide +kernel) rfl (by decide +kernel) rfl h h6
theorem x15_39 : Ze d 15 39 [l0, l1, l2, l3] st s = Ze d 15 7 [l0, l1, l2, l3] st s := Ze_n (i := (.goto (-32))) (len := 3) (by decide +kernel) rfl
theorem x15_42 : Ze d 15 42 [l0, l1, aI z, l3] st s = Ze d 15 43 [l0, l1, aI z, l3] (aI z :: st) s := Ze_n (i := (.iload_n 2)) (len := 1) (by decide +kernel) rfl
theorem x15_43 : Ze d 15 43 [l0, l1, l2, l3] st s = Ze d 15 45 [l0, l1, l2, l3] (aI 85 :: st) s := Ze_n (i := (.bipush 85)) (len := 2) (by decide +kernel) rfl
theorem x15_45 : Ze d 15 45 [l0, l1, l2, l3] (aI b :: aI a :: st) s = if a = b then Ze d 15 48 [l0, l1, l2, l3] st s else Ze d 15 92 [l0, l1, l2, l3] st s := Ze_b (i := (.if_icmp .ne 47)) (len := 3) (by decide +kernel) rfl
theorem x15_48 : Ze d 15 48 [aR r, l1, l2, l3] st s = Ze d 15 49 [aR r, l1, l2, l3] (aR r :: st) s := Ze_n (i := (.aload_n 0)) (len := 1) (by decide +kernel) rfl
theorem x15_49 : Ze d 15 49 [l0, l1, l2, l3] (aR r :: st) s = Ze d 15 50 [l0, l1, l2, l3] (aR r :: aR r :: st) s := Ze_n (i := .dup) (len := 1) (by decide +kernel) rfl
theorem x15_49i : Ze d 15 49 [l0, l1, l2, l3] (aI a :: st) s = Ze d 15 50 [l0, l1, l2, l3] (aI a :: aI a :: st) s := Ze_n (i := .dup) (len := 1) (by decide +kernel) rfl
theorem x15_50 (h : obC r = 0) : Ze d 15 50 [l0, l1, l2, l3] (aR r :: st) s = Ze d 15 53 [l0, l1, l2, l3] (aI (s r 2) :: st) s := Ze_gf (len := 3) (idx := 198) (by decide +kernel) rfl h rfl
theorem x15_53 : Ze d 15 53 [l0, l1, l2, l3] st s = Ze d 15 54 [l0, l1, l2, l3] (aI 1 :: st) s := Ze_n (i := (.iconst 1)) (len := 1) (by decide +kernel) rfl
theorem x15_54 : Ze d 15 54 [l0, l1, l2, l3] (aI b :: aI a :: st) s = Ze d 15 55 [l0, l1, l2, l3] (aI (wrap (a + b)) :: st) s := Ze_n (i := .iadd) (len := 1) (by decide +kernel) rfl
theorem x15_55 (h : obC r = 0) : Ze d 15 55 [l0, l1, l2, l3] (aI z :: aR r :: st) s = Ze d 15 58 [l0, l1, l2, l3] st (mu s r 2 z) := Ze_n (i := .putfield 198) (len := 3) (by decide +kernel) (if_pos h)
theorem x15_58 : Ze d 15 58 [aR r, l1, l2, l3] st s = Ze d 15 59 [aR r, l1, l2, l3] (aR r :: st) s := Ze_n (i := (.aload_n 0)) (len := 1) (by decide +kernel) rfl
theorem x15_59 (h : obC r = 0) (h6 : st.length ≤ 4) : Ze d 15 59 [l0, l1, l2, l3] (aR r :: st) s = zcI (Zc d 7 [aR r] s) d 15 62 [l0, l1, l2, l3] st := Ze_cvI (idx := 204) (len := 3) (as := []) (by decide +kernel) rfl (by decide +kernel) rfl h h6
theorem x15_62 (h6 : st.length ≤ 4) : Ze d 15 62 [l0, l1, l2, l3] (aI a0 :: st) s = zcI (Zc d 9 [aI a0] s) d 15 65 [l0, l1, l2, l3] st := Ze_csI (idx := 216) (len := 3) (as := [aI a0]) (by decide +kernel) rfl rfl (by decide +kernel) rfl h6
theorem x15_65 : Ze d 15 65 [l0, l1, l2, l3] (aI a :: st) s = if a = 0 then Ze d 15 78 [l0, l1, l2, l3] st s else Ze d 15 68 [l0, l1, l2, l3] st s := Ze_b (i := (.ifCond .eq 13)) (len := 3) (by decide +kernel) rfl
theorem x15_68 : Ze d 15 68 [aR r, l1, l2, l3] st s = Ze d 15 69 [aR r, l1, l2, l3] (aR r :: st) s := Ze_n (i := (.aload_n 0)) (len := 1) (by decide +kernel) rfl
theorem x15_69 : Ze d 15 69 [l0, l1, l2, l3] st s = Ze d 15 70 [l0, l1, l2, l3] (aI 1 :: st) s := Ze_n (i := (.iconst 1)) (len := 1) (by decide +kernel) rfl
theorem x15_70 : Ze d 15 70 [l0, l1, l2, l3] st s = Ze d 15 72 [l0, l1, l2, l3] (aI 16 :: st) s := Ze_n (i := (.bipush 16)) (len := 2) (by decide +kernel) rfl
theorem x15_72 (h : obC r = 0) (h6 : st.length ≤ 4) : Ze d 15 72 [l0, l1, l2, l3] (aI a2 :: aI a1 :: aR r :: st) s = zcI (Zc d 12 [aR r, aI a1, aI a2] s) d 15 75 [l0, l1, l2, l3] st := Ze_cvI (idx := 235) (len := 3) (as := [aI a1, aI a2]) (by decide +kernel) rfl (by decide +kernel) rfl h h6
theorem x15_75 : Ze d 15 75 [l0, l1, l2, l3] st s = Ze d 15 79 [l0, l1, l2, l3] st s := Ze_n (i := (.goto 4)) (len := 3) (by decide +kernel) rfl
theorem x15_78 : Ze d 15 78 [l0, l1, l2, l3] st s = Ze d 15 79 [l0, l1, l2, l3] (aI 0 :: st) s := Ze_n (i := (.iconst 0)) (len := 1) (by decide +kernel) rfl
theorem x15_79 : Ze d 15 79 [l0, l1, l2, l3] (aI z :: st) s = Ze d 15 80 [l0, l1, l2, aI z] st s := Ze_n (i := (.istore_n 3)) (len := 1) (by decide +kernel) rfl
theorem x15_80 : Ze d 15 80 [aR r, l1, l2, l3] st s = Ze d 15 81 [aR r, l1, l2, l3] (aR r :: st) s := Ze_n (i := (.aload_n 0)) (len := 1) (by decide +kernel) rfl
theorem x15_81 : Ze d 15 81 [l0, l1, l2, l3] st s = Ze d 15 82 [l0, l1, l2, l3] (aI 0 :: st) s := Ze_n (i := (.iconst 0)) (len := 1) (by decide +kernel) rfl
theorem x15_82 : Ze d 15 82 [l0, l1, l2, aI z] st s = Ze d 15 83 [l0, l1, l2, aI z] (aI z :: st) s := Ze_n (i := (.iload_n 3)) (len := 1) (by decide +kernel) rfl
theorem x15_83 : Ze d 15 83 [l0, l1, l2, l3] st s = Ze d 15 84 [l0, l1, l2, l3] (aI (-1) :: st) s := Ze_n (i := (.iconst (-1))) (len := 1) (by decide +kernel) rfl
theorem x15_84 : Ze d 15 84 [l0, l1, l2, l3] st s = Ze d 15 85 [l0, l1, l2, l3] (aI 1 :: st) s := Ze_n (i := (.iconst 1)) (len := 1) (by decide +kernel) rfl
theorem x15_85 (h : obC r = 0) (h6 : st.length ≤ 4) : Ze d 15 85 [l0, l1, l2, l3] (aI a4 :: aI a3 :: aI a2 :: aI a1 :: aR r :: st) s = zcI (Zc d 13 [aR r, aI a1, aI a2, aI a3, aI a4] s) d 15 88 [l0, l1, l2, l3] st := Ze_cvI (idx := 239) (len := 3) (as := [aI a1, aI a2, aI a3, aI a4]) (by decide +kernel) rfl (by decide +kernel) rfl h h6
theorem x15_88 : Ze d 15 88 [l0, l1, l2, l3] (aI z :: st) s = Ze d 15 89 [l0, aI z, l2, l3] st s := Ze_n (i := (.istore_n 1)) (len := 1) (by decide +kernel) rfl
theorem x15_89 : Ze d 15 89 [l0, l1, l2, l3] st s = Ze d 15 7 [l0, l1, l2, l3] st s := Ze_n (i := (.goto (-82))) (len := 3) (by decide +kernel) rfl
theorem x15_92 : Ze d 15 92 [l0, l1, aI z, l3] st s = Ze d 15 93 [l0, l1, aI z, l3] (aI z :: st) s := Ze_n (i := (.iload_n 2)) (len := 1) (by decide +kernel) rfl
theorem x15_93 : Ze d 15 93 [l0, l1, l2, l3] st s = Ze d 15 95 [l0, l1, l2, l3] (aI 123 :: st) s := Ze_n (i := (.bipush 123)) (len := 2) (by decide +kernel) rfl
theorem x15_95 : Ze d 15 95 [l0, l1, l2, l3] (aI b :: aI a :: st) s = if a = b then Ze d 15 98 [l0, l1, l2, l3] st s else Ze d 15 152 [l0, l1, l2, l3] st s := Ze_b (i := (.if_icmp .ne 57)) (len := 3) (by decide +kernel) rfl
theorem x15_98 : Ze d 15 98 [aR r, l1, l2, l3] st s = Ze d 15 99 [aR r, l1, l2, l3] (aR r :: st) s := Ze_n (i := (.aload_n 0)) (len := 1) (by decide +kernel) rfl
theorem x15_99 : Ze d 15 99 [l0, l1, l2, l3] (aR r :: st) s = Ze d 15 100 [l0, l1, l2, l3] (aR r :: aR r :: st) s := Ze_n (i := .dup) (len := 1) (by decide +kernel) rfl
theorem x15_99i : Ze d 15 99 [l0, l1, l2, l3] (aI a :: st) s = Ze d 15 100 [l0, l1, l2, l3] (aI a :: aI a :: st) s := Ze_n (i := .dup) (len := 1) (by decide +kernel) rfl
theorem x15_100 (h : obC r = 0) : Ze d 15 100 [l0, l1, l2, l3] (aR r :: st) s = Ze d 15 103 [l0, l1, l2, l3] (aI (s r 2) :: st) s := Ze_gf (len := 3) (idx := 198) (by decide +kernel) rfl h rfl
theorem x15_103 : Ze d 15 103 [l0, l1, l2, l3] st s = Ze d 15 104 [l0, l1, l2, l3] (aI 1 :: st) s := Ze_n (i := (.iconst 1)) (len := 1) (by decide +kernel) rfl
theorem x15_104 : Ze d 15 104 [l0, l1, l2, l3] (aI b :: aI a :: st) s = Ze d 15 105 [l0, l1, l2, l3] (aI (wrap (a + b)) :: st) s := Ze_n (i := .iadd) (len := 1) (by decide +kernel) rfl
theorem x15_105 (h : obC r = 0) : Ze d 15 105 [l0, l1, l2, l3] (aI z :: aR r :: st) s = Ze d 15 108 [l0, l1, l2, l3] st (mu s r 2 z) := Ze_n (i := .putfield 198) (len := 3) (by decide +kernel) (if_pos h)
theorem x15_108 : Ze d 15 108 [aR r, l1, l2, l3] st s = Ze d 15 109 [aR r, l1, l2, l3] (aR r :: st) s := Ze_n (i := (.aload_n 0)) (len := 1) (by decide +kernel) rfl
theorem x15_109 (h : obC r = 0) : Ze d 15 109 [l0, l1, l2, l3] (aR r :: st) s = Ze d 15 112 [l0, l1, l2, l3] (aR (fcn r 14) :: st) s := Ze_gf (len := 3) (idx := 41) (by decide +kernel) rfl h rfl
theorem x15_112 : Ze d 15 112 [aR r, l1, l2, l3] st s = Ze d 15 113 [aR r, l1, l2, l3] (aR r :: st) s := Ze_n (i := (.aload_n 0)) (len := 1) (by decide +kernel) rfl
theorem x15_113 (h : obC r = 0) : Ze d 15 113 [l0, l1, l2, l3] (aR r :: st) s = Ze d 15 116 [l0, l1, l2, l3] (aI (s r 18) :: st) s := Ze_gf (len := 3) (idx := 226) (by decide +kernel) rfl h rfl
theorem x15_116 : Ze d 15 116 [aR r, l1, l2, l3] st s = Ze d 15 117 [aR r, l1, l2, l3] (aR r :: st) s := Ze_n (i := (.aload_n 0)) (len := 1) (by decide +kernel) rfl
theorem x15_117 : Ze d 15 117 [l0, l1, l2, l3] st s = Ze d 15 118 [l0, l1, l2, l3] (aI 1 :: st) s := Ze_n (i := (.iconst 1)) (len := 1) (by decide +kernel) rfl
theorem x15_118 : Ze d 15 118 [l0, l1, l2, l3] st s = Ze d 15 119 [l0, l1, l2, l3] (aI 0 :: st) s := Ze_n (i := (.iconst 0)) (len := 1) (by decide +kernel) rfl
theorem x15_119 : Ze d 15 119 [l0, l1, l2, l3] st s = Ze d 15 120 [l0, l1, l2, l3] (aI (-1) :: st) s := Ze_n (i := (.iconst (-1))) (len := 1) (by decide +kernel) rfl
theorem x15_120 : Ze d 15 120 [l0, l1, l2, l3] st s = Ze d 15 121 [l0, l1, l2, l3] (aI 0 :: st) s := Ze_n (i := (.iconst 0)) (len := 1) (by decide +kernel) rfl
theorem x15_121 (h : obC r = 0) (h6 : st.length ≤ 4) : Ze d 15 121 [l0, l1, l2, l3] (aI a4 :: aI a3 :: aI a2 :: aI a1 :: aR r :: st) s = zcI (Zc d 13 [aR r, aI a1, aI a2, aI a3, aI a4] s) d 15 124 [l0, l1, l2, l3] st := Ze_cvI (idx := 239) (len := 3) (as := [aI a1, aI a2, aI a3, aI a4]) (by decide +kernel) rfl (by decide +kernel) rfl h h6
theorem x15_124 (h0 : 0 ≤ i) (h1 : i < aN1 r) : Ze d 15 124 [l0, l1, l2, l3] (aI z :: aI i :: aR r :: st) s = Ze d 15 125 [l0, l1, l2, l3] st (mu s r i.toNat z) := Ze_n (i := .iastore) (len := 1) (by decide +kernel) (if_pos ⟨h0, h1⟩)
theorem x15_125 : Ze d 15 125 [aR r, l1, l2, l3] st s = Ze d 15 126 [aR r, l1, l2, l3] (aR r :: st) s := Ze_n (i := (.aload_n 0)) (len := 1) (by decide +kernel) rfl
theorem x15_126 (h : obC r = 0) : Ze d 15 126 [l0, l1, l2, l3] (aR r :: st) s = Ze d 15 129 [l0, l1, l2, l3] (aR (fcn r 15) :: st) s := Ze_gf (len := 3) (idx := 44) (by decide +kernel) rfl h rfl
theorem x15_129 : Ze d 15 129 [aR r, l1, l2, l3] st s = Ze d 15 130 [aR r, l1, l2, l3] (aR r :: st) s := Ze_n (i := (.aload_n 0)) (len := 1) (by decide +kernel) rfl
theorem x15_130 (h : obC r = 0) : Ze d 15 130 [l0, l1, l2, l3] (aR r :: st) s = Ze d 15 133 [l0, l1, l2, l3] (aI (s r 18) :: st) s := Ze_gf (len := 3) (idx := 226) (by decide +kernel) rfl h rfl
theorem x15_133 : Ze d 15 133 [l0, l1, l2, l3] st s = Ze d 15 134 [l0, l1, l2, l3] (aI (-1) :: st) s := Ze_n (i := (.iconst (-1))) (len := 1) (by decide +kernel) rfl
theorem x15_134 (h0 : 0 ≤ i) (h1 : i < aN1 r) : Ze d 15 134 [l0, l1, l2, l3] (aI z :: aI i :: aR r :: st) s = Ze d 15 135 [l0, l1, l2, l3] st (mu s r i.toNat z) := Ze_n (i := .iastore) (len := 1) (by decide +kernel) (if_pos ⟨h0, h1⟩)
theorem x15_135 : Ze d 15 135 [aR r, l1, l2, l3] st s = Ze d 15 136 [aR r, l1, l2, l3] (aR r :: st) s := Ze_n (i := (.aload_n 0)) (len := 1) (by decide +kernel) rfl
theorem x15_136 : Ze d 15 136 [l0, l1, l2, l3] (aR r :: st) s = Ze d 15 137 [l0, l1, l2, l3] (aR r :: aR r :: st) s := Ze_n (i := .dup) (len := 1) (by decide +kernel) rfl
theorem x15_136i : Ze d 15 136 [l0, l1, l2, l3] (aI a :: st) s = Ze d 15 137 [l0, l1, l2, l3] (aI a :: aI a :: st) s := Ze_n (i := .dup) (len := 1) (by decide +kernel) rfl
theorem x15_137 (h : obC r = 0) : Ze d 15 137 [l0, l1, l2, l3] (aR r :: st) s = Ze d 15 140 [l0, l1, l2, l3] (aI (s r 18) :: st) s := Ze_gf (len := 3) (idx := 226) (by decide +kernel) rfl h rfl
theorem x15_140 : Ze d 15 140 [l0, l1, l2, l3] st s = Ze d 15 141 [l0, l1, l2, l3] (aI 1 :: st) s := Ze_n (i := (.iconst 1)) (len := 1) (by decide +kernel) rfl
theorem x15_141 : Ze d 15 141 [l0, l1, l2, l3] (aI b :: aI a :: st) s = Ze d 15 142 [l0, l1, l2, l3] (aI (wrap (a + b)) :: st) s := Ze_n (i := .iadd) (len := 1) (by decide +kernel) rfl
theorem x15_142 (h : obC r = 0) : Ze d 15 142 [l0, l1, l2, l3] (aI z :: aR r :: st) s = Ze d 15 145 [l0, l1, l2, l3] st (mu s r 18 z) := Ze_n (i := .putfield 226) (len := 3) (by decide +kernel) (if_pos h)
theorem x15_145 : Ze d 15 145 [aR r, l1, l2, l3] st s = Ze d 15 146 [aR r, l1, l2, l3] (aR r :: st) s := Ze_n (i := (.aload_n 0)) (len := 1) (by decide +kernel) rfl
theorem x15_146 (h : obC r = 0) (h6 : st.length ≤ 4) : Ze d 15 146 [l0, l1, l2, l3] (aR r :: st) s = zcV (Zc d 14 [aR r] s) d 15 149 [l0, l1, l2, l3] st := Ze_cvV (idx := 243) (len := 3) (as := []) (by decide +kernel) rfl (by decide +kernel) rfl h h6
theorem x15_149 : Ze d 15 149 [l0, l1, l2, l3] st s = Ze d 15 7 [l0, l1, l2, l3] st s := Ze_n (i := (.goto (-142))) (len := 3) (by decide +kernel) rfl
theorem x15_152 : Ze d 15 152 [aR r, l1, l2, l3] st s = Ze d 15 153 [aR r, l1, l2, l3] (aR r :: st) s := Ze_n (i := (.aload_n 0)) (len := 1) (by decide +kernel) rfl
theorem x15_153 : Ze d 15 153 [aR r, l1, l2, l3] st s = Ze d 15 154 [aR r, l1, l2, l3] (aR r :: st) s := Ze_n (i := (.aload_n 0)) (len := 1) (by decide +kernel) rfl
theorem x15_154 (h : obC r = 0) : Ze d 15 154 [l0, l1, l2, l3] (aR r :: st) s = Ze d 15 157 [l0, l1, l2, l3] (aI (s r 2) :: st) s := Ze_gf (len := 3) (idx := 198) (by decide +kernel) rfl h rfl
theorem x15_157 (h : obC r = 0) (h6 : st.length ≤ 4) : Ze d 15 157 [l0, l1, l2, l3] (aI a1 :: aR r :: st) s = zcV (Zc d 5 [aR r, aI a1] s) d 15 160 [l0, l1, l2, l3] st := Ze_cvV (idx := 208) (len := 3) (as := [aI a1]) (by decide +kernel) rfl (by decide +kernel) rfl h h6
theorem x15_160 : Ze d 15 160 [l0, l1, l2, l3] st s = Ze d 15 7 [l0, l1, l2, l3] st s := Ze_n (i := (.goto (-153))) (len := 3) (by decide +kernel) rfl
theorem x15_163 : Ze d 15 163 [aR r, l1, l2, l3] st s = Ze d 15 164 [aR r, l1, l2, l3] (aR r :: st) s := Ze_n (i := (.aload_n 0)) (len := 1) (by decide +kernel) rfl
theorem x15_164 (h : obC r = 0) (h6 : st.length ≤ 4) : Ze d 15 164 [l0, l1, l2, l3] (aR r :: st) s = zcI (Zc d 7 [aR r] s) d 15 167 [l0, l1, l2, l3] st := Ze_cvI (idx := 204) (len := 3) (as := []) (by decide +kernel) rfl (by decide +kernel) rfl h h6
theorem x15_167 : Ze d 15 167 [l0, l1, l2, l3] (aI z :: st) s = Ze d 15 168 [l0, l1, aI z, l3] st s := Ze_n (i := (.istore_n 2)) (len := 1) (by decide +kernel) rfl
theorem x15_168 : Ze d 15 168 [l0, l1, aI z, l3] st s = Ze d 15 169 [l0, l1, aI z, l3] (aI z :: st) s := Ze_n (i := (.iload_n 2)) (len := 1) (by decide +kernel) rfl
theorem x15_169 : Ze d 15 169 [l0, l1, l2, l3] st s = Ze d 15 171 [l0, l1, l2, l3] (aI 91 :: st) s := Ze_n (i := (.bipush 91)) (len := 2) (by decide +kernel) rfl
theorem x15_171 : Ze d 15 171 [l0, l1, l2, l3] (aI b :: aI a :: st) s = if a = b then Ze d 15 174 [l0, l1, l2, l3] st s else Ze d 15 241 [l0, l1, l2, l3] st s := Ze_b (i := (.if_icmp .ne 70)) (len := 3) (by decide +kernel) rfl
theorem x15_174 : Ze d 15 174 [aR r, l1, l2, l3] st s = Ze d 15 175 [aR r, l1, l2, l3] (aR r :: st) s := Ze_n (i := (.aload_n 0)) (len := 1) (by decide +kernel) rfl
theorem x15_175 : Ze d 15 175 [l0, l1, l2, l3] (aR r :: st) s = Ze d 15 176 [l0, l1, l2, l3] (aR r :: aR r :: st) s := Ze_n (i := .dup) (len := 1) (by decide +kernel) rfl
theorem x15_175i : Ze d 15 175 [l0, l1, l2, l3] (aI a :: st) s = Ze d 15 176 [l0, l1, l2, l3] (aI a :: aI a :: st) s := Ze_n (i := .dup) (len := 1) (by decide +kernel) rfl
theorem x15_176 (h : obC r = 0) : Ze d 15 176 [l0, l1, l2, l3] (aR r :: st) s = Ze d 15 179 [l0, l1, l2, l3] (aI (s r 2) :: st) s := Ze_gf (len := 3) (idx := 198) (by decide +kernel) rfl h rfl
theorem x15_179 : Ze d 15 179 [l0, l1, l2, l3] st s = Ze d 15 180 [l0, l1, l2, l3] (aI 1 :: st) s := Ze_n (i := (.iconst 1)) (len := 1) (by decide +kernel) rfl
theorem x15_180 : Ze d 15 180 [l0, l1, l2, l3] (aI b :: aI a :: st) s = Ze d 15 181 [l0, l1, l2, l3] (aI (wrap (a + b)) :: st) s := Ze_n (i := .iadd) (len := 1) (by decide +kernel) rfl
theorem x15_181 (h : obC r = 0) : Ze d 15 181 [l0, l1, l2, l3] (aI z :: aR r :: st) s = Ze d 15 184 [l0, l1, l2, l3] st (mu s r 2 z) := Ze_n (i := .putfield 198) (len := 3) (by decide +kernel) (if_pos h)
theorem x15_184 : Ze d 15 184 [aR r, l1, l2, l3] st s = Ze d 15 185 [aR r, l1, l2, l3] (aR r :: st) s := Ze_n (i := (.aload_n 0)) (len := 1) (by decide +kernel) rfl
theorem x15_185 : Ze d 15 185 [l0, l1, l2, l3] st s = Ze d 15 186 [l0, l1, l2, l3] (aI 1 :: st) s := Ze_n (i := (.iconst 1)) (len := 1) (by decide +kernel) rfl
theorem x15_186 : Ze d 15 186 [l0, l1, l2, l3] st s = Ze d 15 187 [l0, l1, l2, l3] (aI 4 :: st) s := Ze_n (i := (.iconst 4)) (len := 1) (by decide +kernel) rfl
theorem x15_187 (h : obC r = 0) (h6 : st.length ≤ 4) : Ze d 15 187 [l0, l1, l2, l3] (aI a2 :: aI a1 :: aR r :: st) s = zcI (Zc d 12 [aR r, aI a1, aI a2] s) d 15 190 [l0, l1, l2, l3] st := Ze_cvI (idx := 235) (len := 3) (as := [aI a1, aI a2]) (by decide +kernel) rfl (by decide +kernel) rfl h h6
theorem x15_190 : Ze d 15 190 [l0, l1, l2, l3] (aI z :: st) s = Ze d 15 191 [l0, l1, l2, aI z] st s := Ze_n (i := (.istore_n 3)) (len := 1) (by decide +kernel) rfl
theorem x15_191 : Ze d 15 191 [aR r, l1, l2, l3] st s = Ze d 15 192 [aR r, l1, l2, l3] (aR r :: st) s := Ze_n (i := (.aload_n 0)) (len := 1) (by decide +kernel) rfl
theorem x15_192 : Ze d 15 192 [l0, l1, l2, l3] st s = Ze d 15 194 [l0, l1, l2, l3] (aI 93 :: st) s := Ze_n (i := (.bipush 93)) (len := 2) (by decide +kernel) rfl
theorem x15_194 (h : obC r = 0) (h6 : st.length ≤ 4) : Ze d 15 194 [l0, l1, l2, l3] (aI a1 :: aR r :: st) s = zcV (Zc d 8 [aR r, aI a1] s) d 15 197 [l0, l1, l2, l3] st := Ze_cvV (idx := 229) (len := 3) (as := [aI a1]) (by decide +kernel) rfl (by decide +kernel) rfl h h6
theorem x15_197 : Ze d 15 197 [aR r, l1, l2, l3] st s = Ze d 15 198 [aR r, l1, l2, l3] (aR r :: st) s := Ze_n (i := (.aload_n 0)) (len := 1) (by decide +kernel) rfl
theorem x15_198 (h : obC r = 0) : Ze d 15 198 [l0, l1, l2, l3] (aR r :: st) s = Ze d 15 201 [l0, l1, l2, l3] (aI (s r 5) :: st) s := Ze_gf (len := 3) (idx := 194) (by decide +kernel) rfl h rfl
theorem x15_201 : Ze d 15 201 [l0, l1, l2, l3] (aI a :: st) s = if a = 0 then Ze d 15 204 [l0, l1, l2, l3] st s else Ze d 15 7 [l0, l1, l2, l3] st s := Ze_b (i := (.ifCond .ne (-194))) (len := 3) (by decide +kernel) rfl
theorem x15_204 : Ze d 15 204 [aR r, l1, l2, l3] st s = Ze d 15 205 [aR r, l1, l2, l3] (aR r :: st) s := Ze_n (i := (.aload_n 0)) (len := 1) (by decide +kernel) rfl
theorem x15_205 : Ze d 15 205 [l0, l1, l2, l3] st s = Ze d 15 206 [l0, l1, l2, l3] (aI 2 :: st) s := Ze_n (i := (.iconst 2)) (len := 1) (by decide +kernel) rfl
theorem x15_206 : Ze d 15 206 [l0, l1, l2, aI z] st s = Ze d 15 207 [l0, l1, l2, aI z] (aI z :: st) s := Ze_n (i := (.iload_n 3)) (len := 1) (by decide +kernel) rfl
theorem x15_207 : Ze d 15 207 [l0, aI z, l2, l3] st s = Ze d 15 208 [l0, aI z, l2, l3] (aI z :: st) s := Ze_n (i := (.iload_n 1)) (len := 1) (by decide +kernel) rfl
theorem x15_208 : Ze d 15 208 [l0, l1, l2, aI z] st s = Ze d 15 209 [l0, l1, l2, aI z] (aI z :: st) s := Ze_n (i := (.iload_n 3)) (len := 1) (by decide +kernel) rfl
theorem x15_209 : Ze d 15 209 [aR r, l1, l2, l3] st s = Ze d 15 210 [aR r, l1, l2, l3] (aR r :: st) s := Ze_n (i := (.aload_n 0)) (len := 1) (by decide +kernel) rfl
theorem x15_210 (h : obC r = 0) : Ze d 15 210 [l0, l1, l2, l3] (aR r :: st) s = Ze d 15 213 [l0, l1, l2, l3] (aR (fcn r 9) :: st) s := Ze_gf (len := 3) (idx := 26) (by decide +kernel) rfl h rfl
theorem x15_213 : Ze d 15 213 [l0, aI z, l2, l3] st s = Ze d 15 214 [l0, aI z, l2, l3] (aI z :: st) s := Ze_n (i := (.iload_n 1)) (len := 1) (by decide +kernel) rfl
theorem x15_214 (h0 : 0 ≤ i) (h1 : i < aN1 r) : Ze d 15 214 [l0, l1, l2, l3] (aI i :: aR r :: st) s = Ze d 15 215 [l0, l1, l2, l3] (aI (s r i.toNat) :: st) s := Ze_n (i := .iaload) (len := 1) (by decide +kernel) (if_pos ⟨h0, h1⟩)
theorem x15_215 : Ze d 15 215 [l0, l1, l2, l3] (aI b :: aI a :: st) s = Ze d 15 216 [l0, l1, l2, l3] (aI (wrap (a * b)) :: st) s := Ze_n (i := .imul) (len := 1) (by decide +kernel) rfl
theorem x15_216 : Ze d 15 216 [l0, l1, l2, l3] st s = Ze d 15 218 [l0, l1, l2, l3] (aI 25 :: st) s := Ze_n (i := (.bipush 25)) (len := 2) (by decide +kernel) rfl
theorem x15_218 : Ze d 15 218 [l0, l1, l2, l3] (aI b :: aI a :: st) s = if b < a then Ze d 15 221 [l0, l1, l2, l3] st s else Ze d 15 226 [l0, l1, l2, l3] st s := Ze_b (i := (.if_icmp .le 8)) (len := 3) (by decide +kernel) rfl
theorem x15_221 : Ze d 15 221 [l0, l1, l2, l3] st s = Ze d 15 223 [l0, l1, l2, l3] (aI 25 :: st) s := Ze_n (i := (.bipush 25)) (len := 2) (by decide +kernel) rfl
theorem x15_223 : Ze d 15 223 [l0, l1, l2, l3] st s = Ze d 15 234 [l0, l1, l2, l3] st s := Ze_n (i := (.goto 11)) (len := 3) (by decide +kernel) rfl
theorem x15_226 : Ze d 15 226 [l0, l1, l2, aI z] st s = Ze d 15 227 [l0, l1, l2, aI z] (aI z :: st) s := Ze_n (i := (.iload_n 3)) (len := 1) (by decide +kernel) rfl
theorem x15_227 : Ze d 15 227 [aR r, l1, l2, l3] st s = Ze d 15 228 [aR r, l1, l2, l3] (aR r :: st) s := Ze_n (i := (.aload_n 0)) (len := 1) (by decide +kernel) rfl
theorem x15_228 (h : obC r = 0) : Ze d 15 228 [l0, l1, l2, l3] (aR r :: st) s = Ze d 15 231 [l0, l1, l2, l3] (aR (fcn r 9) :: st) s := Ze_gf (len := 3) (idx := 26) (by decide +kernel) rfl h rfl
theorem x15_231 : Ze d 15 231 [l0, aI z, l2, l3] st s = Ze d 15 232 [l0, aI z, l2, l3] (aI z :: st) s := Ze_n (i := (.iload_n 1)) (len := 1) (by decide +kernel) rfl
theorem x15_232 (h0 : 0 ≤ i) (h1 : i < aN1 r) : Ze d 15 232 [l0, l1, l2, l3] (aI i :: aR r :: st) s = Ze d 15 233 [l0, l1, l2, l3] (aI (s r i.toNat) :: st) s := Ze_n (i := .iaload) (len := 1) (by decide +kernel) (if_pos ⟨h0, h1⟩)
theorem x15_233 : Ze d 15 233 [l0, l1, l2, l3] (aI b :: aI a :: st) s = Ze d 15 234 [l0, l1, l2, l3] (aI (wrap (a * b)) :: st) s := Ze_n (i := .imul) (len := 1) (by decide +kernel) rfl
theorem x15_234 (h : obC r = 0) (h6 : st.length ≤ 4) : Ze d 15 234 [l0, l1, l2, l3] (aI a4 :: aI a3 :: aI a2 :: aI a1 :: aR r :: st) s = zcI (Zc d 13 [aR r, aI a1, aI a2, aI a3, aI a4] s) d 15 237 [l0, l1, l2, l3] st := Ze_cvI (idx := 239) (len := 3) (as := [aI a1, aI a2, aI a3, aI a4]) (by decide +kernel) rfl (by decide +kernel) rfl h h6
theorem x15_237 : Ze d 15 237 [l0, l1, l2, l3] (aI z :: st) s = Ze d 15 238 [l0, aI z, l2, l3] st s := Ze_n (i := (.istore_n 1)) (len := 1) (by decide +kernel) rfl
theorem x15_238 : Ze d 15 238 [l0, l1, l2, l3] st s = Ze d 15 7 [l0, l1, l2, l3] st s := Ze_n (i := (.goto (-231))) (len := 3) (by decide +kernel) rfl
theorem x15_241 : Ze d 15 241 [aR r, l1, l2, l3] st s = Ze d 15 242 [aR r, l1, l2, l3] (aR r :: st) s := Ze_n (i := (.aload_n 0)) (len := 1) (by decide +kernel) rfl
theorem x15_242 (h : obC r = 0) : Ze d 15 242 [l0, l1, l2, l3] (aR r :: st) s = Ze d 15 245 [l0, l1, l2, l3] (aI (s r 18) :: st) s := Ze_gf (len := 3) (idx := 226) (by decide +kernel) rfl h rfl
theorem x15_245 : Ze d 15 245 [l0, l1, l2, l3] (aI a :: st) s = if a = 0 then Ze d 15 248 [l0, l1, l2, l3] st s else Ze d 15 250 [l0, l1, l2, l3] st s := Ze_b (i := (.ifCond .ne 5)) (len := 3) (by decide +kernel) rfl
theorem x15_248 : Ze d 15 248 [l0, aI z, l2, l3] st s = Ze d 15 249 [l0, aI z, l2, l3] (aI z :: st) s := Ze_n (i := (.iload_n 1)) (len := 1) (by decide +kernel) rfl
theorem x15_249 : Ze d 15 249 [l0, l1, l2, l3] [aI z] s = rI z s := Ze_i1 (by decide +kernel) rfl
theorem x15_250 : Ze d 15 250 [aR r, l1, l2, l3] st s = Ze d 15 251 [aR r, l1, l2, l3] (aR r :: st) s := Ze_n (i := (.aload_n 0)) (len := 1) (by decide +kernel) rfl
theorem x15_251 (h : obC r = 0) : Ze d 15 251 [l0, l1, l2, l3] (aR r :: st) s = Ze d 15 254 [l0, l1, l2, l3] (aR (fcn r 11) :: st) s := Ze_gf (len := 3) (idx := 32) (by decide +kernel) rfl h rfl
theorem x15_254 : Ze d 15 254 [aR r, l1, l2, l3] st s = Ze d 15 255 [aR r, l1, l2, l3] (aR r :: st) s := Ze_n (i := (.aload_n 0)) (len := 1) (by decide +kernel) rfl
theorem x15_255 (h : obC r = 0) : Ze d 15 255 [l0, l1, l2, l3] (aR r :: st) s = Ze d 15 258 [l0, l1, l2, l3] (aR (fcn r 15) :: st) s := Ze_gf (len := 3) (idx := 44) (by decide +kernel) rfl h rfl
theorem x15_258 : Ze d 15 258 [aR r, l1, l2, l3] st s = Ze d 15 259 [aR r, l1, l2, l3] (aR r :: st) s := Ze_n (i := (.aload_n 0)) (len := 1) (by decide +kernel) rfl
theorem x15_259 (h : obC r = 0) : Ze d 15 259 [l0, l1, l2, l3] (aR r :: st) s = Ze d 15 262 [l0, l1, l2, l3] (aI (s r 18) :: st) s := Ze_gf (len := 3) (idx := 226) (by decide +kernel) rfl h rfl
theorem x15_262 : Ze d 15 262 [l0, l1, l2, l3] st s = Ze d 15 263 [l0, l1, l2, l3] (aI 1 :: st) s := Ze_n (i := (.iconst 1)) (len := 1) (by decide +kernel) rfl
theorem x15_263 : Ze d 15 263 [l0, l1, l2, l3] (aI b :: aI a :: st) s = Ze d 15 264 [l0, l1, l2, l3] (aI (wrap (a - b)) :: st) s := Ze_n (i := .isub) (len := 1) (by decide +kernel) rfl
theorem x15_264 (h0 : 0 ≤ i) (h1 : i < aN1 r) : Ze d 15 264 [l0, l1, l2, l3] (aI i :: aR r :: st) s = Ze d 15 265 [l0, l1, l2, l3] (aI (s r i.toNat) :: st) s := Ze_n (i := .iaload) (len := 1) (by decide +kernel) (if_pos ⟨h0, h1⟩)
theorem x15_265 : Ze d 15 265 [l0, aI z, l2, l3] st s = Ze d 15 266 [l0, aI z, l2, l3] (aI z :: st) s := Ze_n (i := (.iload_n 1)) (len := 1) (by decide +kernel) rfl
theorem x15_266 (h0 : 0 ≤ i) (h1 : i < aN1 r) : Ze d 15 266 [l0, l1, l2, l3] (aI z :: aI i :: aR r :: st) s = Ze d 15 267 [l0, l1, l2, l3] st (mu s r i.toNat z) := Ze_n (i := .iastore) (len := 1) (by decide +kernel) (if_pos ⟨h0, h1⟩)
theorem x15_267 : Ze d 15 267 [aR r, l1, l2, l3] st s = Ze d 15 268 [aR r, l1, l2, l3] (aR r :: st) s := Ze_n (i := (.aload_n 0)) (len := 1) (by decide +kernel) rfl
theorem x15_268 (h : obC r = 0) : Ze d 15 268 [l0, l1, l2, l3] (aR r :: st) s = Ze d 15 271 [l0, l1, l2, l3] (aR (fcn r 9) :: st) s := Ze_gf (len := 3) (idx := 26) (by decide +kernel) rfl h rfl
theorem x15_271 : Ze d 15 271 [aR r, l1, l2, l3] st s = Ze d 15 272 [aR r, l1, l2, l3] (aR r :: st) s := Ze_n (i := (.aload_n 0)) (len := 1) (by decide +kernel) rfl
theorem x15_272 (h : obC r = 0) : Ze d 15 272 [l0, l1, l2, l3] (aR r :: st) s = Ze d 15 275 [l0, l1, l2, l3] (aR (fcn r 14) :: st) s := Ze_gf (len := 3) (idx := 41) (by decide +kernel) rfl h rfl
theorem x15_275 : Ze d 15 275 [aR r, l1, l2, l3] st s = Ze d 15 276 [aR r, l1, l2, l3] (aR r :: st) s := Ze_n (i := (.aload_n 0)) (len := 1) (by decide +kernel) rfl
theorem x15_276 (h : obC r = 0) : Ze d 15 276 [l0, l1, l2, l3] (aR r :: st) s = Ze d 15 279 [l0, l1, l2, l3] (aI (s r 18) :: st) s := Ze_gf (len := 3) (idx := 226) (by decide +kernel) rfl h rfl
theorem x15_279 : Ze d 15 279 [l0, l1, l2, l3] st s = Ze d 15 280 [l0, l1, l2, l3] (aI 1 :: st) s := Ze_n (i := (.iconst 1)) (len := 1) (by decide +kernel) rfl
theorem x15_280 : Ze d 15 280 [l0, l1, l2, l3] (aI b :: aI a :: st) s = Ze d 15 281 [l0, l1, l2, l3] (aI (wrap (a - b)) :: st) s := Ze_n (i := .isub) (len := 1) (by decide +kernel) rfl
theorem x15_281 (h0 : 0 ≤ i) (h1 : i < aN1 r) : Ze d 15 281 [l0, l1, l2, l3] (aI i :: aR r :: st) s = Ze d 15 282 [l0, l1, l2, l3] (aI (s r i.toNat) :: st) s := Ze_n (i := .iaload) (len := 1) (by decide +kernel) (if_pos ⟨h0, h1⟩)
theorem x15_282 : Ze d 15 282 [l0, l1, l2, l3] (aI a :: aR r :: st) s = Ze d 15 283 [l0, l1, l2, l3] (aI a :: aR r :: aI a :: aR r :: st) s := Ze_n (i := .dup2) (len := 1) (by decide +kernel) rfl
theorem x15_283 (h0 : 0 ≤ i) (h1 : i < aN1 r) : Ze d 15 283 [l0, l1, l2, l3] (aI i :: aR r :: st) s = Ze d 15 284 [l0, l1, l2, l3] (aI (s r i.toNat) :: st) s := Ze_n (i := .iaload) (len := 1) (by decide +kernel) (if_pos ⟨h0, h1⟩)
theorem x15_284 : Ze d 15 284 [aR r, l1, l2, l3] st s = Ze d 15 285 [aR r, l1, l2, l3] (aR r :: st) s := Ze_n (i := (.aload_n 0)) (len := 1) (by decide +kernel) rfl
theorem x15_285 (h : obC r = 0) : Ze d 15 285 [l0, l1, l2, l3] (aR r :: st) s = Ze d 15 288 [l0, l1, l2, l3] (aR (fcn r 9) :: st) s := Ze_gf (len := 3) (idx := 26) (by decide +kernel) rfl h rfl
theorem x15_288 : Ze d 15 288 [l0, aI z, l2, l3] st s = Ze d 15 289 [l0, aI z, l2, l3] (aI z :: st) s := Ze_n (i := (.iload_n 1)) (len := 1) (by decide +kernel) rfl
theorem x15_289 (h0 : 0 ≤ i) (h1 : i < aN1 r) : Ze d 15 289 [l0, l1, l2, l3] (aI i :: aR r :: st) s = Ze d 15 290 [l0, l1, l2, l3] (aI (s r i.toNat) :: st) s := Ze_n (i := .iaload) (len := 1) (by decide +kernel) (if_pos ⟨h0, h1⟩)
theorem x15_290 : Ze d 15 290 [l0, l1, l2, l3] (aI b :: aI a :: st) s = Ze d 15 291 [l0, l1, l2, l3] (aI (wrap (a + b)) :: st) s := Ze_n (i := .iadd) (len := 1) (by decide +kernel) rfl
theorem x15_291 (h0 : 0 ≤ i) (h1 : i < aN1 r) : Ze d 15 291 [l0, l1, l2, l3] (aI z :: aI i :: aR r :: st) s = Ze d 15 292 [l0, l1, l2, l3] st (mu s r i.toNat z) := Ze_n (i := .iastore) (len := 1) (by decide +kernel) (if_pos ⟨h0, h1⟩)
theorem x15_292 : Ze d 15 292 [aR r, l1, l2, l3] st s = Ze d 15 293 [aR r, l1, l2, l3] (aR r :: st) s := Ze_n (i := (.aload_n 0)) (len := 1) (by decide +kernel) rfl
theorem x15_293 (h : obC r = 0) : Ze d 15 293 [l0, l1, l2, l3] (aR r :: st) s = Ze d 15 296 [l0, l1, l2, l3] (aR (fcn r 9) :: st) s := Ze_gf (len := 3) (idx := 26) (by decide +kernel) rfl h rfl
theorem x15_296 : Ze d 15 296 [aR r, l1, l2, l3] st s = Ze d 15 297 [aR r, l1, l2, l3] (aR r :: st) s := Ze_n (i := (.aload_n 0)) (len := 1) (by decide +kernel) rfl
theorem x15_297 (h : obC r = 0) : Ze d 15 297 [l0, l1, l2, l3] (aR r :: st) s = Ze d 15 300 [l0, l1, l2, l3] (aR (fcn r 14) :: st) s := Ze_gf (len := 3) (idx := 41) (by decide +kernel) rfl h rfl
theorem x15_300 : Ze d 15 300 [aR r, l1, l2, l3] st s = Ze d 15 301 [aR r, l1, l2, l3] (aR r :: st) s := Ze_n (i := (.aload_n 0)) (len := 1) (by decide +kernel) rfl
theorem x15_301 (h : obC r = 0) : Ze d 15 301 [l0, l1, l2, l3] (aR r :: st) s = Ze d 15 304 [l0, l1, l2, l3] (aI (s r 18) :: st) s := Ze_gf (len := 3) (idx := 226) (by decide +kernel) rfl h rfl
theorem x15_304 : Ze d 15 304 [l0, l1, l2, l3] st s = Ze d 15 305 [l0, l1, l2, l3] (aI 1 :: st) s := Ze_n (i := (.iconst 1)) (len := 1) (by decide +kernel) rfl
theorem x15_305 : Ze d 15 305 [l0, l1, l2, l3] (aI b :: aI a :: st) s = Ze d 15 306 [l0, l1, l2, l3] (aI (wrap (a - b)) :: st) s := Ze_n (i := .isub) (len := 1) (by decide +kernel) rfl
theorem x15_306 (h0 : 0 ≤ i) (h1 : i < aN1 r) : Ze d 15 306 [l0, l1, l2, l3] (aI i :: aR r :: st) s = Ze d 15 307 [l0, l1, l2, l3] (aI (s r i.toNat) :: st) s := Ze_n (i := .iaload) (len := 1) (by decide +kernel) (if_pos ⟨h0, h1⟩)
theorem x15_307 (h0 : 0 ≤ i) (h1 : i < aN1 r) : Ze d 15 307 [l0, l1, l2, l3] (aI i :: aR r :: st) s = Ze d 15 308 [l0, l1, l2, l3] (aI (s r i.toNat) :: st) s := Ze_n (i := .iaload) (len := 1) (by decide +kernel) (if_pos ⟨h0, h1⟩)
theorem x15_308 : Ze d 15 308 [l0, l1, l2, l3] st s = Ze d 15 310 [l0, l1, l2, l3] (aI 25 :: st) s := Ze_n (i := (.bipush 25)) (len := 2) (by decide +kernel) rfl
theorem x15_310 : Ze d 15 310 [l0, l1, l2, l3] (aI b :: aI a :: st) s = if b < a then Ze d 15 313 [l0, l1, l2, l3] st s else Ze d 15 331 [l0, l1, l2, l3] st s := Ze_b (i := (.if_icmp .le 21)) (len := 3) (by decide +kernel) rfl
theorem x15_313 : Ze d 15 313 [aR r, l1, l2, l3] st s = Ze d 15 314 [aR r, l1, l2, l3] (aR r :: st) s := Ze_n (i := (.aload_n 0)) (len := 1) (by decide +kernel) rfl
theorem x15_314 (h : obC r = 0) : Ze d 15 314 [l0, l1, l2, l3] (aR r :: st) s = Ze d 15 317 [l0, l1, l2, l3] (aR (fcn r 9) :: st) s := Ze_gf (len := 3) (idx := 26) (by decide +kernel) rfl h rfl
theorem x15_317 : Ze d 15 317 [aR r, l1, l2, l3] st s = Ze d 15 318 [aR r, l1, l2, l3] (aR r :: st) s := Ze_n (i := (.aload_n 0)) (len := 1) (by decide +kernel) rfl
theorem x15_318 (h : obC r = 0) : Ze d 15 318 [l0, l1, l2, l3] (aR r :: st) s = Ze d 15 321 [l0, l1, l2, l3] (aR (fcn r 14) :: st) s := Ze_gf (len := 3) (idx := 41) (by decide +kernel) rfl h rfl
theorem x15_321 : Ze d 15 321 [aR r, l1, l2, l3] st s = Ze d 15 322 [aR r, l1, l2, l3] (aR r :: st) s := Ze_n (i := (.aload_n 0)) (len := 1) (by decide +kernel) rfl
theorem x15_322 (h : obC r = 0) : Ze d 15 322 [l0, l1, l2, l3] (aR r :: st) s = Ze d 15 325 [l0, l1, l2, l3] (aI (s r 18) :: st) s := Ze_gf (len := 3) (idx := 226) (by decide +kernel) rfl h rfl
theorem x15_325 : Ze d 15 325 [l0, l1, l2, l3] st s = Ze d 15 326 [l0, l1, l2, l3] (aI 1 :: st) s := Ze_n (i := (.iconst 1)) (len := 1) (by decide +kernel) rfl
theorem x15_326 : Ze d 15 326 [l0, l1, l2, l3] (aI b :: aI a :: st) s = Ze d 15 327 [l0, l1, l2, l3] (aI (wrap (a - b)) :: st) s := Ze_n (i := .isub) (len := 1) (by decide +kernel) rfl
theorem x15_327 (h0 : 0 ≤ i) (h1 : i < aN1 r) : Ze d 15 327 [l0, l1, l2, l3] (aI i :: aR r :: st) s = Ze d 15 328 [l0, l1, l2, l3] (aI (s r i.toNat) :: st) s := Ze_n (i := .iaload) (len := 1) (by decide +kernel) (if_pos ⟨h0, h1⟩)
theorem x15_328 : Ze d 15 328 [l0, l1, l2, l3] st s = Ze d 15 330 [l0, l1, l2, l3] (aI 25 :: st) s := Ze_n (i := (.bipush 25)) (len := 2) (by decide +kernel) rfl
theorem x15_330 (h0 : 0 ≤ i) (h1 : i < aN1 r) : Ze d 15 330 [l0, l1, l2, l3] (aI z :: aI i :: aR r :: st) s = Ze d 15 331 [l0, l1, l2, l3] st (mu s r i.toNat z) := Ze_n (i := .iastore) (len := 1) (by decide +kernel) (if_pos ⟨h0, h1⟩)
theorem x15_331 : Ze d 15 331 [l0, l1, l2, l3] st s = Ze d 15 332 [l0, l1, l2, l3] (aI (-1) :: st) s := Ze_n (i := (.iconst (-1))) (len := 1) (by decide +kernel) rfl
theorem x15_332 : Ze d 15 332 [l0, l1, l2, l3] (aI z :: st) s = Ze d 15 333 [l0, aI z, l2, l3] st s := Ze_n (i := (.istore_n 1)) (len := 1) (by decide +kernel) rfl
theorem x15_333 : Ze d 15 333 [l0, l1, aI z, l3] st s = Ze d 15 334 [l0, l1, aI z, l3] (aI z :: st) s := Ze_n (i := (.iload_n 2)) (len := 1) (by decide +kernel) rfl
theorem x15_334 : Ze d 15 334 [l0, l1, l2, l3] st s = Ze d 15 336 [l0, l1, l2, l3] (aI 44 :: st) s := Ze_n (i := (.bipush 44)) (len := 2) (by decide +kernel) rfl
theorem x15_336 : Ze d 15 336 [l0, l1, l2, l3] (aI b :: aI a :: st) s = if a = b then Ze d 15 339 [l0, l1, l2, l3] st s else Ze d 15 356 [l0, l1, l2, l3] st s := Ze_b (i := (.if_icmp .ne 20)) (len := 3) (by decide +kernel) rfl
theorem x15_339 : Ze d 15 339 [aR r, l1, l2, l3] st s = Ze d 15 340 [aR r, l1, l2, l3] (aR r :: st) s := Ze_n (i := (.aload_n 0)) (len := 1) (by decide +kernel) rfl
theorem x15_340 : Ze d 15 340 [l0, l1, l2, l3] (aR r :: st) s = Ze d 15 341 [l0, l1, l2, l3] (aR r :: aR r :: st) s := Ze_n (i := .dup) (len := 1) (by decide +kernel) rfl
theorem x15_340i : Ze d 15 340 [l0, l1, l2, l3] (aI a :: st) s = Ze d 15 341 [l0, l1, l2, l3] (aI a :: aI a :: st) s := Ze_n (i := .dup) (len := 1) (by decide +kernel) rfl
theorem x15_341 (h : obC r = 0) : Ze d 15 341 [l0, l1, l2, l3] (aR r :: st) s = Ze d 15 344 [l0, l1, l2, l3] (aI (s r 2) :: st) s := Ze_gf (len := 3) (idx := 198) (by decide +kernel) rfl h rfl
theorem x15_344 : Ze d 15 344 [l0, l1, l2, l3] st s = Ze d 15 345 [l0, l1, l2, l3] (aI 1 :: st) s := Ze_n (i := (.iconst 1)) (len := 1) (by decide +kernel) rfl
theorem x15_345 : Ze d 15 345 [l0, l1, l2, l3] (aI b :: aI a :: st) s = Ze d 15 346 [l0, l1, l2, l3] (aI (wrap (a + b)) :: st) s := Ze_n (i := .iadd) (len := 1) (by decide +kernel) rfl
theorem x15_346 (h : obC r = 0) : Ze d 15 346 [l0, l1, l2, l3] (aI z :: aR r :: st) s = Ze d 15 349 [l0, l1, l2, l3] st (mu s r 2 z) := Ze_n (i := .putfield 198) (len := 3) (by decide +kernel) (if_pos h)
theorem x15_349 : Ze d 15 349 [aR r, l1, l2, l3] st s = Ze d 15 350 [aR r, l1, l2, l3] (aR r :: st) s := Ze_n (i := (.aload_n 0)) (len := 1) (by decide +kernel) rfl
theorem x15_350 (h : obC r = 0) (h6 : st.length ≤ 4) : Ze d 15 350 [l0, l1, l2, l3] (aR r :: st) s = zcV (Zc d 14 [aR r] s) d 15 353 [l0, l1, l2, l3] st := Ze_cvV (idx := 243) (len := 3) (as := []) (by decide +kernel) rfl (by decide +kernel) rfl h h6
theorem x15_353 : Ze d 15 353 [l0, l1, l2, l3] st s = Ze d 15 403 [l0, l1, l2, l3] st s := Ze_n (i := (.goto 50)) (len := 3) (by decide +kernel) rfl
theorem x15_356 : Ze d 15 356 [l0, l1, aI z, l3] st s = Ze d 15 357 [l0, l1, aI z, l3] (aI z :: st) s := Ze_n (i := (.iload_n 2)) (len := 1) (by decide +kernel) rfl
theorem x15_357 : Ze d 15 357 [l0, l1, l2, l3] st s = Ze d 15 359 [l0, l1, l2, l3] (aI 125 :: st) s := Ze_n (i := (.bipush 125)) (len := 2) (by decide +kernel) rfl
theorem x15_359 : Ze d 15 359 [l0, l1, l2, l3] (aI b :: aI a :: st) s = if a = b then Ze d 15 362 [l0, l1, l2, l3] st s else Ze d 15 395 [l0, l1, l2, l3] st s := Ze_b (i := (.if_icmp .ne 36)) (len := 3) (by decide +kernel) rfl
theorem x15_362 : Ze d 15 362 [aR r, l1, l2, l3] st s = Ze d 15 363 [aR r, l1, l2, l3] (aR r :: st) s := Ze_n (i := (.aload_n 0)) (len := 1) (by decide +kernel) rfl
theorem x15_363 : Ze d 15 363 [l0, l1, l2, l3] (aR r :: st) s = Ze d 15 364 [l0, l1, l2, l3] (aR r :: aR r :: st) s := Ze_n (i := .dup) (len := 1) (by decide +kernel) rfl
theorem x15_363i : Ze d 15 363 [l0, l1, l2, l3] (aI a :: st) s = Ze d 15 364 [l0, l1, l2, l3] (aI a :: aI a :: st) s := Ze_n (i := .dup) (len := 1) (by decide +kernel) rfl
theorem x15_364 (h : obC r = 0) : Ze d 15 364 [l0, l1, l2, l3] (aR r :: st) s = Ze d 15 367 [l0, l1, l2, l3] (aI (s r 2) :: st) s := Ze_gf (len := 3) (idx := 198) (by decide +kernel) rfl h rfl
theorem x15_367 : Ze d 15 367 [l0, l1, l2, l3] st s = Ze d 15 368 [l0, l1, l2, l3] (aI 1 :: st) s := Ze_n (i := (.iconst 1)) (len := 1) (by decide +kernel) rfl
theorem x15_368 : Ze d 15 368 [l0, l1, l2, l3] (aI b :: aI a :: st) s = Ze d 15 369 [l0, l1, l2, l3] (aI (wrap (a + b)) :: st) s := Ze_n (i := .iadd) (len := 1) (by decide +kernel) rfl
theorem x15_369 (h : obC r = 0) : Ze d 15 369 [l0, l1, l2, l3] (aI z :: aR r :: st) s = Ze d 15 372 [l0, l1, l2, l3] st (mu s r 2 z) := Ze_n (i := .putfield 198) (len := 3) (by decide +kernel) (if_pos h)
theorem x15_372 : Ze d 15 372 [aR r, l1, l2, l3] st s = Ze d 15 373 [aR r, l1, l2, l3] (aR r :: st) s := Ze_n (i := (.aload_n 0)) (len := 1) (by decide +kernel) rfl
theorem x15_373 : Ze d 15 373 [l0, l1, l2, l3] (aR r :: st) s = Ze d 15 374 [l0, l1, l2, l3] (aR r :: aR r :: st) s := Ze_n (i := .dup) (len := 1) (by decide +kernel) rfl
theorem x15_373i : Ze d 15 373 [l0, l1, l2, l3] (aI a :: st) s = Ze d 15 374 [l0, l1, l2, l3] (aI a :: aI a :: st) s := Ze_n (i := .dup) (len := 1) (by decide +kernel) rfl
theorem x15_374 (h : obC r = 0) : Ze d 15 374 [l0, l1, l2, l3] (aR r :: st) s = Ze d 15 377 [l0, l1, l2, l3] (aI (s r 18) :: st) s := Ze_gf (len := 3) (idx := 226) (by decide +kernel) rfl h rfl
theorem x15_377 : Ze d 15 377 [l0, l1, l2, l3] st s = Ze d 15 378 [l0, l1, l2, l3] (aI 1 :: st) s := Ze_n (i := (.iconst 1)) (len := 1) (by decide +kernel) rfl
theorem x15_378 : Ze d 15 378 [l0, l1, l2, l3] (aI b :: aI a :: st) s = Ze d 15 379 [l0, l1, l2, l3] (aI (wrap (a - b)) :: st) s := Ze_n (i := .isub) (len := 1) (by decide +kernel) rfl
theorem x15_379 (h : obC r = 0) : Ze d 15 379 [l0, l1, l2, l3] (aI z :: aR r :: st) s = Ze d 15 382 [l0, l1, l2, l3] st (mu s r 18 z) := Ze_n (i := .putfield 226) (len := 3) (by decide +kernel) (if_pos h)
theorem x15_382 : Ze d 15 382 [aR r, l1, l2, l3] st s = Ze d 15 383 [aR r, l1, l2, l3] (aR r :: st) s := Ze_n (i := (.aload_n 0)) (len := 1) (by decide +kernel) rfl
theorem x15_383 (h : obC r = 0) : Ze d 15 383 [l0, l1, l2, l3] (aR r :: st) s = Ze d 15 386 [l0, l1, l2, l3] (aR (fcn r 14) :: st) s := Ze_gf (len := 3) (idx := 41) (by decide +kernel) rfl h rfl
theorem x15_386 : Ze d 15 386 [aR r, l1, l2, l3] st s = Ze d 15 387 [aR r, l1, l2, l3] (aR r :: st) s := Ze_n (i := (.aload_n 0)) (len := 1) (by decide +kernel) rfl
theorem x15_387 (h : obC r = 0) : Ze d 15 387 [l0, l1, l2, l3] (aR r :: st) s = Ze d 15 390 [l0, l1, l2, l3] (aI (s r 18) :: st) s := Ze_gf (len := 3) (idx := 226) (by decide +kernel) rfl h rfl
theorem x15_390 (h0 : 0 ≤ i) (h1 : i < aN1 r) : Ze d 15 390 [l0, l1, l2, l3] (aI i :: aR r :: st) s = Ze d 15 391 [l0, l1, l2, l3] (aI (s r i.toNat) :: st) s := Ze_n (i := .iaload) (len := 1) (by decide +kernel) (if_pos ⟨h0, h1⟩)
theorem x15_391 : Ze d 15 391 [l0, l1, l2, l3] (aI z :: st) s = Ze d 15 392 [l0, aI z, l2, l3] st s := Ze_n (i := (.istore_n 1)) (len := 1) (by decide +kernel) rfl
theorem x15_392 : Ze d 15 392 [l0, l1, l2, l3] st s = Ze d 15 403 [l0, l1, l2, l3] st s := Ze_n (i := (.goto 11)) (len := 3) (by decide +kernel) rfl
theorem x15_395 : Ze d 15 395 [aR r, l1, l2, l3] st s = Ze d 15 396 [aR r, l1, l2, l3] (aR r :: st) s := Ze_n (i := (.aload_n 0)) (len := 1) (by decide +kernel) rfl
theorem x15_396 : Ze d 15 396 [aR r, l1, l2, l3] st s = Ze d 15 397 [aR r, l1, l2, l3] (aR r :: st) s := Ze_n (i := (.aload_n 0)) (len := 1) (by decide +kernel) rfl
theorem x15_397 (h : obC r = 0) : Ze d 15 397 [l0, l1, l2, l3] (aR r :: st) s = Ze d 15 400 [l0, l1, l2, l3] (aI (s r 2) :: st) s := Ze_gf (len := 3) (idx := 198) (by decide +kernel) rfl h rfl
theorem x15_400 (h : obC r = 0) (h6 : st.length ≤ 4) : Ze d 15 400 [l0, l1, l2, l3] (aI a1 :: aR r :: st) s = zcV (Zc d 5 [aR r, aI a1] s) d 15 403 [l0, l1, l2, l3] st := Ze_cvV (idx := 208) (len := 3) (as := [aI a1]) (by decide +kernel) rfl (by decide +kernel) rfl h h6
theorem x15_403 : Ze d 15 403 [l0, l1, l2, l3] st s = Ze d 15 7 [l0, l1, l2, l3] st s := Ze_n (i := (.goto (-396))) (len := 3) (by decide +kernel) rfl
theorem x15_406 : Ze d 15 406 [l0, l1, l2, l3] st s = Ze d 15 407 [l0, l1, l2, l3] (aI 0 :: st) s := Ze_n (i := (.iconst 0)) (len := 1) (by decide +kernel) rfl
theorem x15_407 : Ze d 15 407 [l0, l1, l2, l3] [aI z] s = rI z s := Ze_i1 (by decide +kernel) rfl
theorem en15 : Zc (d + 1) 15 [aR r] s = Ze d 15 0 [aR r, aU, aU, aU] [] s := rfl
theorem x16_0 : Ze d 16 0 [aR r, l1] st s = Ze d 16 1 [aR r, l1] (aR r :: st) s := Ze_n (i := (.aload_n 0)) (len := 1) (by decide +kernel) rfl
theorem x16_1 (h : obC r = 0) : Ze d 16 1 [l0, l1] (aR r :: st) s = Ze d 16 4 [l0, l1] (aR (fcn r 19) :: st) s := Ze_gf (len := 3) (idx := 47) (by decide +kernel) rfl h rfl
theorem x16_4 : Ze d 16 4 [aR r, l1] st s = Ze d 16 5 [aR r, l1] (aR r :: st) s := Ze_n (i := (.aload_n 0)) (len := 1) (by decide +kernel) rfl
theorem x16_5 (h : obC r = 0) : Ze d 16 5 [l0, l1] (aR r :: st) s = Ze d 16 8 [l0, l1] (aI (s r 32) :: st) s := Ze_gf (len := 3) (idx := 246) (by decide +kernel) rfl h rfl
theorem x16_8 : Ze d 16 8 [l0, aI z] st s = Ze d 16 9 [l0, aI z] (aI z :: st) s := Ze_n (i := (.iload_n 1)) (len := 1) (by decide +kernel) rfl
theorem x16_9 (h0 : 0 ≤ i) (h1 : i < aN1 r) : Ze d 16 9 [l0, l1] (aI z :: aI i :: aR r :: st) s = Ze d 16 10 [l0, l1] st (mu s r i.toNat z) := Ze_n (i := .iastore) (len := 1) (by decide +kernel) (if_pos ⟨h0, h1⟩)
theorem x16_10 : Ze d 16 10 [aR r, l1] st s = Ze d 16 11 [aR r, l1] (aR r :: st) s := Ze_n (i := (.aload_n 0)) (len := 1) (by decide +kernel) rfl
theorem x16_11 (h : obC r = 0) : Ze d 16 11 [l0, l1] (aR r :: st) s = Ze d 16 14 [l0, l1] (aR (fcn r 22) :: st) s := Ze_gf (len := 3) (idx := 56) (by decide +kernel) rfl h rfl
theorem x16_14 : Ze d 16 14 [aR r, l1] st s = Ze d 16 15 [aR r, l1] (aR r :: st) s := Ze_n (i := (.aload_n 0)) (len := 1) (by decide +kernel) rfl
theorem x16_15 (h : obC r = 0) : Ze d 16 15 [l0, l1] (aR r :: st) s = Ze d 16 18 [l0, l1] (aI (s r 32) :: st) s := Ze_gf (len := 3) (idx := 246) (by decide +kernel) rfl h rfl
theorem x16_18 : Ze d 16 18 [l0, l1] st s = Ze d 16 19 [l0, l1] (aI (-1) :: st) s := Ze_n (i := (.iconst (-1))) (len := 1) (by decide +kernel) rfl
theorem x16_19 (h0 : 0 ≤ i) (h1 : i < aN1 r) : Ze d 16 19 [l0, l1] (aI z :: aI i :: aR r :: st) s = Ze d 16 20 [l0, l1] st (mu s r i.toNat z) := Ze_n (i := .iastore) (len := 1) (by decide +kernel) (if_pos ⟨h0, h1⟩)
theorem x16_20 : Ze d 16 20 [aR r, l1] st s = Ze d 16 21 [aR r, l1] (aR r :: st) s := Ze_n (i := (.aload_n 0)) (len := 1) (by decide +kernel) rfl
theorem x16_21 (h : obC r = 0) : Ze d 16 21 [l0, l1] (aR r :: st) s = Ze d 16 24 [l0, l1] (aR (fcn r 23) :: st) s := Ze_gf (len := 3) (idx := 59) (by decide +kernel) rfl h rfl
theorem x16_24 : Ze d 16 24 [aR r, l1] st s = Ze d 16 25 [aR r, l1] (aR r :: st) s := Ze_n (i := (.aload_n 0)) (len := 1) (by decide +kernel) rfl
theorem x16_25 (h : obC r = 0) : Ze d 16 25 [l0, l1] (aR r :: st) s = Ze d 16 28 [l0, l1] (aI (s r 32) :: st) s := Ze_gf (len := 3) (idx := 246) (by decide +kernel) rfl h rfl
theorem x16_28 : Ze d 16 28 [l0, l1] st s = Ze d 16 29 [l0, l1] (aI (-1) :: st) s := Ze_n (i := (.iconst (-1))) (len := 1) (by decide +kernel) rfl
theorem x16_29 (h0 : 0 ≤ i) (h1 : i < aN1 r) : Ze d 16 29 [l0, l1] (aI z :: aI i :: aR r :: st) s = Ze d 16 30 [l0, l1] st (mu s r i.toNat z) := Ze_n (i := .iastore) (len := 1) (by decide +kernel) (if_pos ⟨h0, h1⟩)
theorem x16_30 : Ze d 16 30 [aR r, l1] st s = Ze d 16 31 [aR r, l1] (aR r :: st) s := Ze_n (i := (.aload_n 0)) (len := 1) (by decide +kernel) rfl
theorem x16_31 (h : obC r = 0) : Ze d 16 31 [l0, l1] (aR r :: st) s = Ze d 16 34 [l0, l1] (aR (fcn r 24) :: st) s := Ze_gf (len := 3) (idx := 62) (by decide +kernel) rfl h rfl
theorem x16_34 : Ze d 16 34 [aR r, l1] st s = Ze d 16 35 [aR r, l1] (aR r :: st) s := Ze_n (i := (.aload_n 0)) (len := 1) (by decide +kernel) rfl
theorem x16_35 (h : obC r = 0) : Ze d 16 35 [l0, l1] (aR r :: st) s = Ze d 16 38 [l0, l1] (aI (s r 32) :: st) s := Ze_gf (len := 3) (idx := 246) (by decide +kernel) rfl h rfl
theorem x16_38 : Ze d 16 38 [l0, l1] st s = Ze d 16 39 [l0, l1] (aI (-1) :: st) s := Ze_n (i := (.iconst (-1))) (len := 1) (by decide +kernel) rfl
theorem x16_39 (h0 : 0 ≤ i) (h1 : i < aN1 r) : Ze d 16 39 [l0, l1] (aI z :: aI i :: aR r :: st) s = Ze d 16 40 [l0, l1] st (mu s r i.toNat z) := Ze_n (i := .iastore) (len := 1) (by decide +kernel) (if_pos ⟨h0, h1⟩)
theorem x16_40 : Ze d 16 40 [aR r, l1] st s = Ze d 16 41 [aR r, l1] (aR r :: st) s := Ze_n (i := (.aload_n 0)) (len := 1) (by decide +kernel) rfl
theorem x16_41 (h : obC r = 0) : Ze d 16 41 [l0, l1] (aR r :: st) s = Ze d 16 44 [l0, l1] (aR (fcn r 28) :: st) s := Ze_gf (len := 3) (idx := 74) (by decide +kernel) rfl h rfl
theorem x16_44 : Ze d 16 44 [aR r, l1] st s = Ze d 16 45 [aR r, l1] (aR r :: st) s := Ze_n (i := (.aload_n 0)) (len := 1) (by decide +kernel) rfl
theorem x16_45 (h : obC r = 0) : Ze d 16 45 [l0, l1] (aR r :: st) s = Ze d 16 48 [l0, l1] (aI (s r 32) :: st) s := Ze_gf (len := 3) (idx := 246) (by decide +kernel) rfl h rfl
theorem x16_48 : Ze d 16 48 [l0, l1] st s = Ze d 16 49 [l0, l1] (aI 0 :: st) s := Ze_n (i := (.iconst 0)) (len := 1) (by decide +kernel) rfl
theorem x16_49 (h0 : 0 ≤ i) (h1 : i < aN1 r) : Ze d 16 49 [l0, l1] (aI z :: aI i :: aR r :: st) s = Ze d 16 50 [l0, l1] st (mu s r i.toNat z) := Ze_n (i := .iastore) (len := 1) (by decide +kernel) (if_pos ⟨h0, h1⟩)
theorem x16_50 : Ze d 16 50 [aR r, l1] st s = Ze d 16 51 [aR r, l1] (aR r :: st) s := Ze_n (i := (.aload_n 0)) (len := 1) (by decide +kernel) rfl
theorem x16_51 : Ze d 16 51 [l0, l1] (aR r :: st) s = Ze d 16 52 [l0, l1] (aR r :: aR r :: st) s := Ze_n (i := .dup) (len := 1) (by decide +kernel) rfl
theorem x16_51i : Ze d 16 51 [l0, l1] (aI a :: st) s = Ze d 16 52 [l0, l1] (aI a :: aI a :: st) s := Ze_n (i := .dup) (len := 1) (by decide +kernel) rfl
theorem x16_52 (h : obC r = 0) : Ze d 16 52 [l0, l1] (aR r :: st) s = Ze d 16 55 [l0, l1] (aI (s r 32) :: st) s := Ze_gf (len := 3) (idx := 246) (by decide +kernel) rfl h rfl
theorem x16_55 : Ze d 16 55 [l0, l1] st s = Ze d 16 56 [l0, l1] (aI 1 :: st) s := Ze_n (i := (.iconst 1)) (len := 1) (by decide +kernel) rfl
theorem x16_56 : Ze d 16 56 [l0, l1] (aI b :: aI a :: st) s = Ze d 16 57 [l0, l1] (aI (wrap (a + b)) :: st) s := Ze_n (i := .iadd) (len := 1) (by decide +kernel) rfl
theorem x16_57 (h : obC r = 0) : Ze d 16 57 [l0, l1] (aI z :: aR r :: st) s = Ze d 16 60 [l0, l1] st (mu s r 32 z) := Ze_n (i := .putfield 246) (len := 3) (by decide +kernel) (if_pos h)
theorem x16_60 : Ze d 16 60 [aR r, l1] st s = Ze d 16 61 [aR r, l1] (aR r :: st) s := Ze_n (i := (.aload_n 0)) (len := 1) (by decide +kernel) rfl
theorem x16_61 (h : obC r = 0) : Ze d 16 61 [l0, l1] (aR r :: st) s = Ze d 16 64 [l0, l1] (aI (s r 32) :: st) s := Ze_gf (len := 3) (idx := 246) (by decide +kernel) rfl h rfl
theorem x16_64 : Ze d 16 64 [l0, l1] st s = Ze d 16 65 [l0, l1] (aI 1 :: st) s := Ze_n (i := (.iconst 1)) (len := 1) (by decide +kernel) rfl
theorem x16_65 : Ze d 16 65 [l0, l1] (aI b :: aI a :: st) s = Ze d 16 66 [l0, l1] (aI (wrap (a - b)) :: st) s := Ze_n (i := .isub) (len := 1) (by decide +kernel) rfl
theorem x16_66 : Ze d 16 66 [l0, l1] [aI z] s = rI z s := Ze_i1 (by decide +kernel) rfl
theorem en16 : Zc (d + 1) 16 [aR r, aI a1] s = Ze d 16 0 [aR r, aI a1] [] s := rfl
theorem x17_0 : Ze d 17 0 [aR r, l1, l2, l3] st s = Ze d 17 1 [aR r, l1, l2, l3] (aR r :: st) s := Ze_n (i := (.aload_n 0)) (len := 1) (by decide +kernel) rfl
theorem x17_1 : Ze d 17 1 [l0, l1, l2, l3] st s = Ze d 17 2 [l0, l1, l2, l3] (aI 0 :: st) s := Ze_n (i := (.iconst 0)) (len := 1) (by decide +kernel) rfl
theorem x17_2 (h : obC r = 0) (h6 : st.length ≤ 4) : Ze d 17 2 [l0, l1, l2, l3] (aI a1 :: aR r :: st) s = zcI (Zc d 16 [aR r, aI a1] s) d 17 5 [l0, l1, l2, l3] st := Ze_cvI (idx := 249) (len := 3) (as := [aI a1]) (by decide +kernel) rfl (by decide +kernel) rfl h h6
theorem x17_5 : Ze d 17 5 [l0, l1, l2, l3] (aI z :: st) s = Ze d 17 6 [l0, aI z, l2, l3] st s := Ze_n (i := (.istore_n 1)) (len := 1) (by decide +kernel) rfl
theorem x17_6 : Ze d 17 6 [aR r, l1, l2, l3] st s = Ze d 17 7 [aR r, l1, l2, l3] (aR r :: st) s := Ze_n (i := (.aload_n 0)) (len := 1) (by decide +kernel) rfl
theorem x17_7 (h : obC r = 0) : Ze d 17 7 [l0, l1, l2, l3] (aR r :: st) s = Ze d 17 10 [l0, l1, l2, l3] (aR (fcn r 20) :: st) s := Ze_gf (len := 3) (idx := 50) (by decide +kernel) rfl h rfl
theorem x17_10 : Ze d 17 10 [l0, aI z, l2, l3] st s = Ze d 17 11 [l0, aI z, l2, l3] (aI z :: st) s := Ze_n (i := (.iload_n 1)) (len := 1) (by decide +kernel) rfl
theorem x17_11 : Ze d 17 11 [aR r, l1, l2, l3] st s = Ze d 17 12 [aR r, l1, l2, l3] (aR r :: st) s := Ze_n (i := (.aload_n 0)) (len := 1) (by decide +kernel) rfl
theorem x17_12 (h : obC r = 0) (h6 : st.length ≤ 4) : Ze d 17 12 [l0, l1, l2, l3] (aR r :: st) s = zcI (Zc d 11 [aR r] s) d 17 15 [l0, l1, l2, l3] st := Ze_cvI (idx := 223) (len := 3) (as := []) (by decide +kernel) rfl (by decide +kernel) rfl h h6
theorem x17_15 (h0 : 0 ≤ i) (h1 : i < aN1 r) : Ze d 17 15 [l0, l1, l2, l3] (aI z :: aI i :: aR r :: st) s = Ze d 17 16 [l0, l1, l2, l3] st (mu s r i.toNat z) := Ze_n (i := .iastore) (len := 1) (by decide +kernel) (if_pos ⟨h0, h1⟩)
theorem x17_16 : Ze d 17 16 [aR r, l1, l2, l3] st s = Ze d 17 17 [aR r, l1, l2, l3] (aR r :: st) s := Ze_n (i := (.aload_n 0)) (len := 1) (by decide +kernel) rfl
theorem x17_17 (h : obC r = 0) (h6 : st.length ≤ 4) : Ze d 17 17 [l0, l1, l2, l3] (aR r :: st) s = zcI (Zc d 7 [aR r] s) d 17 20 [l0, l1, l2, l3] st := Ze_cvI (idx := 204) (len := 3) (as := []) (by decide +kernel) rfl (by decide +kernel) rfl h h6
theorem x17_20 : Ze d 17 20 [l0, l1, l2, l3] (aI z :: st) s = Ze d 17 21 [l0, l1, aI z, l3] st s := Ze_n (i := (.istore_n 2)) (len := 1) (by decide +kernel) rfl
theorem x17_21 : Ze d 17 21 [aR r, l1, l2, l3] st s = Ze d 17 22 [aR r, l1, l2, l3] (aR r :: st) s := Ze_n (i := (.aload_n 0)) (len := 1) (by decide +kernel) rfl
theorem x17_22 (h : obC r = 0) : Ze d 17 22 [l0, l1, l2, l3] (aR r :: st) s = Ze d 17 25 [l0, l1, l2, l3] (aI (s r 5) :: st) s := Ze_gf (len := 3) (idx := 194) (by decide +kernel) rfl h rfl
theorem x17_25 : Ze d 17 25 [l0, l1, l2, l3] (aI a :: st) s = if a = 0 then Ze d 17 28 [l0, l1, l2, l3] st s else Ze d 17 142 [l0, l1, l2, l3] st s := Ze_b (i := (.ifCond .ne 117)) (len := 3) (by decide +kernel) rfl
theorem x17_28 : Ze d 17 28 [l0, l1, aI z, l3] st s = Ze d 17 29 [l0, l1, aI z, l3] (aI z :: st) s := Ze_n (i := (.iload_n 2)) (len := 1) (by decide +kernel) rfl
theorem x17_29 : Ze d 17 29 [l0, l1, l2, l3] st s = Ze d 17 31 [l0, l1, l2, l3] (aI 46 :: st) s := Ze_n (i := (.bipush 46)) (len := 2) (by decide +kernel) rfl
theorem x17_31 : Ze d 17 31 [l0, l1, l2, l3] (aI b :: aI a :: st) s = if a = b then Ze d 17 40 [l0, l1, l2, l3] st s else Ze d 17 34 [l0, l1, l2, l3] st s := Ze_b (i := (.if_icmp .eq 9)) (len := 3) (by decide +kernel) rfl
theorem x17_34 : Ze d 17 34 [l0, l1, aI z, l3] st s = Ze d 17 35 [l0, l1, aI z, l3] (aI z :: st) s := Ze_n (i := (.iload_n 2)) (len := 1) (by decide +kernel) rfl
theorem x17_35 : Ze d 17 35 [l0, l1, l2, l3] st s = Ze d 17 37 [l0, l1, l2, l3] (aI 91 :: st) s := Ze_n (i := (.bipush 91)) (len := 2) (by decide +kernel) rfl
theorem x17_37 : Ze d 17 37 [l0, l1, l2, l3] (aI b :: aI a :: st) s = if a = b then Ze d 17 40 [l0, l1, l2, l3] st s else Ze d 17 142 [l0, l1, l2, l3] st s := Ze_b (i := (.if_icmp .ne 105)) (len := 3) (by decide +kernel) rfl
theorem x17_40 : Ze d 17 40 [aR r, l1, l2, l3] st s = Ze d 17 41 [aR r, l1, l2, l3] (aR r :: st) s := Ze_n (i := (.aload_n 0)) (len := 1) (by decide +kernel) rfl
theorem x17_41 (h : obC r = 0) : Ze d 17 41 [l0, l1, l2, l3] (aR r :: st) s = Ze d 17 44 [l0, l1, l2, l3] (aR (fcn r 28) :: st) s := Ze_gf (len := 3) (idx := 74) (by decide +kernel) rfl h rfl
theorem x17_44 : Ze d 17 44 [l0, aI z, l2, l3] st s = Ze d 17 45 [l0, aI z, l2, l3] (aI z :: st) s := Ze_n (i := (.iload_n 1)) (len := 1) (by decide +kernel) rfl
theorem x17_45 (h0 : 0 ≤ i) (h1 : i < aN1 r) : Ze d 17 45 [l0, l1, l2, l3] (aI i :: aR r :: st) s = Ze d 17 46 [l0, l1, l2, l3] (aI (s r i.toNat) :: st) s := Ze_n (i := .iaload) (len := 1) (by decide +kernel) (if_pos ⟨h0, h1⟩)
theorem x17_46 : Ze d 17 46 [l0, l1, l2, l3] st s = Ze d 17 48 [l0, l1, l2, l3] (aI 6 :: st) s := Ze_n (i := (.bipush 6)) (len := 2) (by decide +kernel) rfl
theorem x17_48 : Ze d 17 48 [l0, l1, l2, l3] (aI b :: aI a :: st) s = if a = b then Ze d 17 51 [l0, l1, l2, l3] st s else Ze d 17 61 [l0, l1, l2, l3] st s := Ze_b (i := (.if_icmp .ne 13)) (len := 3) (by decide +kernel) rfl
theorem x17_51 : Ze d 17 51 [aR r, l1, l2, l3] st s = Ze d 17 52 [aR r, l1, l2, l3] (aR r :: st) s := Ze_n (i := (.aload_n 0)) (len := 1) (by decide +kernel) rfl
theorem x17_52 : Ze d 17 52 [aR r, l1, l2, l3] st s = Ze d 17 53 [aR r, l1, l2, l3] (aR r :: st) s := Ze_n (i := (.aload_n 0)) (len := 1) (by decide +kernel) rfl
theorem x17_53 (h : obC r = 0) : Ze d 17 53 [l0, l1, l2, l3] (aR r :: st) s = Ze d 17 56 [l0, l1, l2, l3] (aI (s r 2) :: st) s := Ze_gf (len := 3) (idx := 198) (by decide +kernel) rfl h rfl
theorem x17_56 (h : obC r = 0) (h6 : st.length ≤ 4) : Ze d 17 56 [l0, l1, l2, l3] (aI a1 :: aR r :: st) s = zcV (Zc d 5 [aR r, aI a1] s) d 17 59 [l0, l1, l2, l3] st := Ze_cvV (idx := 208) (len := 3) (as := [aI a1]) (by decide +kernel) rfl (by decide +kernel) rfl h h6
theorem x17_59 : Ze d 17 59 [l0, aI z, l2, l3] st s = Ze d 17 60 [l0, aI z, l2, l3] (aI z :: st) s := Ze_n (i := (.iload_n 1)) (len := 1) (by decide +kernel) rfl
theorem x17_60 : Ze d 17 60 [l0, l1, l2, l3] [aI z] s = rI z s := Ze_i1 (by decide +kernel) rfl
theorem x17_61 : Ze d 17 61 [aR r, l1, l2, l3] st s = Ze d 17 62 [aR r, l1, l2, l3] (aR r :: st) s := Ze_n (i := (.aload_n 0)) (len := 1) (by decide +kernel) rfl
theorem x17_62 : Ze d 17 62 [l0, l1, l2, l3] (aR r :: st) s = Ze d 17 63 [l0, l1, l2, l3] (aR r :: aR r :: st) s := Ze_n (i := .dup) (len := 1) (by decide +kernel) rfl
theorem x17_62i : Ze d 17 62 [l0, l1, l2, l3] (aI a :: st) s = Ze d 17 63 [l0, l1, l2, l3] (aI a :: aI a :: st) s := Ze_n (i := .dup) (len := 1) (by decide +kernel) rfl
theorem x17_63 (h : obC r = 0) : Ze d 17 63 [l0, l1, l2, l3] (aR r :: st) s = Ze d 17 66 [l0, l1, l2, l3] (aI (s r 2) :: st) s := Ze_gf (len := 3) (idx := 198) (by decide +kernel) rfl h rfl
theorem x17_66 : Ze d 17 66 [l0, l1, l2, l3] st s = Ze d 17 67 [l0, l1, l2, l3] (aI 1 :: st) s := Ze_n (i := (.iconst 1)) (len := 1) (by decide +kernel) rfl
theorem x17_67 : Ze d 17 67 [l0, l1, l2, l3] (aI b :: aI a :: st) s = Ze d 17 68 [l0, l1, l2, l3] (aI (wrap (a + b)) :: st) s := Ze_n (i := .iadd) (len := 1) (by decide +kernel) rfl
theorem x17_68 (h : obC r = 0) : Ze d 17 68 [l0, l1, l2, l3] (aI z :: aR r :: st) s = Ze d 17 71 [l0, l1, l2, l3] st (mu s r 2 z) := Ze_n (i := .putfield 198) (len := 3) (by decide +kernel) (if_pos h)
theorem x17_71 : Ze d 17 71 [l0, l1, aI z, l3] st s = Ze d 17 72 [l0, l1, aI z, l3] (aI z :: st) s := Ze_n (i := (.iload_n 2)) (len := 1) (by decide +kernel) rfl
theorem x17_72 : Ze d 17 72 [l0, l1, l2, l3] st s = Ze d 17 74 [l0, l1, l2, l3] (aI 46 :: st) s := Ze_n (i := (.bipush 46)) (len := 2) (by decide +kernel) rfl
theorem x17_74 : Ze d 17 74 [l0, l1, l2, l3] (aI b :: aI a :: st) s = if a = b then Ze d 17 77 [l0, l1, l2, l3] st s else Ze d 17 84 [l0, l1, l2, l3] st s := Ze_b (i := (.if_icmp .ne 10)) (len := 3) (by decide +kernel) rfl
theorem x17_77 : Ze d 17 77 [aR r, l1, l2, l3] st s = Ze d 17 78 [aR r, l1, l2, l3] (aR r :: st) s := Ze_n (i := (.aload_n 0)) (len := 1) (by decide +kernel) rfl
theorem x17_78 (h : obC r = 0) (h6 : st.length ≤ 4) : Ze d 17 78 [l0, l1, l2, l3] (aR r :: st) s = zcI (Zc d 11 [aR r] s) d 17 81 [l0, l1, l2, l3] st := Ze_cvI (idx := 223) (len := 3) (as := []) (by decide +kernel) rfl (by decide +kernel) rfl h h6
theorem x17_81 : Ze d 17 81 [l0, l1, l2, l3] st s = Ze d 17 94 [l0, l1, l2, l3] st s := Ze_n (i := (.goto 13)) (len := 3) (by decide +kernel) rfl
theorem x17_84 : Ze d 17 84 [l0, l1, l2, l3] st s = Ze d 17 86 [l0, l1, l2, l3] (aI 100 :: st) s := Ze_n (i := (.bipush 100)) (len := 2) (by decide +kernel) rfl
theorem x17_86 : Ze d 17 86 [aR r, l1, l2, l3] st s = Ze d 17 87 [aR r, l1, l2, l3] (aR r :: st) s := Ze_n (i := (.aload_n 0)) (len := 1) (by decide +kernel) rfl
theorem x17_87 : Ze d 17 87 [l0, l1, l2, l3] st s = Ze d 17 88 [l0, l1, l2, l3] (aI 0 :: st) s := Ze_n (i := (.iconst 0)) (len := 1) (by decide +kernel) rfl
theorem x17_88 : Ze d 17 88 [l0, l1, l2, l3] st s = Ze d 17 90 [l0, l1, l2, l3] (aI 65535 :: st) s := Ze_n (i := (.ldc 219)) (len := 2) (by decide +kernel) rfl
theorem x17_90 (h : obC r = 0) (h6 : st.length ≤ 4) : Ze d 17 90 [l0, l1, l2, l3] (aI a2 :: aI a1 :: aR r :: st) s = zcI (Zc d 12 [aR r, aI a1, aI a2] s) d 17 93 [l0, l1, l2, l3] st := Ze_cvI (idx := 235) (len := 3) (as := [aI a1, aI a2]) (by decide +kernel) rfl (by decide +kernel) rfl h h6
theorem x17_93 : Ze d 17 93 [l0, l1, l2, l3] (aI b :: aI a :: st) s = Ze d 17 94 [l0, l1, l2, l3] (aI (wrap (a + b)) :: st) s := Ze_n (i := .iadd) (len := 1) (by decide +kernel) rfl
theorem x17_94 : Ze d 17 94 [l0, l1, l2, l3] (aI z :: st) s = Ze d 17 95 [l0, l1, l2, aI z] st s := Ze_n (i := (.istore_n 3)) (len := 1) (by decide +kernel) rfl
theorem x17_95 : Ze d 17 95 [l0, l1, aI z, l3] st s = Ze d 17 96 [l0, l1, aI z, l3] (aI z :: st) s := Ze_n (i := (.iload_n 2)) (len := 1) (by decide +kernel) rfl
theorem x17_96 : Ze d 17 96 [l0, l1, l2, l3] st s = Ze d 17 98 [l0, l1, l2, l3] (aI 91 :: st) s := Ze_n (i := (.bipush 91)) (len := 2) (by decide +kernel) rfl
theorem x17_98 : Ze d 17 98 [l0, l1, l2, l3] (aI b :: aI a :: st) s = if a = b then Ze d 17 101 [l0, l1, l2, l3] st s else Ze d 17 107 [l0, l1, l2, l3] st s := Ze_b (i := (.if_icmp .ne 9)) (len := 3) (by decide +kernel) rfl
theorem x17_101 : Ze d 17 101 [aR r, l1, l2, l3] st s = Ze d 17 102 [aR r, l1, l2, l3] (aR r :: st) s := Ze_n (i := (.aload_n 0)) (len := 1) (by decide +kernel) rfl
theorem x17_102 : Ze d 17 102 [l0, l1, l2, l3] st s = Ze d 17 104 [l0, l1, l2, l3] (aI 93 :: st) s := Ze_n (i := (.bipush 93)) (len := 2) (by decide +kernel) rfl
theorem x17_104 (h : obC r = 0) (h6 : st.length ≤ 4) : Ze d 17 104 [l0, l1, l2, l3] (aI a1 :: aR r :: st) s = zcV (Zc d 8 [aR r, aI a1] s) d 17 107 [l0, l1, l2, l3] st := Ze_cvV (idx := 229) (len := 3) (as := [aI a1]) (by decide +kernel) rfl (by decide +kernel) rfl h h6
theorem x17_107 : Ze d 17 107 [aR r, l1, l2, l3] st s = Ze d 17 108 [aR r, l1, l2, l3] (aR r :: st) s := Ze_n (i := (.aload_n 0)) (len := 1) (by decide +kernel) rfl
theorem x17_108 (h : obC r = 0) : Ze d 17 108 [l0, l1, l2, l3] (aR r :: st) s = Ze d 17 111 [l0, l1, l2, l3] (aR (fcn r 27) :: st) s := Ze_gf (len := 3) (idx := 71) (by decide +kernel) rfl h rfl
theorem x17_111 : Ze d 17 111 [l0, l1, l2, l3] st s = Ze d 17 113 [l0, l1, l2, l3] (aI 6 :: st) s := Ze_n (i := (.bipush 6)) (len := 2) (by decide +kernel) rfl
theorem x17_113 : Ze d 17 113 [l0, aI z, l2, l3] st s = Ze d 17 114 [l0, aI z, l2, l3] (aI z :: st) s := Ze_n (i := (.iload_n 1)) (len := 1) (by decide +kernel) rfl
theorem x17_114 : Ze d 17 114 [l0, l1, l2, l3] (aI b :: aI a :: st) s = Ze d 17 115 [l0, l1, l2, l3] (aI (wrap (a * b)) :: st) s := Ze_n (i := .imul) (len := 1) (by decide +kernel) rfl
theorem x17_115 : Ze d 17 115 [aR r, l1, l2, l3] st s = Ze d 17 116 [aR r, l1, l2, l3] (aR r :: st) s := Ze_n (i := (.aload_n 0)) (len := 1) (by decide +kernel) rfl
theorem x17_116 (h : obC r = 0) : Ze d 17 116 [l0, l1, l2, l3] (aR r :: st) s = Ze d 17 119 [l0, l1, l2, l3] (aR (fcn r 28) :: st) s := Ze_gf (len := 3) (idx := 74) (by decide +kernel) rfl h rfl
theorem x17_119 : Ze d 17 119 [l0, aI z, l2, l3] st s = Ze d 17 120 [l0, aI z, l2, l3] (aI z :: st) s := Ze_n (i := (.iload_n 1)) (len := 1) (by decide +kernel) rfl
theorem x17_120 (h0 : 0 ≤ i) (h1 : i < aN1 r) : Ze d 17 120 [l0, l1, l2, l3] (aI i :: aR r :: st) s = Ze d 17 121 [l0, l1, l2, l3] (aI (s r i.toNat) :: st) s := Ze_n (i := .iaload) (len := 1) (by decide +kernel) (if_pos ⟨h0, h1⟩)
theorem x17_121 : Ze d 17 121 [l0, l1, l2, l3] (aI b :: aI a :: st) s = Ze d 17 122 [l0, l1, l2, l3] (aI (wrap (a + b)) :: st) s := Ze_n (i := .iadd) (len := 1) (by decide +kernel) rfl
theorem x17_122 : Ze d 17 122 [l0, l1, l2, aI z] st s = Ze d 17 123 [l0, l1, l2, aI z] (aI z :: st) s := Ze_n (i := (.iload_n 3)) (len := 1) (by decide +kernel) rfl
theorem x17_123 (h0 : 0 ≤ i) (h1 : i < aN1 r) : Ze d 17 123 [l0, l1, l2, l3] (aI z :: aI i :: aR r :: st) s = Ze d 17 124 [l0, l1, l2, l3] st (mu s r i.toNat z) := Ze_n (i := .iastore) (len := 1) (by decide +kernel) (if_pos ⟨h0, h1⟩)
theorem x17_124 : Ze d 17 124 [aR r, l1, l2, l3] st s = Ze d 17 125 [aR r, l1, l2, l3] (aR r :: st) s := Ze_n (i := (.aload_n 0)) (len := 1) (by decide +kernel) rfl
theorem x17_125 (h : obC r = 0) : Ze d 17 125 [l0, l1, l2, l3] (aR r :: st) s = Ze d 17 128 [l0, l1, l2, l3] (aR (fcn r 28) :: st) s := Ze_gf (len := 3) (idx := 74) (by decide +kernel) rfl h rfl
theorem x17_128 : Ze d 17 128 [l0, aI z, l2, l3] st s = Ze d 17 129 [l0, aI z, l2, l3] (aI z :: st) s := Ze_n (i := (.iload_n 1)) (len := 1) (by decide +kernel) rfl
theorem x17_129 : Ze d 17 129 [l0, l1, l2, l3] (aI a :: aR r :: st) s = Ze d 17 130 [l0, l1, l2, l3] (aI a :: aR r :: aI a :: aR r :: st) s := Ze_n (i := .dup2) (len := 1) (by decide +kernel) rfl
theorem x17_130 (h0 : 0 ≤ i) (h1 : i < aN1 r) : Ze d 17 130 [l0, l1, l2, l3] (aI i :: aR r :: st) s = Ze d 17 131 [l0, l1, l2, l3] (aI (s r i.toNat) :: st) s := Ze_n (i := .iaload) (len := 1) (by decide +kernel) (if_pos ⟨h0, h1⟩)
theorem x17_131 : Ze d 17 131 [l0, l1, l2, l3] st s = Ze d 17 132 [l0, l1, l2, l3] (aI 1 :: st) s := Ze_n (i := (.iconst 1)) (len := 1) (by decide +kernel) rfl
theorem x17_132 : Ze d 17 132 [l0, l1, l2, l3] (aI b :: aI a :: st) s = Ze d 17 133 [l0, l1, l2, l3] (aI (wrap (a + b)) :: st) s := Ze_n (i := .iadd) (len := 1) (by decide +kernel) rfl
theorem x17_133 (h0 : 0 ≤ i) (h1 : i < aN1 r) : Ze d 17 133 [l0, l1, l2, l3] (aI z :: aI i :: aR r :: st) s = Ze d 17 134 [l0, l1, l2, l3] st (mu s r i.toNat z) := Ze_n (i := .iastore) (len := 1) (by decide +kernel) (if_pos ⟨h0, h1⟩)
theorem x17_134 : Ze d 17 134 [aR r, l1, l2, l3] st s = Ze d 17 135 [aR r, l1, l2, l3] (aR r :: st) s := Ze_n (i := (.aload_n 0)) (len := 1) (by decide +kernel) rfl
theorem x17_135 (h : obC r = 0) (h6 : st.length ≤ 4) : Ze d 17 135 [l0, l1, l2, l3] (aR r :: st) s = zcI (Zc d 7 [aR r] s) d 17 138 [l0, l1, l2, l3] st := Ze_cvI (idx := 204) (len := 3) (as := []) (by decide +kernel) rfl (by decide +kernel) rfl h h6
theorem x17_138 : Ze d 17 138 [l0, l1, l2, l3] (aI z :: st) s = Ze d 17 139 [l0, l1, aI z, l3] st s := Ze_n (i := (.istore_n 2)) (len := 1) (by decide +kernel) rfl
theorem x17_139 : Ze d 17 139 [l0, l1, l2, l3] st s = Ze d 17 21 [l0, l1, l2, l3] st s := Ze_n (i := (.goto (-118))) (len := 3) (by decide +kernel) rfl
theorem x17_142 : Ze d 17 142 [aR r, l1, l2, l3] st s = Ze d 17 143 [aR r, l1, l2, l3] (aR r :: st) s := Ze_n (i := (.aload_n 0)) (len := 1) (by decide +kernel) rfl
theorem x17_143 (h : obC r = 0) : Ze d 17 143 [l0, l1, l2, l3] (aR r :: st) s = Ze d 17 146 [l0, l1, l2, l3] (aR (fcn r 25) :: st) s := Ze_gf (len := 3) (idx := 65) (by decide +kernel) rfl h rfl
theorem x17_146 : Ze d 17 146 [l0, aI z, l2, l3] st s = Ze d 17 147 [l0, aI z, l2, l3] (aI z :: st) s := Ze_n (i := (.iload_n 1)) (len := 1) (by decide +kernel) rfl
theorem x17_147 : Ze d 17 147 [aR r, l1, l2, l3] st s = Ze d 17 148 [aR r, l1, l2, l3] (aR r :: st) s := Ze_n (i := (.aload_n 0)) (len := 1) (by decide +kernel) rfl
theorem x17_148 (h : obC r = 0) : Ze d 17 148 [l0, l1, l2, l3] (aR r :: st) s = Ze d 17 151 [l0, l1, l2, l3] (aI (s r 32) :: st) s := Ze_gf (len := 3) (idx := 246) (by decide +kernel) rfl h rfl
theorem x17_151 (h0 : 0 ≤ i) (h1 : i < aN1 r) : Ze d 17 151 [l0, l1, l2, l3] (aI z :: aI i :: aR r :: st) s = Ze d 17 152 [l0, l1, l2, l3] st (mu s r i.toNat z) := Ze_n (i := .iastore) (len := 1) (by decide +kernel) (if_pos ⟨h0, h1⟩)
theorem x17_152 : Ze d 17 152 [l0, aI z, l2, l3] st s = Ze d 17 153 [l0, aI z, l2, l3] (aI z :: st) s := Ze_n (i := (.iload_n 1)) (len := 1) (by decide +kernel) rfl
theorem x17_153 : Ze d 17 153 [l0, l1, l2, l3] [aI z] s = rI z s := Ze_i1 (by decide +kernel) rfl
theorem en17 : Zc (d + 1) 17 [aR r] s = Ze d 17 0 [aR r, aU, aU, aU] [] s := rfl
theorem x18_0 : Ze d 18 0 [aI z] st s = Ze d 18 1 [aI z] (aI z :: st) s := Ze_n (i := (.iload_n 0)) (len := 1) (by decide +kernel) rfl
theorem x18_1 : Ze d 18 1 [l0] st s = Ze d 18 3 [l0] (aI 43 :: st) s := Ze_n (i := (.bipush 43)) (len := 2) (by decide +kernel) rfl
theorem x18_3 : Ze d 18 3 [l0] (aI b :: aI a :: st) s = if a = b then Ze d 18 48 [l0] st s else Ze d 18 6 [l0] st s := Ze_b (i := (.if_icmp .eq 45)) (len := 3) (by decide +kernel) rfl
theorem x18_6 : Ze d 18 6 [aI z] st s = Ze d 18 7 [aI z] (aI z :: st) s := Ze_n (i := (.iload_n 0)) (len := 1) (by decide +kernel) rfl
theorem x18_7 : Ze d 18 7 [l0] st s = Ze d 18 9 [l0] (aI 45 :: st) s := Ze_n (i := (.bipush 45)) (len := 2) (by decide +kernel) rfl
theorem x18_9 : Ze d 18 9 [l0] (aI b :: aI a :: st) s = if a = b then Ze d 18 48 [l0] st s else Ze d 18 12 [l0] st s := Ze_b (i := (.if_icmp .eq 39)) (len := 3) (by decide +kernel) rfl
theorem x18_12 : Ze d 18 12 [aI z] st s = Ze d 18 13 [aI z] (aI z :: st) s := Ze_n (i := (.iload_n 0)) (len := 1) (by decide +kernel) rfl
theorem x18_13 : Ze d 18 13 [l0] st s = Ze d 18 15 [l0] (aI 38 :: st) s := Ze_n (i := (.bipush 38)) (len := 2) (by decide +kernel) rfl
theorem x18_15 : Ze d 18 15 [l0] (aI b :: aI a :: st) s = if a = b then Ze d 18 48 [l0] st s else Ze d 18 18 [l0] st s := Ze_b (i := (.if_icmp .eq 33)) (len := 3) (by decide +kernel) rfl
theorem x18_18 : Ze d 18 18 [aI z] st s = Ze d 18 19 [aI z] (aI z :: st) s := Ze_n (i := (.iload_n 0)) (len := 1) (by decide +kernel) rfl
theorem x18_19 : Ze d 18 19 [l0] st s = Ze d 18 21 [l0] (aI 124 :: st) s := Ze_n (i := (.bipush 124)) (len := 2) (by decide +kernel) rfl
theorem x18_21 : Ze d 18 21 [l0] (aI b :: aI a :: st) s = if a = b then Ze d 18 48 [l0] st s else Ze d 18 24 [l0] st s := Ze_b (i := (.if_icmp .eq 27)) (len := 3) (by decide +kernel) rfl
theorem x18_24 : Ze d 18 24 [aI z] st s = Ze d 18 25 [aI z] (aI z :: st) s := Ze_n (i := (.iload_n 0)) (len := 1) (by decide +kernel) rfl
theorem x18_25 : Ze d 18 25 [l0] st s = Ze d 18 27 [l0] (aI 94 :: st) s := Ze_n (i := (.bipush 94)) (len := 2) (by decide +kernel) rfl
theorem x18_27 : Ze d 18 27 [l0] (aI b :: aI a :: st) s = if a = b then Ze d 18 48 [l0] st s else Ze d 18 30 [l0] st s := Ze_b (i := (.if_icmp .eq 21)) (len := 3) (by decide +kernel) rfl
theorem x18_30 : Ze d 18 30 [aI z] st s = Ze d 18 31 [aI z] (aI z :: st) s := Ze_n (i := (.iload_n 0)) (len := 1) (by decide +kernel) rfl
theorem x18_31 : Ze d 18 31 [l0] st s = Ze d 18 33 [l0] (aI 61 :: st) s := Ze_n (i := (.bipush 61)) (len := 2) (by decide +kernel) rfl
theorem x18_33 : Ze d 18 33 [l0] (aI b :: aI a :: st) s = if a = b then Ze d 18 48 [l0] st s else Ze d 18 36 [l0] st s := Ze_b (i := (.if_icmp .eq 15)) (len := 3) (by decide +kernel) rfl
theorem x18_36 : Ze d 18 36 [aI z] st s = Ze d 18 37 [aI z] (aI z :: st) s := Ze_n (i := (.iload_n 0)) (len := 1) (by decide +kernel) rfl
theorem x18_37 : Ze d 18 37 [l0] st s = Ze d 18 39 [l0] (aI 60 :: st) s := Ze_n (i := (.bipush 60)) (len := 2) (by decide +kernel) rfl
theorem x18_39 : Ze d 18 39 [l0] (aI b :: aI a :: st) s = if a = b then Ze d 18 48 [l0] st s else Ze d 18 42 [l0] st s := Ze_b (i := (.if_icmp .eq 9)) (len := 3) (by decide +kernel) rfl
theorem x18_42 : Ze d 18 42 [aI z] st s = Ze d 18 43 [aI z] (aI z :: st) s := Ze_n (i := (.iload_n 0)) (len := 1) (by decide +kernel) rfl
theorem x18_43 : Ze d 18 43 [l0] st s = Ze d 18 45 [l0] (aI 35 :: st) s := Ze_n (i := (.bipush 35)) (len := 2) (by decide +kernel) rfl
theorem x18_45 : Ze d 18 45 [l0] (aI b :: aI a :: st) s = if a = b then Ze d 18 48 [l0] st s else Ze d 18 52 [l0] st s := Ze_b (i := (.if_icmp .ne 7)) (len := 3) (by decide +kernel) rfl
theorem x18_48 : Ze d 18 48 [l0] st s = Ze d 18 49 [l0] (aI 1 :: st) s := Ze_n (i := (.iconst 1)) (len := 1) (by decide +kernel) rfl
theorem x18_49 : Ze d 18 49 [l0] st s = Ze d 18 53 [l0] st s := Ze_n (i := (.goto 4)) (len := 3) (by decide +kernel) rfl
theorem x18_52 : Ze d 18 52 [l0] st s = Ze d 18 53 [l0] (aI 0 :: st) s := Ze_n (i := (.iconst 0)) (len := 1) (by decide +kernel) rfl
theorem x18_53 (h : z = 0 ∨ z = 1) : Ze d 18 53 [l0] [aI z] s = rI z s := Ze_i2 (by decide +kernel) rfl h
theorem en18 : Zc (d + 1) 18 [aI a0] s = Ze d 18 0 [aI a0] [] s := rfl
theorem x19_0 : Ze d 19 0 [l0, aI z] st s = Ze d 19 1 [l0, aI z] (aI z :: st) s := Ze_n (i := (.iload_n 1)) (len := 1) (by decide +kernel) rfl
theorem x19_1 (h6 : st.length ≤ 4) : Ze d 19 1 [l0, l1] (aI a0 :: st) s = zcI (Zc d 18 [aI a0] s) d 19 4 [l0, l1] st := Ze_csI (idx := 252) (len := 3) (as := [aI a0]) (by decide +kernel) rfl rfl (by decide +kernel) rfl h6
theorem x19_4 : Ze d 19 4 [l0, l1] (aI a :: st) s = if a = 0 then Ze d 19 32 [l0, l1] st s else Ze d 19 7 [l0, l1] st s := Ze_b (i := (.ifCond .eq 28)) (len := 3) (by decide +kernel) rfl
theorem x19_7 : Ze d 19 7 [l0, aI z] st s = Ze d 19 8 [l0, aI z] (aI z :: st) s := Ze_n (i := (.iload_n 1)) (len := 1) (by decide +kernel) rfl
theorem x19_8 : Ze d 19 8 [l0, l1] st s = Ze d 19 10 [l0, l1] (aI 60 :: st) s := Ze_n (i := (.bipush 60)) (len := 2) (by decide +kernel) rfl
theorem x19_10 : Ze d 19 10 [l0, l1] (aI b :: aI a :: st) s = if a = b then Ze d 19 13 [l0, l1] st s else Ze d 19 28 [l0, l1] st s := Ze_b (i := (.if_icmp .ne 18)) (len := 3) (by decide +kernel) rfl
theorem x19_13 : Ze d 19 13 [aR r, l1] st s = Ze d 19 14 [aR r, l1] (aR r :: st) s := Ze_n (i := (.aload_n 0)) (len := 1) (by decide +kernel) rfl
theorem x19_14 : Ze d 19 14 [aR r, l1] st s = Ze d 19 15 [aR r, l1] (aR r :: st) s := Ze_n (i := (.aload_n 0)) (len := 1) (by decide +kernel) rfl
theorem x19_15 (h : obC r = 0) : Ze d 19 15 [l0, l1] (aR r :: st) s = Ze d 19 18 [l0, l1] (aI (s r 2) :: st) s := Ze_gf (len := 3) (idx := 198) (by decide +kernel) rfl h rfl
theorem x19_18 : Ze d 19 18 [l0, l1] st s = Ze d 19 19 [l0, l1] (aI 1 :: st) s := Ze_n (i := (.iconst 1)) (len := 1) (by decide +kernel) rfl
theorem x19_19 : Ze d 19 19 [l0, l1] (aI b :: aI a :: st) s = Ze d 19 20 [l0, l1] (aI (wrap (a + b)) :: st) s := Ze_n (i := .iadd) (len := 1) (by decide +kernel) rfl
theorem x19_20 (h : obC r = 0) (h6 : st.length ≤ 4) : Ze d 19 20 [l0, l1] (aI a1 :: aR r :: st) s = zcI (Zc d 6 [aR r, aI a1] s) d 19 23 [l0, l1] st := Ze_cvI (idx := 201) (len := 3) (as := [aI a1]) (by decide +kernel) rfl (by decide +kernel) rfl h h6
theorem x19_23 : Ze d 19 23 [l0, l1] st s = Ze d 19 25 [l0, l1] (aI 61 :: st) s := Ze_n (i := (.bipush 61)) (len := 2) (by decide +kernel) rfl
theorem x19_25 : Ze d 19 25 [l0, l1] (aI b :: aI a :: st) s = if a = b then Ze d 19 32 [l0, l1] st s else Ze d 19 28 [l0, l1] st s := Ze_b (i := (.if_icmp .eq 7)) (len := 3) (by decide +kernel) rfl
theorem x19_28 : Ze d 19 28 [l0, l1] st s = Ze d 19 29 [l0, l1] (aI 2 :: st) s := Ze_n (i := (.iconst 2)) (len := 1) (by decide +kernel) rfl
theorem x19_29 : Ze d 19 29 [l0, l1] st s = Ze d 19 59 [l0, l1] st s := Ze_n (i := (.goto 30)) (len := 3) (by decide +kernel) rfl
theorem x19_32 : Ze d 19 32 [l0, aI z] st s = Ze d 19 33 [l0, aI z] (aI z :: st) s := Ze_n (i := (.iload_n 1)) (len := 1) (by decide +kernel) rfl
theorem x19_33 : Ze d 19 33 [l0, l1] st s = Ze d 19 35 [l0, l1] (aI 33 :: st) s := Ze_n (i := (.bipush 33)) (len := 2) (by decide +kernel) rfl
theorem x19_35 : Ze d 19 35 [l0, l1] (aI b :: aI a :: st) s = if a = b then Ze d 19 44 [l0, l1] st s else Ze d 19 38 [l0, l1] st s := Ze_b (i := (.if_icmp .eq 9)) (len := 3) (by decide +kernel) rfl
theorem x19_38 : Ze d 19 38 [l0, aI z] st s = Ze d 19 39 [l0, aI z] (aI z :: st) s := Ze_n (i := (.iload_n 1)) (len := 1) (by decide +kernel) rfl
theorem x19_39 : Ze d 19 39 [l0, l1] st s = Ze d 19 41 [l0, l1] (aI 84 :: st) s := Ze_n (i := (.bipush 84)) (len := 2) (by decide +kernel) rfl
theorem x19_41 : Ze d 19 41 [l0, l1] (aI b :: aI a :: st) s = if a = b then Ze d 19 44 [l0, l1] st s else Ze d 19 48 [l0, l1] st s := Ze_b (i := (.if_icmp .ne 7)) (len := 3) (by decide +kernel) rfl
theorem x19_44 : Ze d 19 44 [l0, l1] st s = Ze d 19 45 [l0, l1] (aI 1 :: st) s := Ze_n (i := (.iconst 1)) (len := 1) (by decide +kernel) rfl
theorem x19_45 : Ze d 19 45 [l0, l1] st s = Ze d 19 59 [l0, l1] st s := Ze_n (i := (.goto 14)) (len := 3) (by decide +kernel) rfl
theorem x19_48 : Ze d 19 48 [l0, aI z] st s = Ze d 19 49 [l0, aI z] (aI z :: st) s := Ze_n (i := (.iload_n 1)) (len := 1) (by decide +kernel) rfl
theorem x19_49 : Ze d 19 49 [l0, l1] st s = Ze d 19 51 [l0, l1] (aI 77 :: st) s := Ze_n (i := (.bipush 77)) (len := 2) (by decide +kernel) rfl
theorem x19_51 : Ze d 19 51 [l0, l1] (aI b :: aI a :: st) s = if a = b then Ze d 19 54 [l0, l1] st s else Ze d 19 58 [l0, l1] st s := Ze_b (i := (.if_icmp .ne 7)) (len := 3) (by decide +kernel) rfl
theorem x19_54 : Ze d 19 54 [l0, l1] st s = Ze d 19 55 [l0, l1] (aI 3 :: st) s := Ze_n (i := (.iconst 3)) (len := 1) (by decide +kernel) rfl
theorem x19_55 : Ze d 19 55 [l0, l1] st s = Ze d 19 59 [l0, l1] st s := Ze_n (i := (.goto 4)) (len := 3) (by decide +kernel) rfl
theorem x19_58 : Ze d 19 58 [l0, l1] st s = Ze d 19 59 [l0, l1] (aI 0 :: st) s := Ze_n (i := (.iconst 0)) (len := 1) (by decide +kernel) rfl
theorem x19_59 : Ze d 19 59 [l0, l1] [aI z] s = rI z s := Ze_i1 (by decide +kernel) rfl
theorem en19 : Zc (d + 1) 19 [aR r, aI a1] s = Ze d 19 0 [aR r, aI a1] [] s := rfl
theorem x20_0 : Ze d 20 0 [l0, l1, aI z, l3] st s = Ze d 20 1 [l0, l1, aI z, l3] (aI z :: st) s := Ze_n (i := (.iload_n 2)) (len := 1) (by decide +kernel) rfl
theorem x20_1 : Ze d 20 1 [l0, l1, l2, l3] (aI a :: st) s = if a = 0 then Ze d 20 4 [l0, l1, l2, l3] st s else Ze d 20 14 [l0, l1, l2, l3] st s := Ze_b (i := (.ifCond .ne 13)) (len := 3) (by decide +kernel) rfl
theorem x20_4 : Ze d 20 4 [aR r, l1, l2, l3] st s = Ze d 20 5 [aR r, l1, l2, l3] (aR r :: st) s := Ze_n (i := (.aload_n 0)) (len := 1) (by decide +kernel) rfl
theorem x20_5 (h : obC r = 0) : Ze d 20 5 [l0, l1, l2, l3] (aR r :: st) s = Ze d 20 8 [l0, l1, l2, l3] (aR (fcn r 22) :: st) s := Ze_gf (len := 3) (idx := 56) (by decide +kernel) rfl h rfl
theorem x20_8 : Ze d 20 8 [l0, aI z, l2, l3] st s = Ze d 20 9 [l0, aI z, l2, l3] (aI z :: st) s := Ze_n (i := (.iload_n 1)) (len := 1) (by decide +kernel) rfl
theorem x20_9 : Ze d 20 9 [l0, l1, l2, aI z] st s = Ze d 20 10 [l0, l1, l2, aI z] (aI z :: st) s := Ze_n (i := (.iload_n 3)) (len := 1) (by decide +kernel) rfl
theorem x20_10 (h0 : 0 ≤ i) (h1 : i < aN1 r) : Ze d 20 10 [l0, l1, l2, l3] (aI z :: aI i :: aR r :: st) s = Ze d 20 11 [l0, l1, l2, l3] st (mu s r i.toNat z) := Ze_n (i := .iastore) (len := 1) (by decide +kernel) (if_pos ⟨h0, h1⟩)
theorem x20_11 : Ze d 20 11 [l0, l1, l2, l3] st s = Ze d 20 36 [l0, l1, l2, l3] st s := Ze_n (i := (.goto 25)) (len := 3) (by decide +kernel) rfl
theorem x20_14 : Ze d 20 14 [l0, l1, aI z, l3] st s = Ze d 20 15 [l0, l1, aI z, l3] (aI z :: st) s := Ze_n (i := (.iload_n 2)) (len := 1) (by decide +kernel) rfl
theorem x20_15 : Ze d 20 15 [l0, l1, l2, l3] st s = Ze d 20 16 [l0, l1, l2, l3] (aI 1 :: st) s := Ze_n (i := (.iconst 1)) (len := 1) (by decide +kernel) rfl
theorem x20_16 : Ze d 20 16 [l0, l1, l2, l3] (aI b :: aI a :: st) s = if a = b then Ze d 20 19 [l0, l1, l2, l3] st s else Ze d 20 29 [l0, l1, l2, l3] st s := Ze_b (i := (.if_icmp .ne 13)) (len := 3) (by decide +kernel) rfl
theorem x20_19 : Ze d 20 19 [aR r, l1, l2, l3] st s = Ze d 20 20 [aR r, l1, l2, l3] (aR r :: st) s := Ze_n (i := (.aload_n 0)) (len := 1) (by decide +kernel) rfl
theorem x20_20 (h : obC r = 0) : Ze d 20 20 [l0, l1, l2, l3] (aR r :: st) s = Ze d 20 23 [l0, l1, l2, l3] (aR (fcn r 23) :: st) s := Ze_gf (len := 3) (idx := 59) (by decide +kernel) rfl h rfl
theorem x20_23 : Ze d 20 23 [l0, aI z, l2, l3] st s = Ze d 20 24 [l0, aI z, l2, l3] (aI z :: st) s := Ze_n (i := (.iload_n 1)) (len := 1) (by decide +kernel) rfl
theorem x20_24 : Ze d 20 24 [l0, l1, l2, aI z] st s = Ze d 20 25 [l0, l1, l2, aI z] (aI z :: st) s := Ze_n (i := (.iload_n 3)) (len := 1) (by decide +kernel) rfl
theorem x20_25 (h0 : 0 ≤ i) (h1 : i < aN1 r) : Ze d 20 25 [l0, l1, l2, l3] (aI z :: aI i :: aR r :: st) s = Ze d 20 26 [l0, l1, l2, l3] st (mu s r i.toNat z) := Ze_n (i := .iastore) (len := 1) (by decide +kernel) (if_pos ⟨h0, h1⟩)
theorem x20_26 : Ze d 20 26 [l0, l1, l2, l3] st s = Ze d 20 36 [l0, l1, l2, l3] st s := Ze_n (i := (.goto 10)) (len := 3) (by decide +kernel) rfl
theorem x20_29 : Ze d 20 29 [aR r, l1, l2, l3] st s = Ze d 20 30 [aR r, l1, l2, l3] (aR r :: st) s := Ze_n (i := (.aload_n 0)) (len := 1) (by decide +kernel) rfl
theorem x20_30 (h : obC r = 0) : Ze d 20 30 [l0, l1, l2, l3] (aR r :: st) s = Ze d 20 33 [l0, l1, l2, l3] (aR (fcn r 24) :: st) s := Ze_gf (len := 3) (idx := 62) (by decide +kernel) rfl h rfl
theorem x20_33 : Ze d 20 33 [l0, aI z, l2, l3] st s = Ze d 20 34 [l0, aI z, l2, l3] (aI z :: st) s := Ze_n (i := (.iload_n 1)) (len := 1) (by decide +kernel) rfl
theorem x20_34 : Ze d 20 34 [l0, l1, l2, aI z] st s = Ze d 20 35 [l0, l1, l2, aI z] (aI z :: st) s := Ze_n (i := (.iload_n 3)) (len := 1) (by decide +kernel) rfl
theorem x20_35 (h0 : 0 ≤ i) (h1 : i < aN1 r) : Ze d 20 35 [l0, l1, l2, l3] (aI z :: aI i :: aR r :: st) s = Ze d 20 36 [l0, l1, l2, l3] st (mu s r i.toNat z) := Ze_n (i := .iastore) (len := 1) (by decide +kernel) (if_pos ⟨h0, h1⟩)
theorem x20_36 : Ze d 20 36 [l0, l1, l2, l3] [] s = rV s := Ze_v (by decide +kernel) rfl
theorem en20 : Zc (d + 1) 20 [aR r, aI a1, aI a2, aI a3] s = Ze d 20 0 [aR r, aI a1, aI a2, aI a3] [] s := rfl
theorem x21_0 : Ze d 21 0 [aR r, l1, l2, l3] st s = Ze d 21 1 [aR r, l1, l2, l3] (aR r :: st) s := Ze_n (i := (.aload_n 0)) (len := 1) (by decide +kernel) rfl
theorem x21_1 : Ze d 21 1 [l0, l1, l2, l3] st s = Ze d 21 3 [l0, l1, l2, l3] (aI 44 :: st) s := Ze_n (i := (.bipush 44)) (len := 2) (by decide +kernel) rfl
theorem x21_3 (h : obC r = 0) (h6 : st.length ≤ 4) : Ze d 21 3 [l0, l1, l2, l3] (aI a1 :: aR r :: st) s = zcV (Zc d 8 [aR r, aI a1] s) d 21 6 [l0, l1, l2, l3] st := Ze_cvV (idx := 229) (len := 3) (as := [aI a1]) (by decide +kernel) rfl (by decide +kernel) rfl h h6
theorem x21_6 : Ze d 21 6 [aR r, l1, l2, l3] st s = Ze d 21 7 [aR r, l1, l2, l3] (aR r :: st) s := Ze_n (i := (.aload_n 0)) (len := 1) (by decide +kernel) rfl
theorem x21_7 (h : obC r = 0) : Ze d 21 7 [l0, l1, l2, l3] (aR r :: st) s = Ze d 21 10 [l0, l1, l2, l3] (aR (fcn r 21) :: st) s := Ze_gf (len := 3) (idx := 53) (by decide +kernel) rfl h rfl
theorem x21_10 : Ze d 21 10 [l0, aI z, l2, l3] st s = Ze d 21 11 [l0, aI z, l2, l3] (aI z :: st) s := Ze_n (i := (.iload_n 1)) (len := 1) (by decide +kernel) rfl
theorem x21_11 : Ze d 21 11 [aR r, l1, l2, l3] st s = Ze d 21 12 [aR r, l1, l2, l3] (aR r :: st) s := Ze_n (i := (.aload_n 0)) (len := 1) (by decide +kernel) rfl
theorem x21_12 (h : obC r = 0) : Ze d 21 12 [l0, l1, l2, l3] (aR r :: st) s = Ze d 21 15 [l0, l1, l2, l3] (aI (s r 5) :: st) s := Ze_gf (len := 3) (idx := 194) (by decide +kernel) rfl h rfl
theorem x21_15 : Ze d 21 15 [l0, l1, l2, l3] (aI a :: st) s = if a = 0 then Ze d 21 22 [l0, l1, l2, l3] st s else Ze d 21 18 [l0, l1, l2, l3] st s := Ze_b (i := (.ifCond .eq 7)) (len := 3) (by decide +kernel) rfl
theorem x21_18 : Ze d 21 18 [l0, l1, l2, l3] st s = Ze d 21 19 [l0, l1, l2, l3] (aI 0 :: st) s := Ze_n (i := (.iconst 0)) (len := 1) (by decide +kernel) rfl
theorem x21_19 : Ze d 21 19 [l0, l1, l2, l3] st s = Ze d 21 29 [l0, l1, l2, l3] st s := Ze_n (i := (.goto 10)) (len := 3) (by decide +kernel) rfl
theorem x21_22 : Ze d 21 22 [aR r, l1, l2, l3] st s = Ze d 21 23 [aR r, l1, l2, l3] (aR r :: st) s := Ze_n (i := (.aload_n 0)) (len := 1) (by decide +kernel) rfl
theorem x21_23 : Ze d 21 23 [l0, l1, l2, l3] st s = Ze d 21 24 [l0, l1, l2, l3] (aI 0 :: st) s := Ze_n (i := (.iconst 0)) (len := 1) (by decide +kernel) rfl
theorem x21_24 : Ze d 21 24 [l0, l1, l2, l3] st s = Ze d 21 26 [l0, l1, l2, l3] (aI 15 :: st) s := Ze_n (i := (.bipush 15)) (len := 2) (by decide +kernel) rfl
theorem x21_26 (h : obC r = 0) (h6 : st.length ≤ 4) : Ze d 21 26 [l0, l1, l2, l3] (aI a2 :: aI a1 :: aR r :: st) s = zcI (Zc d 12 [aR r, aI a1, aI a2] s) d 21 29 [l0, l1, l2, l3] st := Ze_cvI (idx := 235) (len := 3) (as := [aI a1, aI a2]) (by decide +kernel) rfl (by decide +kernel) rfl h h6
theorem x21_29 (h0 : 0 ≤ i) (h1 : i < aN1 r) : Ze d 21 29 [l0, l1, l2, l3] (aI z :: aI i :: aR r :: st) s = Ze d 21 30 [l0, l1, l2, l3] st (mu s r i.toNat z) := Ze_n (i := .iastore) (len := 1) (by decide +kernel) (if_pos ⟨h0, h1⟩)
theorem x21_30 : Ze d 21 30 [aR r, l1, l2, l3] st s = Ze d 21 31 [aR r, l1, l2, l3] (aR r :: st) s := Ze_n (i := (.aload_n 0)) (len := 1) (by decide +kernel) rfl
theorem x21_31 (h : obC r = 0) : Ze d 21 31 [l0, l1, l2, l3] (aR r :: st) s = Ze d 21 34 [l0, l1, l2, l3] (aI (s r 5) :: st) s := Ze_gf (len := 3) (idx := 194) (by decide +kernel) rfl h rfl
theorem x21_34 : Ze d 21 34 [l0, l1, l2, l3] (aI a :: st) s = if a = 0 then Ze d 21 37 [l0, l1, l2, l3] st s else Ze d 21 43 [l0, l1, l2, l3] st s := Ze_b (i := (.ifCond .ne 9)) (len := 3) (by decide +kernel) rfl
theorem x21_37 : Ze d 21 37 [aR r, l1, l2, l3] st s = Ze d 21 38 [aR r, l1, l2, l3] (aR r :: st) s := Ze_n (i := (.aload_n 0)) (len := 1) (by decide +kernel) rfl
theorem x21_38 : Ze d 21 38 [l0, l1, l2, l3] st s = Ze d 21 40 [l0, l1, l2, l3] (aI 44 :: st) s := Ze_n (i := (.bipush 44)) (len := 2) (by decide +kernel) rfl
theorem x21_40 (h : obC r = 0) (h6 : st.length ≤ 4) : Ze d 21 40 [l0, l1, l2, l3] (aI a1 :: aR r :: st) s = zcV (Zc d 8 [aR r, aI a1] s) d 21 43 [l0, l1, l2, l3] st := Ze_cvV (idx := 229) (len := 3) (as := [aI a1]) (by decide +kernel) rfl (by decide +kernel) rfl h h6
theorem x21_43 : Ze d 21 43 [aR r, l1, l2, l3] st s = Ze d 21 44 [aR r, l1, l2, l3] (aR r :: st) s := Ze_n (i := (.aload_n 0)) (len := 1) (by decide +kernel) rfl
theorem x21_44 (h : obC r = 0) : Ze d 21 44 [l0, l1, l2, l3] (aR r :: st) s = Ze d 21 47 [l0, l1, l2, l3] (aI (s r 5) :: st) s := Ze_gf (len := 3) (idx := 194) (by decide +kernel) rfl h rfl
theorem x21_47 : Ze d 21 47 [l0, l1, l2, l3] (aI a :: st) s = if a = 0 then Ze d 21 51 [l0, l1, l2, l3] st s else Ze d 21 50 [l0, l1, l2, l3] st s := Ze_b (i := (.ifCond .eq 4)) (len := 3) (by decide +kernel) rfl
theorem x21_50 : Ze d 21 50 [l0, l1, l2, l3] [] s = rV s := Ze_v (by decide +kernel) rfl
theorem x21_51 : Ze d 21 51 [aR r, l1, l2, l3] st s = Ze d 21 52 [aR r, l1, l2, l3] (aR r :: st) s := Ze_n (i := (.aload_n 0)) (len := 1) (by decide +kernel) rfl
theorem x21_52 (h : obC r = 0) (h6 : st.length ≤ 4) : Ze d 21 52 [l0, l1, l2, l3] (aR r :: st) s = zcI (Zc d 7 [aR r] s) d 21 55 [l0, l1, l2, l3] st := Ze_cvI (idx := 204) (len := 3) (as := []) (by decide +kernel) rfl (by decide +kernel) rfl h h6
theorem x21_55 : Ze d 21 55 [l0, l1, l2, l3] (aI z :: st) s = Ze d 21 56 [l0, l1, aI z, l3] st s := Ze_n (i := (.istore_n 2)) (len := 1) (by decide +kernel) rfl
theorem x21_56 : Ze d 21 56 [aR r, l1, l2, l3] st s = Ze d 21 57 [aR r, l1, l2, l3] (aR r :: st) s := Ze_n (i := (.aload_n 0)) (len := 1) (by decide +kernel) rfl
theorem x21_57 (h : obC r = 0) : Ze d 21 57 [l0, l1, l2, l3] (aR r :: st) s = Ze d 21 60 [l0, l1, l2, l3] (aI (s r 2) :: st) s := Ze_gf (len := 3) (idx := 198) (by decide +kernel) rfl h rfl
theorem x21_60 : Ze d 21 60 [l0, l1, l2, l3] (aI z :: st) s = Ze d 21 61 [l0, l1, l2, aI z] st s := Ze_n (i := (.istore_n 3)) (len := 1) (by decide +kernel) rfl
theorem x21_61 : Ze d 21 61 [aR r, l1, l2, l3] st s = Ze d 21 62 [aR r, l1, l2, l3] (aR r :: st) s := Ze_n (i := (.aload_n 0)) (len := 1) (by decide +kernel) rfl
theorem x21_62 (h : obC r = 0) : Ze d 21 62 [l0, l1, l2, l3] (aR r :: st) s = Ze d 21 65 [l0, l1, l2, l3] (aR (fcn r 20) :: st) s := Ze_gf (len := 3) (idx := 50) (by decide +kernel) rfl h rfl
theorem x21_65 : Ze d 21 65 [l0, aI z, l2, l3] st s = Ze d 21 66 [l0, aI z, l2, l3] (aI z :: st) s := Ze_n (i := (.iload_n 1)) (len := 1) (by decide +kernel) rfl
theorem x21_66 : Ze d 21 66 [aR r, l1, l2, l3] st s = Ze d 21 67 [aR r, l1, l2, l3] (aR r :: st) s := Ze_n (i := (.aload_n 0)) (len := 1) (by decide +kernel) rfl
theorem x21_67 : Ze d 21 67 [l0, l1, l2, l3] st s = Ze d 21 68 [l0, l1, l2, l3] (aI 0 :: st) s := Ze_n (i := (.iconst 0)) (len := 1) (by decide +kernel) rfl
theorem x21_68 : Ze d 21 68 [l0, l1, l2, l3] st s = Ze d 21 70 [l0, l1, l2, l3] (aI 15 :: st) s := Ze_n (i := (.bipush 15)) (len := 2) (by decide +kernel) rfl
theorem x21_70 (h : obC r = 0) (h6 : st.length ≤ 4) : Ze d 21 70 [l0, l1, l2, l3] (aI a2 :: aI a1 :: aR r :: st) s = zcI (Zc d 12 [aR r, aI a1, aI a2] s) d 21 73 [l0, l1, l2, l3] st := Ze_cvI (idx := 235) (len := 3) (as := [aI a1, aI a2]) (by decide +kernel) rfl (by decide +kernel) rfl h h6
theorem x21_73 (h0 : 0 ≤ i) (h1 : i < aN1 r) : Ze d 21 73 [l0, l1, l2, l3] (aI z :: aI i :: aR r :: st) s = Ze d 21 74 [l0, l1, l2, l3] st (mu s r i.toNat z) := Ze_n (i := .iastore) (len := 1) (by decide +kernel) (if_pos ⟨h0, h1⟩)
theorem x21_74 : Ze d 21 74 [l0, l1, aI z, l3] st s = Ze d 21 75 [l0, l1, aI z, l3] (aI z :: st) s := Ze_n (i := (.iload_n 2)) (len := 1) (by decide +kernel) rfl
theorem x21_75 : Ze d 21 75 [l0, l1, l2, l3] (aI a :: st) s = if a < 0 then Ze d 21 105 [l0, l1, l2, l3] st s else Ze d 21 78 [l0, l1, l2, l3] st s := Ze_b (i := (.ifCond .lt 30)) (len := 3) (by decide +kernel) rfl
theorem x21_78 : Ze d 21 78 [aR r, l1, l2, l3] st s = Ze d 21 79 [aR r, l1, l2, l3] (aR r :: st) s := Ze_n (i := (.aload_n 0)) (len := 1) (by decide +kernel) rfl
theorem x21_79 (h : obC r = 0) : Ze d 21 79 [l0, l1, l2, l3] (aR r :: st) s = Ze d 21 82 [l0, l1, l2, l3] (aI (s r 5) :: st) s := Ze_gf (len := 3) (idx := 194) (by decide +kernel) rfl h rfl
theorem x21_82 : Ze d 21 82 [l0, l1, l2, l3] (aI a :: st) s = if a = 0 then Ze d 21 85 [l0, l1, l2, l3] st s else Ze d 21 105 [l0, l1, l2, l3] st s := Ze_b (i := (.ifCond .ne 23)) (len := 3) (by decide +kernel) rfl
theorem x21_85 : Ze d 21 85 [aR r, l1, l2, l3] st s = Ze d 21 86 [aR r, l1, l2, l3] (aR r :: st) s := Ze_n (i := (.aload_n 0)) (len := 1) (by decide +kernel) rfl
theorem x21_86 (h : obC r = 0) : Ze d 21 86 [l0, l1, l2, l3] (aR r :: st) s = Ze d 21 89 [l0, l1, l2, l3] (aR (fcn r 20) :: st) s := Ze_gf (len := 3) (idx := 50) (by decide +kernel) rfl h rfl
theorem x21_89 : Ze d 21 89 [l0, aI z, l2, l3] st s = Ze d 21 90 [l0, aI z, l2, l3] (aI z :: st) s := Ze_n (i := (.iload_n 1)) (len := 1) (by decide +kernel) rfl
theorem x21_90 (h0 : 0 ≤ i) (h1 : i < aN1 r) : Ze d 21 90 [l0, l1, l2, l3] (aI i :: aR r :: st) s = Ze d 21 91 [l0, l1, l2, l3] (aI (s r i.toNat) :: st) s := Ze_n (i := .iaload) (len := 1) (by decide +kernel) (if_pos ⟨h0, h1⟩)
theorem x21_91 : Ze d 21 91 [aR r, l1, l2, l3] st s = Ze d 21 92 [aR r, l1, l2, l3] (aR r :: st) s := Ze_n (i := (.aload_n 0)) (len := 1) (by decide +kernel) rfl
theorem x21_92 (h : obC r = 0) : Ze d 21 92 [l0, l1, l2, l3] (aR r :: st) s = Ze d 21 95 [l0, l1, l2, l3] (aR (fcn r 21) :: st) s := Ze_gf (len := 3) (idx := 53) (by decide +kernel) rfl h rfl
theorem x21_95 : Ze d 21 95 [l0, aI z, l2, l3] st s = Ze d 21 96 [l0, aI z, l2, l3] (aI z :: st) s := Ze_n (i := (.iload_n 1)) (len := 1) (by decide +kernel) rfl
theorem x21_96 (h0 : 0 ≤ i) (h1 : i < aN1 r) : Ze d 21 96 [l0, l1, l2, l3] (aI i :: aR r :: st) s = Ze d 21 97 [l0, l1, l2, l3] (aI (s r i.toNat) :: st) s := Ze_n (i := .iaload) (len := 1) (by decide +kernel) (if_pos ⟨h0, h1⟩)
theorem x21_97 : Ze d 21 97 [l0, l1, l2, l3] (aI b :: aI a :: st) s = if b < a then Ze d 21 100 [l0, l1, l2, l3] st s else Ze d 21 105 [l0, l1, l2, l3] st s := Ze_b (i := (.if_icmp .le 8)) (len := 3) (by decide +kernel) rfl
theorem x21_100 : Ze d 21 100 [aR r, l1, l2, l3] st s = Ze d 21 101 [aR r, l1, l2, l3] (aR r :: st) s := Ze_n (i := (.aload_n 0)) (len := 1) (by decide +kernel) rfl
theorem x21_101 : Ze d 21 101 [l0, l1, l2, aI z] st s = Ze d 21 102 [l0, l1, l2, aI z] (aI z :: st) s := Ze_n (i := (.iload_n 3)) (len := 1) (by decide +kernel) rfl
theorem x21_102 (h : obC r = 0) (h6 : st.length ≤ 4) : Ze d 21 102 [l0, l1, l2, l3] (aI a1 :: aR r :: st) s = zcV (Zc d 5 [aR r, aI a1] s) d 21 105 [l0, l1, l2, l3] st := Ze_cvV (idx := 208) (len := 3) (as := [aI a1]) (by decide +kernel) rfl (by decide +kernel) rfl h h6
theorem x21_105 : Ze d 21 105 [l0, l1, l2, l3] [] s = rV s := Ze_v (by decide +kernel) rfl
theorem en21 : Zc (d + 1) 21 [aR r, aI a1] s = Ze d 21 0 [aR r, aI a1, aU, aU] [] s := rfl
theorem x22_0 : Ze d 22 0 [l0, l1, l2, l3, l4, l5, l6] st s = Ze d 22 1 [l0, l1, l2, l3, l4, l5, l6] (aI 0 :: st) s := Ze_n (i := (.iconst 0)) (len := 1) (by decide +kernel) rfl
theorem x22_1 : Ze d 22 1 [l0, l1, l2, l3, l4, l5, l6] (aI z :: st) s = Ze d 22 2 [l0, aI z, l2, l3, l4, l5, l6] st s := Ze_n (i := (.istore_n 1)) (len := 1) (by decide +kernel) rfl
theorem x22_2 : Ze d 22 2 [l0, l1, l2, l3, l4, l5, l6] st s = Ze d 22 3 [l0, l1, l2, l3, l4, l5, l6] (aI (-1) :: st) s := Ze_n (i := (.iconst (-1))) (len := 1) (by decide +kernel) rfl
theorem x22_3 : Ze d 22 3 [l0, l1, l2, l3, l4, l5, l6] (aI z :: st) s = Ze d 22 4 [l0, l1, aI z, l3, l4, l5, l6] st s := Ze_n (i := (.istore_n 2)) (len := 1) (by decide +kernel) rfl
theorem x22_4 : Ze d 22 4 [aR r, l1, l2, l3, l4, l5, l6] st s = Ze d 22 5 [aR r, l1, l2, l3, l4, l5, l6] (aR r :: st) s := Ze_n (i := (.aload_n 0)) (len := 1) (by decide +kernel) rfl
theorem x22_5 (h : obC r = 0) : Ze d 22 5 [l0, l1, l2, l3, l4, l5, l6] (aR r :: st) s = Ze d 22 8 [l0, l1, l2, l3, l4, l5, l6] (aI (s r 32) :: st) s := Ze_gf (len := 3) (idx := 246) (by decide +kernel) rfl h rfl
theorem x22_8 : Ze d 22 8 [l0, l1, l2, l3, l4, l5, l6] (aI z :: st) s = Ze d 22 9 [l0, l1, l2, aI z, l4, l5, l6] st s := Ze_n (i := (.istore_n 3)) (len := 1) (by decide +kernel) rfl
theorem x22_9 : Ze d 22 9 [aR r, l1, l2, l3, l4, l5, l6] st s = Ze d 22 10 [aR r, l1, l2, l3, l4, l5, l6] (aR r :: st) s := Ze_n (i := (.aload_n 0)) (len := 1) (by decide +kernel) rfl
theorem x22_10 (h : obC r = 0) : Ze d 22 10 [l0, l1, l2, l3, l4, l5, l6] (aR r :: st) s = Ze d 22 13 [l0, l1, l2, l3, l4, l5, l6] (aI (s r 5) :: st) s := Ze_gf (len := 3) (idx := 194) (by decide +kernel) rfl h rfl
theorem x22_13 : Ze d 22 13 [l0, l1, l2, l3, l4, l5, l6] (aI a :: st) s = if a = 0 then Ze d 22 16 [l0, l1, l2, l3, l4, l5, l6] st s else Ze d 22 332 [l0, l1, l2, l3, l4, l5, l6] st s := Ze_b (i := (.ifCond .ne 319)) (len := 3) (by decide +kernel) rfl
theorem x22_16 : Ze d 22 16 [l0, l1, aI z, l3, l4, l5, l6] st s = Ze d 22 17 [l0, l1, aI z, l3, l4, l5, l6] (aI z :: st) s := Ze_n (i := (.iload_n 2)) (len := 1) (by decide +kernel) rfl
theorem x22_17 : Ze d 22 17 [l0, l1, l2, l3, l4, l5, l6] (aI a :: st) s = if a < 0 then Ze d 22 20 [l0, l1, l2, l3, l4, l5, l6] st s else Ze d 22 170 [l0, l1, l2, l3, l4, l5, l6] st s := Ze_b (i := (.ifCond .ge 153)) (len := 3) (by decide +kernel) rfl
theorem x22_20 : Ze d 22 20 [aR r, l1, l2, l3, l4, l5, l6] st s = Ze d 22 21 [aR r, l1, l2, l3, l4, l5, l6] (aR r :: st) s := Ze_n (i := (.aload_n 0)) (len := 1) (by decide +kernel) rfl
theorem x22_21 (h : obC r = 0) (h6 : st.length ≤ 4) : Ze d 22 21 [l0, l1, l2, l3, l4, l5, l6] (aR r :: st) s = zcI (Zc d 7 [aR r] s) d 22 24 [l0, l1, l2, l3, l4, l5, l6] st := Ze_cvI (idx := 204) (len := 3) (as := []) (by decide +kernel) rfl (by decide +kernel) rfl h h6
theorem x22_24 : Ze d 22 24 [l0, l1, l2, l3, l4, l5, l6] (aI z :: st) s = Ze d 22 26 [l0, l1, l2, l3, aI z, l5, l6] st s := Ze_n (i := (.istore 4)) (len := 2) (by decide +kernel) rfl
theorem x22_26 : Ze d 22 26 [aR r, l1, l2, l3, l4, l5, l6] st s = Ze d 22 27 [aR r, l1, l2, l3, l4, l5, l6] (aR r :: st) s := Ze_n (i := (.aload_n 0)) (len := 1) (by decide +kernel) rfl
theorem x22_27 : Ze d 22 27 [l0, l1, l2, l3, aI z, l5, l6] st s = Ze d 22 29 [l0, l1, l2, l3, aI z, l5, l6] (aI z :: st) s := Ze_n (i := (.iload 4)) (len := 2) (by decide +kernel) rfl
theorem x22_29 (h : obC r = 0) (h6 : st.length ≤ 4) : Ze d 22 29 [l0, l1, l2, l3, l4, l5, l6] (aI a1 :: aR r :: st) s = zcI (Zc d 19 [aR r, aI a1] s) d 22 32 [l0, l1, l2, l3, l4, l5, l6] st := Ze_cvI (idx := 255) (len := 3) (as := [aI a1]) (by decide +kernel) rfl (by decide +kernel) rfl h h6
theorem x22_32 : Ze d 22 32 [l0, l1, l2, l3, l4, l5, l6] (aI z :: st) s = Ze d 22 34 [l0, l1, l2, l3, l4, aI z, l6] st s := Ze_n (i := (.istore 5)) (len := 2) (by decide +kernel) rfl
theorem x22_34 : Ze d 22 34 [l0, aI z, l2, l3, l4, l5, l6] st s = Ze d 22 35 [l0, aI z, l2, l3, l4, l5, l6] (aI z :: st) s := Ze_n (i := (.iload_n 1)) (len := 1) (by decide +kernel) rfl
theorem x22_35 : Ze d 22 35 [l0, l1, l2, l3, l4, l5, l6] st s = Ze d 22 37 [l0, l1, l2, l3, l4, l5, l6] (aI 6 :: st) s := Ze_n (i := (.bipush 6)) (len := 2) (by decide +kernel) rfl
theorem x22_37 : Ze d 22 37 [l0, l1, l2, l3, l4, l5, l6] (aI b :: aI a :: st) s = if a = b then Ze d 22 40 [l0, l1, l2, l3, l4, l5, l6] st s else Ze d 22 51 [l0, l1, l2, l3, l4, l5, l6] st s := Ze_b (i := (.if_icmp .ne 14)) (len := 3) (by decide +kernel) rfl
theorem x22_40 : Ze d 22 40 [aR r, l1, l2, l3, l4, l5, l6] st s = Ze d 22 41 [aR r, l1, l2, l3, l4, l5, l6] (aR r :: st) s := Ze_n (i := (.aload_n 0)) (len := 1) (by decide +kernel) rfl
theorem x22_41 : Ze d 22 41 [aR r, l1, l2, l3, l4, l5, l6] st s = Ze d 22 42 [aR r, l1, l2, l3, l4, l5, l6] (aR r :: st) s := Ze_n (i := (.aload_n 0)) (len := 1) (by decide +kernel) rfl
theorem x22_42 (h : obC r = 0) : Ze d 22 42 [l0, l1, l2, l3, l4, l5, l6] (aR r :: st) s = Ze d 22 45 [l0, l1, l2, l3, l4, l5, l6] (aI (s r 2) :: st) s := Ze_gf (len := 3) (idx := 198) (by decide +kernel) rfl h rfl
theorem x22_45 (h : obC r = 0) (h6 : st.length ≤ 4) : Ze d 22 45 [l0, l1, l2, l3, l4, l5, l6] (aI a1 :: aR r :: st) s = zcV (Zc d 5 [aR r, aI a1] s) d 22 48 [l0, l1, l2, l3, l4, l5, l6] st := Ze_cvV (idx := 208) (len := 3) (as := [aI a1]) (by decide +kernel) rfl (by decide +kernel) rfl h h6
theorem x22_48 : Ze d 22 48 [l0, l1, l2, l3, l4, l5, l6] st s = Ze d 22 9 [l0, l1, l2, l3, l4, l5, l6] st s := Ze_n (i := (.goto (-39))) (len := 3) (by decide +kernel) rfl
theorem x22_51 : Ze d 22 51 [l0, l1, l2, l3, aI z, l5, l6] st s = Ze d 22 53 [l0, l1, l2, l3, aI z, l5, l6] (aI z :: st) s := Ze_n (i := (.iload 4)) (len := 2) (by decide +kernel) rfl
theorem x22_53 (h6 : st.length ≤ 4) : Ze d 22 53 [l0, l1, l2, l3, l4, l5, l6] (aI a0 :: st) s = zcI (Zc d 10 [aI a0] s) d 22 56 [l0, l1, l2, l3, l4, l5, l6] st := Ze_csI (idx := 212) (len := 3) (as := [aI a0]) (by decide +kernel) rfl rfl (by decide +kernel) rfl h6
theorem x22_56 : Ze d 22 56 [l0, l1, l2, l3, l4, l5, l6] (aI a :: st) s = if a = 0 then Ze d 22 67 [l0, l1, l2, l3, l4, l5, l6] st s else Ze d 22 59 [l0, l1, l2, l3, l4, l5, l6] st s := Ze_b (i := (.ifCond .eq 11)) (len := 3) (by decide +kernel) rfl
theorem x22_59 : Ze d 22 59 [aR r, l1, l2, l3, l4, l5, l6] st s = Ze d 22 60 [aR r, l1, l2, l3, l4, l5, l6] (aR r :: st) s := Ze_n (i := (.aload_n 0)) (len := 1) (by decide +kernel) rfl
theorem x22_60 (h : obC r = 0) (h6 : st.length ≤ 4) : Ze d 22 60 [l0, l1, l2, l3, l4, l5, l6] (aR r :: st) s = zcI (Zc d 17 [aR r] s) d 22 63 [l0, l1, l2, l3, l4, l5, l6] st := Ze_cvI (idx := 258) (len := 3) (as := []) (by decide +kernel) rfl (by decide +kernel) rfl h h6
theorem x22_63 : Ze d 22 63 [l0, l1, l2, l3, l4, l5, l6] (aI z :: st) s = Ze d 22 64 [l0, l1, aI z, l3, l4, l5, l6] st s := Ze_n (i := (.istore_n 2)) (len := 1) (by decide +kernel) rfl
theorem x22_64 : Ze d 22 64 [l0, l1, l2, l3, l4, l5, l6] st s = Ze d 22 9 [l0, l1, l2, l3, l4, l5, l6] st s := Ze_n (i := (.goto (-55))) (len := 3) (by decide +kernel) rfl
theorem x22_67 : Ze d 22 67 [l0, l1, l2, l3, aI z, l5, l6] st s = Ze d 22 69 [l0, l1, l2, l3, aI z, l5, l6] (aI z :: st) s := Ze_n (i := (.iload 4)) (len := 2) (by decide +kernel) rfl
theorem x22_69 (h6 : st.length ≤ 4) : Ze d 22 69 [l0, l1, l2, l3, l4, l5, l6] (aI a0 :: st) s = zcI (Zc d 9 [aI a0] s) d 22 72 [l0, l1, l2, l3, l4, l5, l6] st := Ze_csI (idx := 216) (len := 3) (as := [aI a0]) (by decide +kernel) rfl rfl (by decide +kernel) rfl h6
theorem x22_72 : Ze d 22 72 [l0, l1, l2, l3, l4, l5, l6] (aI a :: st) s = if a = 0 then Ze d 22 113 [l0, l1, l2, l3, l4, l5, l6] st s else Ze d 22 75 [l0, l1, l2, l3, l4, l5, l6] st s := Ze_b (i := (.ifCond .eq 41)) (len := 3) (by decide +kernel) rfl
theorem x22_75 : Ze d 22 75 [aR r, l1, l2, l3, l4, l5, l6] st s = Ze d 22 76 [aR r, l1, l2, l3, l4, l5, l6] (aR r :: st) s := Ze_n (i := (.aload_n 0)) (len := 1) (by decide +kernel) rfl
theorem x22_76 : Ze d 22 76 [l0, l1, l2, l3, l4, l5, l6] st s = Ze d 22 77 [l0, l1, l2, l3, l4, l5, l6] (aI 1 :: st) s := Ze_n (i := (.iconst 1)) (len := 1) (by decide +kernel) rfl
theorem x22_77 (h : obC r = 0) (h6 : st.length ≤ 4) : Ze d 22 77 [l0, l1, l2, l3, l4, l5, l6] (aI a1 :: aR r :: st) s = zcI (Zc d 16 [aR r, aI a1] s) d 22 80 [l0, l1, l2, l3, l4, l5, l6] st := Ze_cvI (idx := 249) (len := 3) (as := [aI a1]) (by decide +kernel) rfl (by decide +kernel) rfl h h6
theorem x22_80 : Ze d 22 80 [l0, l1, l2, l3, l4, l5, l6] (aI z :: st) s = Ze d 22 82 [l0, l1, l2, l3, l4, l5, aI z] st s := Ze_n (i := (.istore 6)) (len := 2) (by decide +kernel) rfl
theorem x22_82 : Ze d 22 82 [aR r, l1, l2, l3, l4, l5, l6] st s = Ze d 22 83 [aR r, l1, l2, l3, l4, l5, l6] (aR r :: st) s := Ze_n (i := (.aload_n 0)) (len := 1) (by decide +kernel) rfl
theorem x22_83 (h : obC r = 0) : Ze d 22 83 [l0, l1, l2, l3, l4, l5, l6] (aR r :: st) s = Ze d 22 86 [l0, l1, l2, l3, l4, l5, l6] (aR (fcn r 20) :: st) s := Ze_gf (len := 3) (idx := 50) (by decide +kernel) rfl h rfl
theorem x22_86 : Ze d 22 86 [l0, l1, l2, l3, l4, l5, aI z] st s = Ze d 22 88 [l0, l1, l2, l3, l4, l5, aI z] (aI z :: st) s := Ze_n (i := (.iload 6)) (len := 2) (by decide +kernel) rfl
theorem x22_88 : Ze d 22 88 [aR r, l1, l2, l3, l4, l5, l6] st s = Ze d 22 89 [aR r, l1, l2, l3, l4, l5, l6] (aR r :: st) s := Ze_n (i := (.aload_n 0)) (len := 1) (by decide +kernel) rfl
theorem x22_89 : Ze d 22 89 [l0, l1, l2, l3, l4, l5, l6] st s = Ze d 22 90 [l0, l1, l2, l3, l4, l5, l6] (aI 0 :: st) s := Ze_n (i := (.iconst 0)) (len := 1) (by decide +kernel) rfl
theorem x22_90 : Ze d 22 90 [l0, l1, l2, l3, l4, l5, l6] st s = Ze d 22 92 [l0, l1, l2, l3, l4, l5, l6] (aI 65535 :: st) s := Ze_n (i := (.ldc 219)) (len := 2) (by decide +kernel) rfl
theorem x22_92 (h : obC r = 0) (h6 : st.length ≤ 4) : Ze d 22 92 [l0, l1, l2, l3, l4, l5, l6] (aI a2 :: aI a1 :: aR r :: st) s = zcI (Zc d 12 [aR r, aI a1, aI a2] s) d 22 95 [l0, l1, l2, l3, l4, l5, l6] st := Ze_cvI (idx := 235) (len := 3) (as := [aI a1, aI a2]) (by decide +kernel) rfl (by decide +kernel) rfl h h6
theorem x22_95 (h0 : 0 ≤ i) (h1 : i < aN1 r) : Ze d 22 95 [l0, l1, l2, l3, l4, l5, l6] (aI z :: aI i :: aR r :: st) s = Ze d 22 96 [l0, l1, l2, l3, l4, l5, l6] st (mu s r i.toNat z) := Ze_n (i := .iastore) (len := 1) (by decide +kernel) (if_pos ⟨h0, h1⟩)
theorem x22_96 : Ze d 22 96 [aR r, l1, l2, l3, l4, l5, l6] st s = Ze d 22 97 [aR r, l1, l2, l3, l4, l5, l6] (aR r :: st) s := Ze_n (i := (.aload_n 0)) (len := 1) (by decide +kernel) rfl
theorem x22_97 (h : obC r = 0) : Ze d 22 97 [l0, l1, l2, l3, l4, l5, l6] (aR r :: st) s = Ze d 22 100 [l0, l1, l2, l3, l4, l5, l6] (aR (fcn r 25) :: st) s := Ze_gf (len := 3) (idx := 65) (by decide +kernel) rfl h rfl
theorem x22_100 : Ze d 22 100 [l0, l1, l2, l3, l4, l5, aI z] st s = Ze d 22 102 [l0, l1, l2, l3, l4, l5, aI z] (aI z :: st) s := Ze_n (i := (.iload 6)) (len := 2) (by decide +kernel) rfl
theorem x22_102 : Ze d 22 102 [aR r, l1, l2, l3, l4, l5, l6] st s = Ze d 22 103 [aR r, l1, l2, l3, l4, l5, l6] (aR r :: st) s := Ze_n (i := (.aload_n 0)) (len := 1) (by decide +kernel) rfl
theorem x22_103 (h : obC r = 0) : Ze d 22 103 [l0, l1, l2, l3, l4, l5, l6] (aR r :: st) s = Ze d 22 106 [l0, l1, l2, l3, l4, l5, l6] (aI (s r 32) :: st) s := Ze_gf (len := 3) (idx := 246) (by decide +kernel) rfl h rfl
theorem x22_106 (h0 : 0 ≤ i) (h1 : i < aN1 r) : Ze d 22 106 [l0, l1, l2, l3, l4, l5, l6] (aI z :: aI i :: aR r :: st) s = Ze d 22 107 [l0, l1, l2, l3, l4, l5, l6] st (mu s r i.toNat z) := Ze_n (i := .iastore) (len := 1) (by decide +kernel) (if_pos ⟨h0, h1⟩)
theorem x22_107 : Ze d 22 107 [l0, l1, l2, l3, l4, l5, aI z] st s = Ze d 22 109 [l0, l1, l2, l3, l4, l5, aI z] (aI z :: st) s := Ze_n (i := (.iload 6)) (len := 2) (by decide +kernel) rfl
theorem x22_109 : Ze d 22 109 [l0, l1, l2, l3, l4, l5, l6] (aI z :: st) s = Ze d 22 110 [l0, l1, aI z, l3, l4, l5, l6] st s := Ze_n (i := (.istore_n 2)) (len := 1) (by decide +kernel) rfl
theorem x22_110 : Ze d 22 110 [l0, l1, l2, l3, l4, l5, l6] st s = Ze d 22 9 [l0, l1, l2, l3, l4, l5, l6] st s := Ze_n (i := (.goto (-101))) (len := 3) (by decide +kernel) rfl
theorem x22_113 : Ze d 22 113 [l0, l1, l2, l3, l4, aI z, l6] st s = Ze d 22 115 [l0, l1, l2, l3, l4, aI z, l6] (aI z :: st) s := Ze_n (i := (.iload 5)) (len := 2) (by decide +kernel) rfl
theorem x22_115 : Ze d 22 115 [l0, l1, l2, l3, l4, l5, l6] (aI a :: st) s = if a = 0 then Ze d 22 118 [l0, l1, l2, l3, l4, l5, l6] st s else Ze d 22 129 [l0, l1, l2, l3, l4, l5, l6] st s := Ze_b (i := (.ifCond .ne 14)) (len := 3) (by decide +kernel) rfl
theorem x22_118 : Ze d 22 118 [aR r, l1, l2, l3, l4, l5, l6] st s = Ze d 22 119 [aR r, l1, l2, l3, l4, l5, l6] (aR r :: st) s := Ze_n (i := (.aload_n 0)) (len := 1) (by decide +kernel) rfl
theorem x22_119 : Ze d 22 119 [aR r, l1, l2, l3, l4, l5, l6] st s = Ze d 22 120 [aR r, l1, l2, l3, l4, l5, l6] (aR r :: st) s := Ze_n (i := (.aload_n 0)) (len := 1) (by decide +kernel) rfl
theorem x22_120 (h : obC r = 0) : Ze d 22 120 [l0, l1, l2, l3, l4, l5, l6] (aR r :: st) s = Ze d 22 123 [l0, l1, l2, l3, l4, l5, l6] (aI (s r 2) :: st) s := Ze_gf (len := 3) (idx := 198) (by decide +kernel) rfl h rfl
theorem x22_123 (h : obC r = 0) (h6 : st.length ≤ 4) : Ze d 22 123 [l0, l1, l2, l3, l4, l5, l6] (aI a1 :: aR r :: st) s = zcV (Zc d 5 [aR r, aI a1] s) d 22 126 [l0, l1, l2, l3, l4, l5, l6] st := Ze_cvV (idx := 208) (len := 3) (as := [aI a1]) (by decide +kernel) rfl (by decide +kernel) rfl h h6
theorem x22_126 : Ze d 22 126 [l0, l1, l2, l3, l4, l5, l6] st s = Ze d 22 9 [l0, l1, l2, l3, l4, l5, l6] st s := Ze_n (i := (.goto (-117))) (len := 3) (by decide +kernel) rfl
theorem x22_129 : Ze d 22 129 [aR r, l1, l2, l3, l4, l5, l6] st s = Ze d 22 130 [aR r, l1, l2, l3, l4, l5, l6] (aR r :: st) s := Ze_n (i := (.aload_n 0)) (len := 1) (by decide +kernel) rfl
theorem x22_130 : Ze d 22 130 [l0, l1, l2, l3, l4, l5, l6] (aR r :: st) s = Ze d 22 131 [l0, l1, l2, l3, l4, l5, l6] (aR r :: aR r :: st) s := Ze_n (i := .dup) (len := 1) (by decide +kernel) rfl
theorem x22_130i : Ze d 22 130 [l0, l1, l2, l3, l4, l5, l6] (aI a :: st) s = Ze d 22 131 [l0, l1, l2, l3, l4, l5, l6] (aI a :: aI a :: st) s := Ze_n (i := .dup) (len := 1) (by decide +kernel) rfl
theorem x22_131 (h : obC r = 0) : Ze d 22 131 [l0, l1, l2, l3, l4, l5, l6] (aR r :: st) s = Ze d 22 134 [l0, l1, l2, l3, l4, l5, l6] (aI (s r 2) :: st) s := Ze_gf (len := 3) (idx := 198) (by decide +kernel) rfl h rfl
theorem x22_134 : Ze d 22 134 [l0, l1, l2, l3, l4, l5, l6] st s = Ze d 22 135 [l0, l1, l2, l3, l4, l5, l6] (aI 1 :: st) s := Ze_n (i := (.iconst 1)) (len := 1) (by decide +kernel) rfl
theorem x22_135 : Ze d 22 135 [l0, l1, l2, l3, l4, l5, l6] (aI b :: aI a :: st) s = Ze d 22 136 [l0, l1, l2, l3, l4, l5, l6] (aI (wrap (a + b)) :: st) s := Ze_n (i := .iadd) (len := 1) (by decide +kernel) rfl
theorem x22_136 (h : obC r = 0) : Ze d 22 136 [l0, l1, l2, l3, l4, l5, l6] (aI z :: aR r :: st) s = Ze d 22 139 [l0, l1, l2, l3, l4, l5, l6] st (mu s r 2 z) := Ze_n (i := .putfield 198) (len := 3) (by decide +kernel) (if_pos h)
theorem x22_139 : Ze d 22 139 [aR r, l1, l2, l3, l4, l5, l6] st s = Ze d 22 140 [aR r, l1, l2, l3, l4, l5, l6] (aR r :: st) s := Ze_n (i := (.aload_n 0)) (len := 1) (by decide +kernel) rfl
theorem x22_140 : Ze d 22 140 [l0, l1, l2, l3, l4, l5, l6] st s = Ze d 22 142 [l0, l1, l2, l3, l4, l5, l6] (aI 40 :: st) s := Ze_n (i := (.bipush 40)) (len := 2) (by decide +kernel) rfl
theorem x22_142 (h : obC r = 0) (h6 : st.length ≤ 4) : Ze d 22 142 [l0, l1, l2, l3, l4, l5, l6] (aI a1 :: aR r :: st) s = zcV (Zc d 8 [aR r, aI a1] s) d 22 145 [l0, l1, l2, l3, l4, l5, l6] st := Ze_cvV (idx := 229) (len := 3) (as := [aI a1]) (by decide +kernel) rfl (by decide +kernel) rfl h h6
theorem x22_145 : Ze d 22 145 [aR r, l1, l2, l3, l4, l5, l6] st s = Ze d 22 146 [aR r, l1, l2, l3, l4, l5, l6] (aR r :: st) s := Ze_n (i := (.aload_n 0)) (len := 1) (by decide +kernel) rfl
theorem x22_146 (h : obC r = 0) : Ze d 22 146 [l0, l1, l2, l3, l4, l5, l6] (aR r :: st) s = Ze d 22 149 [l0, l1, l2, l3, l4, l5, l6] (aR (fcn r 30) :: st) s := Ze_gf (len := 3) (idx := 80) (by decide +kernel) rfl h rfl
theorem x22_149 : Ze d 22 149 [l0, aI z, l2, l3, l4, l5, l6] st s = Ze d 22 150 [l0, aI z, l2, l3, l4, l5, l6] (aI z :: st) s := Ze_n (i := (.iload_n 1)) (len := 1) (by decide +kernel) rfl
theorem x22_150 : Ze d 22 150 [aR r, l1, l2, l3, l4, l5, l6] st s = Ze d 22 151 [aR r, l1, l2, l3, l4, l5, l6] (aR r :: st) s := Ze_n (i := (.aload_n 0)) (len := 1) (by decide +kernel) rfl
theorem x22_151 : Ze d 22 151 [l0, l1, l2, l3, aI z, l5, l6] st s = Ze d 22 153 [l0, l1, l2, l3, aI z, l5, l6] (aI z :: st) s := Ze_n (i := (.iload 4)) (len := 2) (by decide +kernel) rfl
theorem x22_153 (h : obC r = 0) (h6 : st.length ≤ 4) : Ze d 22 153 [l0, l1, l2, l3, l4, l5, l6] (aI a1 :: aR r :: st) s = zcI (Zc d 16 [aR r, aI a1] s) d 22 156 [l0, l1, l2, l3, l4, l5, l6] st := Ze_cvI (idx := 249) (len := 3) (as := [aI a1]) (by decide +kernel) rfl (by decide +kernel) rfl h h6
theorem x22_156 (h0 : 0 ≤ i) (h1 : i < aN1 r) : Ze d 22 156 [l0, l1, l2, l3, l4, l5, l6] (aI z :: aI i :: aR r :: st) s = Ze d 22 157 [l0, l1, l2, l3, l4, l5, l6] st (mu s r i.toNat z) := Ze_n (i := .iastore) (len := 1) (by decide +kernel) (if_pos ⟨h0, h1⟩)
theorem x22_157 : Ze d 22 157 [aR r, l1, l2, l3, l4, l5, l6] st s = Ze d 22 158 [aR r, l1, l2, l3, l4, l5, l6] (aR r :: st) s := Ze_n (i := (.aload_n 0)) (len := 1) (by decide +kernel) rfl
theorem x22_158 (h : obC r = 0) : Ze d 22 158 [l0, l1, l2, l3, l4, l5, l6] (aR r :: st) s = Ze d 22 161 [l0, l1, l2, l3, l4, l5, l6] (aR (fcn r 31) :: st) s := Ze_gf (len := 3) (idx := 83) (by decide +kernel) rfl h rfl
theorem x22_161 : Ze d 22 161 [l0, aI z, l2, l3, l4, l5, l6] st s = Ze d 22 162 [l0, aI z, l2, l3, l4, l5, l6] (aI z :: st) s := Ze_n (i := (.iload_n 1)) (len := 1) (by decide +kernel) rfl
theorem x22_162 : Ze d 22 162 [l0, l1, l2, l3, l4, l5, l6] st s = Ze d 22 163 [l0, l1, l2, l3, l4, l5, l6] (aI 0 :: st) s := Ze_n (i := (.iconst 0)) (len := 1) (by decide +kernel) rfl
theorem x22_163 (h0 : 0 ≤ i) (h1 : i < aN1 r) : Ze d 22 163 [l0, l1, l2, l3, l4, l5, l6] (aI z :: aI i :: aR r :: st) s = Ze d 22 164 [l0, l1, l2, l3, l4, l5, l6] st (mu s r i.toNat z) := Ze_n (i := .iastore) (len := 1) (by decide +kernel) (if_pos ⟨h0, h1⟩)
theorem x22_164 : Ze d 22 164 [l0, aI z, l2, l3, l4, l5, l6] st s = Ze d 22 167 [l0, aI (wrap (z + 1)), l2, l3, l4, l5, l6] st s := Ze_n (i := (.iinc 1 1)) (len := 3) (by decide +kernel) rfl
theorem x22_167 : Ze d 22 167 [l0, l1, l2, l3, l4, l5, l6] st s = Ze d 22 9 [l0, l1, l2, l3, l4, l5, l6] st s := Ze_n (i := (.goto (-158))) (len := 3) (by decide +kernel) rfl
theorem x22_170 : Ze d 22 170 [l0, aI z, l2, l3, l4, l5, l6] st s = Ze d 22 171 [l0, aI z, l2, l3, l4, l5, l6] (aI z :: st) s := Ze_n (i := (.iload_n 1)) (len := 1) (by decide +kernel) rfl
theorem x22_171 : Ze d 22 171 [l0, l1, l2, l3, l4, l5, l6] (aI a :: st) s = if a = 0 then Ze d 22 174 [l0, l1, l2, l3, l4, l5, l6] st s else Ze d 22 176 [l0, l1, l2, l3, l4, l5, l6] st s := Ze_b (i := (.ifCond .ne 5)) (len := 3) (by decide +kernel) rfl
theorem x22_174 : Ze d 22 174 [l0, l1, l2, aI z, l4, l5, l6] st s = Ze d 22 175 [l0, l1, l2, aI z, l4, l5, l6] (aI z :: st) s := Ze_n (i := (.iload_n 3)) (len := 1) (by decide +kernel) rfl
theorem x22_175 : Ze d 22 175 [l0, l1, l2, l3, l4, l5, l6] [aI z] s = rI z s := Ze_i1 (by decide +kernel) rfl
theorem x22_176 : Ze d 22 176 [aR r, l1, l2, l3, l4, l5, l6] st s = Ze d 22 177 [aR r, l1, l2, l3, l4, l5, l6] (aR r :: st) s := Ze_n (i := (.aload_n 0)) (len := 1) (by decide +kernel) rfl
theorem x22_177 (h : obC r = 0) : Ze d 22 177 [l0, l1, l2, l3, l4, l5, l6] (aR r :: st) s = Ze d 22 180 [l0, l1, l2, l3, l4, l5, l6] (aR (fcn r 30) :: st) s := Ze_gf (len := 3) (idx := 80) (by decide +kernel) rfl h rfl
theorem x22_180 : Ze d 22 180 [l0, aI z, l2, l3, l4, l5, l6] st s = Ze d 22 181 [l0, aI z, l2, l3, l4, l5, l6] (aI z :: st) s := Ze_n (i := (.iload_n 1)) (len := 1) (by decide +kernel) rfl
theorem x22_181 : Ze d 22 181 [l0, l1, l2, l3, l4, l5, l6] st s = Ze d 22 182 [l0, l1, l2, l3, l4, l5, l6] (aI 1 :: st) s := Ze_n (i := (.iconst 1)) (len := 1) (by decide +kernel) rfl
theorem x22_182 : Ze d 22 182 [l0, l1, l2, l3, l4, l5, l6] (aI b :: aI a :: st) s = Ze d 22 183 [l0, l1, l2, l3, l4, l5, l6] (aI (wrap (a - b)) :: st) s := Ze_n (i := .isub) (len := 1) (by decide +kernel) rfl
theorem x22_183 (h0 : 0 ≤ i) (h1 : i < aN1 r) : Ze d 22 183 [l0, l1, l2, l3, l4, l5, l6] (aI i :: aR r :: st) s = Ze d 22 184 [l0, l1, l2, l3, l4, l5, l6] (aI (s r i.toNat) :: st) s := Ze_n (i := .iaload) (len := 1) (by decide +kernel) (if_pos ⟨h0, h1⟩)
theorem x22_184 : Ze d 22 184 [l0, l1, l2, l3, l4, l5, l6] (aI z :: st) s = Ze d 22 186 [l0, l1, l2, l3, aI z, l5, l6] st s := Ze_n (i := (.istore 4)) (len := 2) (by decide +kernel) rfl
theorem x22_186 : Ze d 22 186 [aR r, l1, l2, l3, l4, l5, l6] st s = Ze d 22 187 [aR r, l1, l2, l3, l4, l5, l6] (aR r :: st) s := Ze_n (i := (.aload_n 0)) (len := 1) (by decide +kernel) rfl
theorem x22_187 (h : obC r = 0) : Ze d 22 187 [l0, l1, l2, l3, l4, l5, l6] (aR r :: st) s = Ze d 22 190 [l0, l1, l2, l3, l4, l5, l6] (aR (fcn r 19) :: st) s := Ze_gf (len := 3) (idx := 47) (by decide +kernel) rfl h rfl
theorem x22_190 : Ze d 22 190 [l0, l1, l2, l3, aI z, l5, l6] st s = Ze d 22 192 [l0, l1, l2, l3, aI z, l5, l6] (aI z :: st) s := Ze_n (i := (.iload 4)) (len := 2) (by decide +kernel) rfl
theorem x22_192 (h0 : 0 ≤ i) (h1 : i < aN1 r) : Ze d 22 192 [l0, l1, l2, l3, l4, l5, l6] (aI i :: aR r :: st) s = Ze d 22 193 [l0, l1, l2, l3, l4, l5, l6] (aI (s r i.toNat) :: st) s := Ze_n (i := .iaload) (len := 1) (by decide +kernel) (if_pos ⟨h0, h1⟩)
theorem x22_193 : Ze d 22 193 [l0, l1, l2, l3, l4, l5, l6] (aI z :: st) s = Ze d 22 195 [l0, l1, l2, l3, l4, aI z, l6] st s := Ze_n (i := (.istore 5)) (len := 2) (by decide +kernel) rfl
theorem x22_195 : Ze d 22 195 [aR r, l1, l2, l3, l4, l5, l6] st s = Ze d 22 196 [aR r, l1, l2, l3, l4, l5, l6] (aR r :: st) s := Ze_n (i := (.aload_n 0)) (len := 1) (by decide +kernel) rfl
theorem x22_196 : Ze d 22 196 [l0, l1, l2, l3, aI z, l5, l6] st s = Ze d 22 198 [l0, l1, l2, l3, aI z, l5, l6] (aI z :: st) s := Ze_n (i := (.iload 4)) (len := 2) (by decide +kernel) rfl
theorem x22_198 : Ze d 22 198 [aR r, l1, l2, l3, l4, l5, l6] st s = Ze d 22 199 [aR r, l1, l2, l3, l4, l5, l6] (aR r :: st) s := Ze_n (i := (.aload_n 0)) (len := 1) (by decide +kernel) rfl
theorem x22_199 (h : obC r = 0) : Ze d 22 199 [l0, l1, l2, l3, l4, l5, l6] (aR r :: st) s = Ze d 22 202 [l0, l1, l2, l3, l4, l5, l6] (aR (fcn r 31) :: st) s := Ze_gf (len := 3) (idx := 83) (by decide +kernel) rfl h rfl
theorem x22_202 : Ze d 22 202 [l0, aI z, l2, l3, l4, l5, l6] st s = Ze d 22 203 [l0, aI z, l2, l3, l4, l5, l6] (aI z :: st) s := Ze_n (i := (.iload_n 1)) (len := 1) (by decide +kernel) rfl
theorem x22_203 : Ze d 22 203 [l0, l1, l2, l3, l4, l5, l6] st s = Ze d 22 204 [l0, l1, l2, l3, l4, l5, l6] (aI 1 :: st) s := Ze_n (i := (.iconst 1)) (len := 1) (by decide +kernel) rfl
theorem x22_204 : Ze d 22 204 [l0, l1, l2, l3, l4, l5, l6] (aI b :: aI a :: st) s = Ze d 22 205 [l0, l1, l2, l3, l4, l5, l6] (aI (wrap (a - b)) :: st) s := Ze_n (i := .isub) (len := 1) (by decide +kernel) rfl
theorem x22_205 (h0 : 0 ≤ i) (h1 : i < aN1 r) : Ze d 22 205 [l0, l1, l2, l3, l4, l5, l6] (aI i :: aR r :: st) s = Ze d 22 206 [l0, l1, l2, l3, l4, l5, l6] (aI (s r i.toNat) :: st) s := Ze_n (i := .iaload) (len := 1) (by decide +kernel) (if_pos ⟨h0, h1⟩)
theorem x22_206 : Ze d 22 206 [l0, l1, aI z, l3, l4, l5, l6] st s = Ze d 22 207 [l0, l1, aI z, l3, l4, l5, l6] (aI z :: st) s := Ze_n (i := (.iload_n 2)) (len := 1) (by decide +kernel) rfl
theorem x22_207 (h : obC r = 0) (h6 : st.length ≤ 4) : Ze d 22 207 [l0, l1, l2, l3, l4, l5, l6] (aI a3 :: aI a2 :: aI a1 :: aR r :: st) s = zcV (Zc d 20 [aR r, aI a1, aI a2, aI a3] s) d 22 210 [l0, l1, l2, l3, l4, l5, l6] st := Ze_cvV (idx := 261) (len := 3) (as := [aI a1, aI a2, aI a3]) (by decide +kernel) rfl (by decide +kernel) rfl h h6
theorem x22_210 : Ze d 22 210 [aR r, l1, l2, l3, l4, l5, l6] st s = Ze d 22 211 [aR r, l1, l2, l3, l4, l5, l6] (aR r :: st) s := Ze_n (i := (.aload_n 0)) (len := 1) (by decide +kernel) rfl
theorem x22_211 (h : obC r = 0) : Ze d 22 211 [l0, l1, l2, l3, l4, l5, l6] (aR r :: st) s = Ze d 22 214 [l0, l1, l2, l3, l4, l5, l6] (aR (fcn r 31) :: st) s := Ze_gf (len := 3) (idx := 83) (by decide +kernel) rfl h rfl
theorem x22_214 : Ze d 22 214 [l0, aI z, l2, l3, l4, l5, l6] st s = Ze d 22 215 [l0, aI z, l2, l3, l4, l5, l6] (aI z :: st) s := Ze_n (i := (.iload_n 1)) (len := 1) (by decide +kernel) rfl
theorem x22_215 : Ze d 22 215 [l0, l1, l2, l3, l4, l5, l6] st s = Ze d 22 216 [l0, l1, l2, l3, l4, l5, l6] (aI 1 :: st) s := Ze_n (i := (.iconst 1)) (len := 1) (by decide +kernel) rfl
theorem x22_216 : Ze d 22 216 [l0, l1, l2, l3, l4, l5, l6] (aI b :: aI a :: st) s = Ze d 22 217 [l0, l1, l2, l3, l4, l5, l6] (aI (wrap (a - b)) :: st) s := Ze_n (i := .isub) (len := 1) (by decide +kernel) rfl
theorem x22_217 : Ze d 22 217 [l0, l1, l2, l3, l4, l5, l6] (aI a :: aR r :: st) s = Ze d 22 218 [l0, l1, l2, l3, l4, l5, l6] (aI a :: aR r :: aI a :: aR r :: st) s := Ze_n (i := .dup2) (len := 1) (by decide +kernel) rfl
theorem x22_218 (h0 : 0 ≤ i) (h1 : i < aN1 r) : Ze d 22 218 [l0, l1, l2, l3, l4, l5, l6] (aI i :: aR r :: st) s = Ze d 22 219 [l0, l1, l2, l3, l4, l5, l6] (aI (s r i.toNat) :: st) s := Ze_n (i := .iaload) (len := 1) (by decide +kernel) (if_pos ⟨h0, h1⟩)
theorem x22_219 : Ze d 22 219 [l0, l1, l2, l3, l4, l5, l6] st s = Ze d 22 220 [l0, l1, l2, l3, l4, l5, l6] (aI 1 :: st) s := Ze_n (i := (.iconst 1)) (len := 1) (by decide +kernel) rfl
theorem x22_220 : Ze d 22 220 [l0, l1, l2, l3, l4, l5, l6] (aI b :: aI a :: st) s = Ze d 22 221 [l0, l1, l2, l3, l4, l5, l6] (aI (wrap (a + b)) :: st) s := Ze_n (i := .iadd) (len := 1) (by decide +kernel) rfl
theorem x22_221 (h0 : 0 ≤ i) (h1 : i < aN1 r) : Ze d 22 221 [l0, l1, l2, l3, l4, l5, l6] (aI z :: aI i :: aR r :: st) s = Ze d 22 222 [l0, l1, l2, l3, l4, l5, l6] st (mu s r i.toNat z) := Ze_n (i := .iastore) (len := 1) (by decide +kernel) (if_pos ⟨h0, h1⟩)
theorem x22_222 : Ze d 22 222 [l0, l1, l2, l3, l4, aI z, l6] st s = Ze d 22 224 [l0, l1, l2, l3, l4, aI z, l6] (aI z :: st) s := Ze_n (i := (.iload 5)) (len := 2) (by decide +kernel) rfl
theorem x22_224 : Ze d 22 224 [l0, l1, l2, l3, l4, l5, l6] st s = Ze d 22 226 [l0, l1, l2, l3, l4, l5, l6] (aI 84 :: st) s := Ze_n (i := (.bipush 84)) (len := 2) (by decide +kernel) rfl
theorem x22_226 : Ze d 22 226 [l0, l1, l2, l3, l4, l5, l6] (aI b :: aI a :: st) s = if a = b then Ze d 22 263 [l0, l1, l2, l3, l4, l5, l6] st s else Ze d 22 229 [l0, l1, l2, l3, l4, l5, l6] st s := Ze_b (i := (.if_icmp .eq 37)) (len := 3) (by decide +kernel) rfl
theorem x22_229 : Ze d 22 229 [l0, l1, l2, l3, l4, aI z, l6] st s = Ze d 22 231 [l0, l1, l2, l3, l4, aI z, l6] (aI z :: st) s := Ze_n (i := (.iload 5)) (len := 2) (by decide +kernel) rfl
theorem x22_231 : Ze d 22 231 [l0, l1, l2, l3, l4, l5, l6] st s = Ze d 22 233 [l0, l1, l2, l3, l4, l5, l6] (aI 33 :: st) s := Ze_n (i := (.bipush 33)) (len := 2) (by decide +kernel) rfl
theorem x22_233 : Ze d 22 233 [l0, l1, l2, l3, l4, l5, l6] (aI b :: aI a :: st) s = if a = b then Ze d 22 263 [l0, l1, l2, l3, l4, l5, l6] st s else Ze d 22 236 [l0, l1, l2, l3, l4, l5, l6] st s := Ze_b (i := (.if_icmp .eq 30)) (len := 3) (by decide +kernel) rfl
theorem x22_236 : Ze d 22 236 [aR r, l1, l2, l3, l4, l5, l6] st s = Ze d 22 237 [aR r, l1, l2, l3, l4, l5, l6] (aR r :: st) s := Ze_n (i := (.aload_n 0)) (len := 1) (by decide +kernel) rfl
theorem x22_237 (h : obC r = 0) : Ze d 22 237 [l0, l1, l2, l3, l4, l5, l6] (aR r :: st) s = Ze d 22 240 [l0, l1, l2, l3, l4, l5, l6] (aR (fcn r 31) :: st) s := Ze_gf (len := 3) (idx := 83) (by decide +kernel) rfl h rfl
theorem x22_240 : Ze d 22 240 [l0, aI z, l2, l3, l4, l5, l6] st s = Ze d 22 241 [l0, aI z, l2, l3, l4, l5, l6] (aI z :: st) s := Ze_n (i := (.iload_n 1)) (len := 1) (by decide +kernel) rfl
theorem x22_241 : Ze d 22 241 [l0, l1, l2, l3, l4, l5, l6] st s = Ze d 22 242 [l0, l1, l2, l3, l4, l5, l6] (aI 1 :: st) s := Ze_n (i := (.iconst 1)) (len := 1) (by decide +kernel) rfl
theorem x22_242 : Ze d 22 242 [l0, l1, l2, l3, l4, l5, l6] (aI b :: aI a :: st) s = Ze d 22 243 [l0, l1, l2, l3, l4, l5, l6] (aI (wrap (a - b)) :: st) s := Ze_n (i := .isub) (len := 1) (by decide +kernel) rfl
theorem x22_243 (h0 : 0 ≤ i) (h1 : i < aN1 r) : Ze d 22 243 [l0, l1, l2, l3, l4, l5, l6] (aI i :: aR r :: st) s = Ze d 22 244 [l0, l1, l2, l3, l4, l5, l6] (aI (s r i.toNat) :: st) s := Ze_n (i := .iaload) (len := 1) (by decide +kernel) (if_pos ⟨h0, h1⟩)
theorem x22_244 : Ze d 22 244 [l0, l1, l2, l3, l4, aI z, l6] st s = Ze d 22 246 [l0, l1, l2, l3, l4, aI z, l6] (aI z :: st) s := Ze_n (i := (.iload 5)) (len := 2) (by decide +kernel) rfl
theorem x22_246 : Ze d 22 246 [l0, l1, l2, l3, l4, l5, l6] st s = Ze d 22 248 [l0, l1, l2, l3, l4, l5, l6] (aI 77 :: st) s := Ze_n (i := (.bipush 77)) (len := 2) (by decide +kernel) rfl
theorem x22_248 : Ze d 22 248 [l0, l1, l2, l3, l4, l5, l6] (aI b :: aI a :: st) s = if a = b then Ze d 22 251 [l0, l1, l2, l3, l4, l5, l6] st s else Ze d 22 255 [l0, l1, l2, l3, l4, l5, l6] st s := Ze_b (i := (.if_icmp .ne 7)) (len := 3) (by decide +kernel) rfl
theorem x22_251 : Ze d 22 251 [l0, l1, l2, l3, l4, l5, l6] st s = Ze d 22 252 [l0, l1, l2, l3, l4, l5, l6] (aI 3 :: st) s := Ze_n (i := (.iconst 3)) (len := 1) (by decide +kernel) rfl
theorem x22_252 : Ze d 22 252 [l0, l1, l2, l3, l4, l5, l6] st s = Ze d 22 256 [l0, l1, l2, l3, l4, l5, l6] st s := Ze_n (i := (.goto 4)) (len := 3) (by decide +kernel) rfl
theorem x22_255 : Ze d 22 255 [l0, l1, l2, l3, l4, l5, l6] st s = Ze d 22 256 [l0, l1, l2, l3, l4, l5, l6] (aI 2 :: st) s := Ze_n (i := (.iconst 2)) (len := 1) (by decide +kernel) rfl
theorem x22_256 : Ze d 22 256 [l0, l1, l2, l3, l4, l5, l6] (aI b :: aI a :: st) s = if a < b then Ze d 22 259 [l0, l1, l2, l3, l4, l5, l6] st s else Ze d 22 263 [l0, l1, l2, l3, l4, l5, l6] st s := Ze_b (i := (.if_icmp .ge 7)) (len := 3) (by decide +kernel) rfl
theorem x22_259 : Ze d 22 259 [l0, l1, l2, l3, l4, l5, l6] st s = Ze d 22 260 [l0, l1, l2, l3, l4, l5, l6] (aI 1 :: st) s := Ze_n (i := (.iconst 1)) (len := 1) (by decide +kernel) rfl
theorem x22_260 : Ze d 22 260 [l0, l1, l2, l3, l4, l5, l6] st s = Ze d 22 264 [l0, l1, l2, l3, l4, l5, l6] st s := Ze_n (i := (.goto 4)) (len := 3) (by decide +kernel) rfl
theorem x22_263 : Ze d 22 263 [l0, l1, l2, l3, l4, l5, l6] st s = Ze d 22 264 [l0, l1, l2, l3, l4, l5, l6] (aI 0 :: st) s := Ze_n (i := (.iconst 0)) (len := 1) (by decide +kernel) rfl
theorem x22_264 : Ze d 22 264 [l0, l1, l2, l3, l4, l5, l6] (aI z :: st) s = Ze d 22 266 [l0, l1, l2, l3, l4, l5, aI z] st s := Ze_n (i := (.istore 6)) (len := 2) (by decide +kernel) rfl
theorem x22_266 : Ze d 22 266 [l0, l1, l2, l3, l4, aI z, l6] st s = Ze d 22 268 [l0, l1, l2, l3, l4, aI z, l6] (aI z :: st) s := Ze_n (i := (.iload 5)) (len := 2) (by decide +kernel) rfl
theorem x22_268 : Ze d 22 268 [l0, l1, l2, l3, l4, l5, l6] st s = Ze d 22 270 [l0, l1, l2, l3, l4, l5, l6] (aI 84 :: st) s := Ze_n (i := (.bipush 84)) (len := 2) (by decide +kernel) rfl
theorem x22_270 : Ze d 22 270 [l0, l1, l2, l3, l4, l5, l6] (aI b :: aI a :: st) s = if a = b then Ze d 22 273 [l0, l1, l2, l3, l4, l5, l6] st s else Ze d 22 279 [l0, l1, l2, l3, l4, l5, l6] st s := Ze_b (i := (.if_icmp .ne 9)) (len := 3) (by decide +kernel) rfl
theorem x22_273 : Ze d 22 273 [aR r, l1, l2, l3, l4, l5, l6] st s = Ze d 22 274 [aR r, l1, l2, l3, l4, l5, l6] (aR r :: st) s := Ze_n (i := (.aload_n 0)) (len := 1) (by decide +kernel) rfl
theorem x22_274 : Ze d 22 274 [l0, l1, l2, l3, aI z, l5, l6] st s = Ze d 22 276 [l0, l1, l2, l3, aI z, l5, l6] (aI z :: st) s := Ze_n (i := (.iload 4)) (len := 2) (by decide +kernel) rfl
theorem x22_276 (h : obC r = 0) (h6 : st.length ≤ 4) : Ze d 22 276 [l0, l1, l2, l3, l4, l5, l6] (aI a1 :: aR r :: st) s = zcV (Zc d 21 [aR r, aI a1] s) d 22 279 [l0, l1, l2, l3, l4, l5, l6] st := Ze_cvV (idx := 265) (len := 3) (as := [aI a1]) (by decide +kernel) rfl (by decide +kernel) rfl h h6
theorem x22_279 : Ze d 22 279 [aR r, l1, l2, l3, l4, l5, l6] st s = Ze d 22 280 [aR r, l1, l2, l3, l4, l5, l6] (aR r :: st) s := Ze_n (i := (.aload_n 0)) (len := 1) (by decide +kernel) rfl
theorem x22_280 (h : obC r = 0) : Ze d 22 280 [l0, l1, l2, l3, l4, l5, l6] (aR r :: st) s = Ze d 22 283 [l0, l1, l2, l3, l4, l5, l6] (aI (s r 5) :: st) s := Ze_gf (len := 3) (idx := 194) (by decide +kernel) rfl h rfl
theorem x22_283 : Ze d 22 283 [l0, l1, l2, l3, l4, l5, l6] (aI a :: st) s = if a = 0 then Ze d 22 286 [l0, l1, l2, l3, l4, l5, l6] st s else Ze d 22 302 [l0, l1, l2, l3, l4, l5, l6] st s := Ze_b (i := (.ifCond .ne 19)) (len := 3) (by decide +kernel) rfl
theorem x22_286 : Ze d 22 286 [aR r, l1, l2, l3, l4, l5, l6] st s = Ze d 22 287 [aR r, l1, l2, l3, l4, l5, l6] (aR r :: st) s := Ze_n (i := (.aload_n 0)) (len := 1) (by decide +kernel) rfl
theorem x22_287 : Ze d 22 287 [l0, l1, l2, l3, l4, l5, aI z] st s = Ze d 22 289 [l0, l1, l2, l3, l4, l5, aI z] (aI z :: st) s := Ze_n (i := (.iload 6)) (len := 2) (by decide +kernel) rfl
theorem x22_289 : Ze d 22 289 [l0, l1, l2, l3, l4, l5, l6] (aI a :: st) s = if a = 0 then Ze d 22 297 [l0, l1, l2, l3, l4, l5, l6] st s else Ze d 22 292 [l0, l1, l2, l3, l4, l5, l6] st s := Ze_b (i := (.ifCond .eq 8)) (len := 3) (by decide +kernel) rfl
theorem x22_292 : Ze d 22 292 [l0, l1, l2, l3, l4, l5, l6] st s = Ze d 22 294 [l0, l1, l2, l3, l4, l5, l6] (aI 44 :: st) s := Ze_n (i := (.bipush 44)) (len := 2) (by decide +kernel) rfl
theorem x22_294 : Ze d 22 294 [l0, l1, l2, l3, l4, l5, l6] st s = Ze d 22 299 [l0, l1, l2, l3, l4, l5, l6] st s := Ze_n (i := (.goto 5)) (len := 3) (by decide +kernel) rfl
theorem x22_297 : Ze d 22 297 [l0, l1, l2, l3, l4, l5, l6] st s = Ze d 22 299 [l0, l1, l2, l3, l4, l5, l6] (aI 41 :: st) s := Ze_n (i := (.bipush 41)) (len := 2) (by decide +kernel) rfl
theorem x22_299 (h : obC r = 0) (h6 : st.length ≤ 4) : Ze d 22 299 [l0, l1, l2, l3, l4, l5, l6] (aI a1 :: aR r :: st) s = zcV (Zc d 8 [aR r, aI a1] s) d 22 302 [l0, l1, l2, l3, l4, l5, l6] st := Ze_cvV (idx := 229) (len := 3) (as := [aI a1]) (by decide +kernel) rfl (by decide +kernel) rfl h h6
theorem x22_302 : Ze d 22 302 [l0, l1, l2, l3, l4, l5, l6] st s = Ze d 22 303 [l0, l1, l2, l3, l4, l5, l6] (aI (-1) :: st) s := Ze_n (i := (.iconst (-1))) (len := 1) (by decide +kernel) rfl
theorem x22_303 : Ze d 22 303 [l0, l1, l2, l3, l4, l5, l6] (aI z :: st) s = Ze d 22 304 [l0, l1, aI z, l3, l4, l5, l6] st s := Ze_n (i := (.istore_n 2)) (len := 1) (by decide +kernel) rfl
theorem x22_304 : Ze d 22 304 [l0, l1, l2, l3, l4, l5, aI z] st s = Ze d 22 306 [l0, l1, l2, l3, l4, l5, aI z] (aI z :: st) s := Ze_n (i := (.iload 6)) (len := 2) (by decide +kernel) rfl
theorem x22_306 : Ze d 22 306 [l0, l1, l2, l3, l4, l5, l6] (aI a :: st) s = if a = 0 then Ze d 22 312 [l0, l1, l2, l3, l4, l5, l6] st s else Ze d 22 309 [l0, l1, l2, l3, l4, l5, l6] st s := Ze_b (i := (.ifCond .eq 6)) (len := 3) (by decide +kernel) rfl
theorem x22_309 : Ze d 22 309 [l0, l1, l2, l3, l4, l5, l6] st s = Ze d 22 9 [l0, l1, l2, l3, l4, l5, l6] st s := Ze_n (i := (.goto (-300))) (len := 3) (by decide +kernel) rfl
theorem x22_312 : Ze d 22 312 [aR r, l1, l2, l3, l4, l5, l6] st s = Ze d 22 313 [aR r, l1, l2, l3, l4, l5, l6] (aR r :: st) s := Ze_n (i := (.aload_n 0)) (len := 1) (by decide +kernel) rfl
theorem x22_313 (h : obC r = 0) : Ze d 22 313 [l0, l1, l2, l3, l4, l5, l6] (aR r :: st) s = Ze d 22 316 [l0, l1, l2, l3, l4, l5, l6] (aR (fcn r 25) :: st) s := Ze_gf (len := 3) (idx := 65) (by decide +kernel) rfl h rfl
theorem x22_316 : Ze d 22 316 [l0, l1, l2, l3, aI z, l5, l6] st s = Ze d 22 318 [l0, l1, l2, l3, aI z, l5, l6] (aI z :: st) s := Ze_n (i := (.iload 4)) (len := 2) (by decide +kernel) rfl
theorem x22_318 : Ze d 22 318 [aR r, l1, l2, l3, l4, l5, l6] st s = Ze d 22 319 [aR r, l1, l2, l3, l4, l5, l6] (aR r :: st) s := Ze_n (i := (.aload_n 0)) (len := 1) (by decide +kernel) rfl
theorem x22_319 (h : obC r = 0) : Ze d 22 319 [l0, l1, l2, l3, l4, l5, l6] (aR r :: st) s = Ze d 22 322 [l0, l1, l2, l3, l4, l5, l6] (aI (s r 32) :: st) s := Ze_gf (len := 3) (idx := 246) (by decide +kernel) rfl h rfl
theorem x22_322 (h0 : 0 ≤ i) (h1 : i < aN1 r) : Ze d 22 322 [l0, l1, l2, l3, l4, l5, l6] (aI z :: aI i :: aR r :: st) s = Ze d 22 323 [l0, l1, l2, l3, l4, l5, l6] st (mu s r i.toNat z) := Ze_n (i := .iastore) (len := 1) (by decide +kernel) (if_pos ⟨h0, h1⟩)
theorem x22_323 : Ze d 22 323 [l0, aI z, l2, l3, l4, l5, l6] st s = Ze d 22 326 [l0, aI (wrap (z + (-1))), l2, l3, l4, l5, l6] st s := Ze_n (i := (.iinc 1 (-1))) (len := 3) (by decide +kernel) rfl
theorem x22_326 : Ze d 22 326 [l0, l1, l2, l3, aI z, l5, l6] st s = Ze d 22 328 [l0, l1, l2, l3, aI z, l5, l6] (aI z :: st) s := Ze_n (i := (.iload 4)) (len := 2) (by decide +kernel) rfl
theorem x22_328 : Ze d 22 328 [l0, l1, l2, l3, l4, l5, l6] (aI z :: st) s = Ze d 22 329 [l0, l1, aI z, l3, l4, l5, l6] st s := Ze_n (i := (.istore_n 2)) (len := 1) (by decide +kernel) rfl
theorem x22_329 : Ze d 22 329 [l0, l1, l2, l3, l4, l5, l6] st s = Ze d 22 9 [l0, l1, l2, l3, l4, l5, l6] st s := Ze_n (i := (.goto (-320))) (len := 3) (by decide +kernel) rfl
theorem x22_332 : Ze d 22 332 [l0, l1, l2, l3, l4, l5, l6] st s = Ze d 22 333 [l0, l1, l2, l3, l4, l5, l6] (aI 0 :: st) s := Ze_n (i := (.iconst 0)) (len := 1) (by decide +kernel) rfl
theorem x22_333 : Ze d 22 333 [l0, l1, l2, l3, l4, l5, l6] [aI z] s = rI z s := Ze_i1 (by decide +kernel) rfl
theorem en22 : Zc (d + 1) 22 [aR r] s = Ze d 22 0 [aR r, aU, aU, aU, aU, aU, aU] [] s := rfl
theorem x23_0 : Ze d 23 0 [aR r, l1, l2] st s = Ze d 23 1 [aR r, l1, l2] (aR r :: st) s := Ze_n (i := (.aload_n 0)) (len := 1) (by decide +kernel) rfl
theorem x23_1 (h : obC r = 0) : Ze d 23 1 [l0, l1, l2] (aR r :: st) s = Ze d 23 4 [l0, l1, l2] (aR (fcn r 33) :: st) s := Ze_gf (len := 3) (idx := 86) (by decide +kernel) rfl h rfl
theorem x23_4 : Ze d 23 4 [aR r, l1, l2] st s = Ze d 23 5 [aR r, l1, l2] (aR r :: st) s := Ze_n (i := (.aload_n 0)) (len := 1) (by decide +kernel) rfl
theorem x23_5 (h : obC r = 0) : Ze d 23 5 [l0, l1, l2] (aR r :: st) s = Ze d 23 8 [l0, l1, l2] (aI (s r 40) :: st) s := Ze_gf (len := 3) (idx := 268) (by decide +kernel) rfl h rfl
theorem x23_8 : Ze d 23 8 [l0, aI z, l2] st s = Ze d 23 9 [l0, aI z, l2] (aI z :: st) s := Ze_n (i := (.iload_n 1)) (len := 1) (by decide +kernel) rfl
theorem x23_9 (h0 : 0 ≤ i) (h1 : i < aN1 r) : Ze d 23 9 [l0, l1, l2] (aI z :: aI i :: aR r :: st) s = Ze d 23 10 [l0, l1, l2] st (mu s r i.toNat z) := Ze_n (i := .iastore) (len := 1) (by decide +kernel) (if_pos ⟨h0, h1⟩)
theorem x23_10 : Ze d 23 10 [aR r, l1, l2] st s = Ze d 23 11 [aR r, l1, l2] (aR r :: st) s := Ze_n (i := (.aload_n 0)) (len := 1) (by decide +kernel) rfl
theorem x23_11 (h : obC r = 0) : Ze d 23 11 [l0, l1, l2] (aR r :: st) s = Ze d 23 14 [l0, l1, l2] (aR (fcn r 34) :: st) s := Ze_gf (len := 3) (idx := 89) (by decide +kernel) rfl h rfl
theorem x23_14 : Ze d 23 14 [aR r, l1, l2] st s = Ze d 23 15 [aR r, l1, l2] (aR r :: st) s := Ze_n (i := (.aload_n 0)) (len := 1) (by decide +kernel) rfl
theorem x23_15 (h : obC r = 0) : Ze d 23 15 [l0, l1, l2] (aR r :: st) s = Ze d 23 18 [l0, l1, l2] (aI (s r 40) :: st) s := Ze_gf (len := 3) (idx := 268) (by decide +kernel) rfl h rfl
theorem x23_18 : Ze d 23 18 [l0, l1, aI z] st s = Ze d 23 19 [l0, l1, aI z] (aI z :: st) s := Ze_n (i := (.iload_n 2)) (len := 1) (by decide +kernel) rfl
theorem x23_19 (h0 : 0 ≤ i) (h1 : i < aN1 r) : Ze d 23 19 [l0, l1, l2] (aI z :: aI i :: aR r :: st) s = Ze d 23 20 [l0, l1, l2] st (mu s r i.toNat z) := Ze_n (i := .iastore) (len := 1) (by decide +kernel) (if_pos ⟨h0, h1⟩)
theorem x23_20 : Ze d 23 20 [aR r, l1, l2] st s = Ze d 23 21 [aR r, l1, l2] (aR r :: st) s := Ze_n (i := (.aload_n 0)) (len := 1) (by decide +kernel) rfl
theorem x23_21 : Ze d 23 21 [l0, l1, l2] (aR r :: st) s = Ze d 23 22 [l0, l1, l2] (aR r :: aR r :: st) s := Ze_n (i := .dup) (len := 1) (by decide +kernel) rfl
theorem x23_21i : Ze d 23 21 [l0, l1, l2] (aI a :: st) s = Ze d 23 22 [l0, l1, l2] (aI a :: aI a :: st) s := Ze_n (i := .dup) (len := 1) (by decide +kernel) rfl
theorem x23_22 (h : obC r = 0) : Ze d 23 22 [l0, l1, l2] (aR r :: st) s = Ze d 23 25 [l0, l1, l2] (aI (s r 40) :: st) s := Ze_gf (len := 3) (idx := 268) (by decide +kernel) rfl h rfl
theorem x23_25 : Ze d 23 25 [l0, l1, l2] st s = Ze d 23 26 [l0, l1, l2] (aI 1 :: st) s := Ze_n (i := (.iconst 1)) (len := 1) (by decide +kernel) rfl
theorem x23_26 : Ze d 23 26 [l0, l1, l2] (aI b :: aI a :: st) s = Ze d 23 27 [l0, l1, l2] (aI (wrap (a + b)) :: st) s := Ze_n (i := .iadd) (len := 1) (by decide +kernel) rfl
theorem x23_27 (h : obC r = 0) : Ze d 23 27 [l0, l1, l2] (aI z :: aR r :: st) s = Ze d 23 30 [l0, l1, l2] st (mu s r 40 z) := Ze_n (i := .putfield 268) (len := 3) (by decide +kernel) (if_pos h)
theorem x23_30 : Ze d 23 30 [aR r, l1, l2] st s = Ze d 23 31 [aR r, l1, l2] (aR r :: st) s := Ze_n (i := (.aload_n 0)) (len := 1) (by decide +kernel) rfl
theorem x23_31 (h : obC r = 0) : Ze d 23 31 [l0, l1, l2] (aR r :: st) s = Ze d 23 34 [l0, l1, l2] (aI (s r 40) :: st) s := Ze_gf (len := 3) (idx := 268) (by decide +kernel) rfl h rfl
theorem x23_34 : Ze d 23 34 [l0, l1, l2] st s = Ze d 23 35 [l0, l1, l2] (aI 1 :: st) s := Ze_n (i := (.iconst 1)) (len := 1) (by decide +kernel) rfl
theorem x23_35 : Ze d 23 35 [l0, l1, l2] (aI b :: aI a :: st) s = Ze d 23 36 [l0, l1, l2] (aI (wrap (a - b)) :: st) s := Ze_n (i := .isub) (len := 1) (by decide +kernel) rfl
theorem x23_36 : Ze d 23 36 [l0, l1, l2] [aI z] s = rI z s := Ze_i1 (by decide +kernel) rfl
theorem en23 : Zc (d + 1) 23 [aR r, aI a1, aI a2] s = Ze d 23 0 [aR r, aI a1, aI a2] [] s := rfl
