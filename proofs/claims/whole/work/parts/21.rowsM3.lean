variable {d r q : Nat} {l0 l1 l2 l3 l4 l5 l6 l7 l8 l9 l10 l11 l12 l13 l14 l15 : AV} {st : List AV} {s : Mem} {a b z i n dp sp a0 a1 a2 a3 a4 a5 a6 : Int} {r0 r1 r2 r3 r4 : Nat}
theorem x36_0 : Ze d 36 0 [aR r, l1, l2] st s = Ze d 36 1 [aR r, l1, l2] (aR r :: st) s := Ze_n (i := (.aload_n 0)) (len := 1) (by decide +kernel) rfl
theorem x36_1 : Ze d 36 1 [l0, l1, l2] st s = Ze d 36 2 [l0, l1, l2] (aI 0 :: st) s := Ze_n (i := (.iconst 0)) (len := 1) (by decide +kernel) rfl
theorem x36_2 (h : obC r = 0) : Ze d 36 2 [l0, l1, l2] (aI z :: aR r :: st) s = Ze d 36 5 [l0, l1, l2] st (mu s r 50 z) := Ze_n (i := .putfield 303) (len := 3) (by decide +kernel) (if_pos h)
theorem x36_5 : Ze d 36 5 [aR r, l1, l2] st s = Ze d 36 6 [aR r, l1, l2] (aR r :: st) s := Ze_n (i := (.aload_n 0)) (len := 1) (by decide +kernel) rfl
theorem x36_6 : Ze d 36 6 [l0, l1, l2] st s = Ze d 36 7 [l0, l1, l2] (aI 0 :: st) s := Ze_n (i := (.iconst 0)) (len := 1) (by decide +kernel) rfl
theorem x36_7 (h : obC r = 0) : Ze d 36 7 [l0, l1, l2] (aI z :: aR r :: st) s = Ze d 36 10 [l0, l1, l2] st (mu s r 57 z) := Ze_n (i := .putfield 313) (len := 3) (by decide +kernel) (if_pos h)
theorem x36_10 : Ze d 36 10 [aR r, l1, l2] st s = Ze d 36 11 [aR r, l1, l2] (aR r :: st) s := Ze_n (i := (.aload_n 0)) (len := 1) (by decide +kernel) rfl
theorem x36_11 : Ze d 36 11 [l0, l1, l2] st s = Ze d 36 12 [l0, l1, l2] (aI 0 :: st) s := Ze_n (i := (.iconst 0)) (len := 1) (by decide +kernel) rfl
theorem x36_12 (h : obC r = 0) : Ze d 36 12 [l0, l1, l2] (aI z :: aR r :: st) s = Ze d 36 15 [l0, l1, l2] st (mu s r 58 z) := Ze_n (i := .putfield 322) (len := 3) (by decide +kernel) (if_pos h)
theorem x36_15 : Ze d 36 15 [l0, l1, l2] st s = Ze d 36 16 [l0, l1, l2] (aI 0 :: st) s := Ze_n (i := (.iconst 0)) (len := 1) (by decide +kernel) rfl
theorem x36_16 : Ze d 36 16 [l0, l1, l2] (aI z :: st) s = Ze d 36 17 [l0, aI z, l2] st s := Ze_n (i := (.istore_n 1)) (len := 1) (by decide +kernel) rfl
theorem x36_17 : Ze d 36 17 [l0, aI z, l2] st s = Ze d 36 18 [l0, aI z, l2] (aI z :: st) s := Ze_n (i := (.iload_n 1)) (len := 1) (by decide +kernel) rfl
theorem x36_18 : Ze d 36 18 [l0, l1, l2] st s = Ze d 36 20 [l0, l1, l2] (aI 26 :: st) s := Ze_n (i := (.bipush 26)) (len := 2) (by decide +kernel) rfl
theorem x36_20 : Ze d 36 20 [l0, l1, l2] (aI b :: aI a :: st) s = if a < b then Ze d 36 23 [l0, l1, l2] st s else Ze d 36 36 [l0, l1, l2] st s := Ze_b (i := (.if_icmp .ge 16)) (len := 3) (by decide +kernel) rfl
theorem x36_23 : Ze d 36 23 [aR r, l1, l2] st s = Ze d 36 24 [aR r, l1, l2] (aR r :: st) s := Ze_n (i := (.aload_n 0)) (len := 1) (by decide +kernel) rfl
theorem x36_24 (h : obC r = 0) : Ze d 36 24 [l0, l1, l2] (aR r :: st) s = Ze d 36 27 [l0, l1, l2] (aR (fcn r 41) :: st) s := Ze_gf (len := 3) (idx := 107) (by decide +kernel) rfl h rfl
theorem x36_27 : Ze d 36 27 [l0, aI z, l2] st s = Ze d 36 28 [l0, aI z, l2] (aI z :: st) s := Ze_n (i := (.iload_n 1)) (len := 1) (by decide +kernel) rfl
theorem x36_28 : Ze d 36 28 [l0, l1, l2] st s = Ze d 36 29 [l0, l1, l2] (aI (-1) :: st) s := Ze_n (i := (.iconst (-1))) (len := 1) (by decide +kernel) rfl
theorem x36_29 (h0 : 0 ≤ i) (h1 : i < aN1 r) : Ze d 36 29 [l0, l1, l2] (aI z :: aI i :: aR r :: st) s = Ze d 36 30 [l0, l1, l2] st (mu s r i.toNat z) := Ze_n (i := .iastore) (len := 1) (by decide +kernel) (if_pos ⟨h0, h1⟩)
theorem x36_30 : Ze d 36 30 [l0, aI z, l2] st s = Ze d 36 33 [l0, aI (wrap (z + 1)), l2] st s := Ze_n (i := (.iinc 1 1)) (len := 3) (by decide +kernel) rfl
theorem x36_33 : Ze d 36 33 [l0, l1, l2] st s = Ze d 36 17 [l0, l1, l2] st s := Ze_n (i := (.goto (-16))) (len := 3) (by decide +kernel) rfl
theorem x36_36 : Ze d 36 36 [l0, l1, l2] st s = Ze d 36 37 [l0, l1, l2] (aI 0 :: st) s := Ze_n (i := (.iconst 0)) (len := 1) (by decide +kernel) rfl
theorem x36_37 : Ze d 36 37 [l0, l1, l2] (aI z :: st) s = Ze d 36 38 [l0, aI z, l2] st s := Ze_n (i := (.istore_n 1)) (len := 1) (by decide +kernel) rfl
theorem x36_38 : Ze d 36 38 [l0, aI z, l2] st s = Ze d 36 39 [l0, aI z, l2] (aI z :: st) s := Ze_n (i := (.iload_n 1)) (len := 1) (by decide +kernel) rfl
theorem x36_39 : Ze d 36 39 [aR r, l1, l2] st s = Ze d 36 40 [aR r, l1, l2] (aR r :: st) s := Ze_n (i := (.aload_n 0)) (len := 1) (by decide +kernel) rfl
theorem x36_40 (h : obC r = 0) : Ze d 36 40 [l0, l1, l2] (aR r :: st) s = Ze d 36 43 [l0, l1, l2] (aI (s r 40) :: st) s := Ze_gf (len := 3) (idx := 268) (by decide +kernel) rfl h rfl
theorem x36_43 : Ze d 36 43 [l0, l1, l2] (aI b :: aI a :: st) s = if a < b then Ze d 36 46 [l0, l1, l2] st s else Ze d 36 164 [l0, l1, l2] st s := Ze_b (i := (.if_icmp .ge 121)) (len := 3) (by decide +kernel) rfl
theorem x36_46 : Ze d 36 46 [l0, l1, l2] st s = Ze d 36 47 [l0, l1, l2] (aI 1 :: st) s := Ze_n (i := (.iconst 1)) (len := 1) (by decide +kernel) rfl
theorem x36_47 : Ze d 36 47 [l0, l1, l2] (aI z :: st) s = Ze d 36 48 [l0, l1, aI z] st s := Ze_n (i := (.istore_n 2)) (len := 1) (by decide +kernel) rfl
theorem x36_48 : Ze d 36 48 [aR r, l1, l2] st s = Ze d 36 49 [aR r, l1, l2] (aR r :: st) s := Ze_n (i := (.aload_n 0)) (len := 1) (by decide +kernel) rfl
theorem x36_49 (h : obC r = 0) : Ze d 36 49 [l0, l1, l2] (aR r :: st) s = Ze d 36 52 [l0, l1, l2] (aR (fcn r 33) :: st) s := Ze_gf (len := 3) (idx := 86) (by decide +kernel) rfl h rfl
theorem x36_52 : Ze d 36 52 [l0, aI z, l2] st s = Ze d 36 53 [l0, aI z, l2] (aI z :: st) s := Ze_n (i := (.iload_n 1)) (len := 1) (by decide +kernel) rfl
theorem x36_53 (h0 : 0 ≤ i) (h1 : i < aN1 r) : Ze d 36 53 [l0, l1, l2] (aI i :: aR r :: st) s = Ze d 36 54 [l0, l1, l2] (aI (s r i.toNat) :: st) s := Ze_n (i := .iaload) (len := 1) (by decide +kernel) (if_pos ⟨h0, h1⟩)
theorem x36_54 : Ze d 36 54 [l0, l1, l2] st s = Ze d 36 55 [l0, l1, l2] (aI 4 :: st) s := Ze_n (i := (.iconst 4)) (len := 1) (by decide +kernel) rfl
theorem x36_55 : Ze d 36 55 [l0, l1, l2] (aI b :: aI a :: st) s = if a = b then Ze d 36 68 [l0, l1, l2] st s else Ze d 36 58 [l0, l1, l2] st s := Ze_b (i := (.if_icmp .eq 13)) (len := 3) (by decide +kernel) rfl
theorem x36_58 : Ze d 36 58 [aR r, l1, l2] st s = Ze d 36 59 [aR r, l1, l2] (aR r :: st) s := Ze_n (i := (.aload_n 0)) (len := 1) (by decide +kernel) rfl
theorem x36_59 (h : obC r = 0) : Ze d 36 59 [l0, l1, l2] (aR r :: st) s = Ze d 36 62 [l0, l1, l2] (aR (fcn r 33) :: st) s := Ze_gf (len := 3) (idx := 86) (by decide +kernel) rfl h rfl
theorem x36_62 : Ze d 36 62 [l0, aI z, l2] st s = Ze d 36 63 [l0, aI z, l2] (aI z :: st) s := Ze_n (i := (.iload_n 1)) (len := 1) (by decide +kernel) rfl
theorem x36_63 (h0 : 0 ≤ i) (h1 : i < aN1 r) : Ze d 36 63 [l0, l1, l2] (aI i :: aR r :: st) s = Ze d 36 64 [l0, l1, l2] (aI (s r i.toNat) :: st) s := Ze_n (i := .iaload) (len := 1) (by decide +kernel) (if_pos ⟨h0, h1⟩)
theorem x36_64 : Ze d 36 64 [l0, l1, l2] st s = Ze d 36 65 [l0, l1, l2] (aI 5 :: st) s := Ze_n (i := (.iconst 5)) (len := 1) (by decide +kernel) rfl
theorem x36_65 : Ze d 36 65 [l0, l1, l2] (aI b :: aI a :: st) s = if a = b then Ze d 36 68 [l0, l1, l2] st s else Ze d 36 77 [l0, l1, l2] st s := Ze_b (i := (.if_icmp .ne 12)) (len := 3) (by decide +kernel) rfl
theorem x36_68 : Ze d 36 68 [aR r, l1, l2] st s = Ze d 36 69 [aR r, l1, l2] (aR r :: st) s := Ze_n (i := (.aload_n 0)) (len := 1) (by decide +kernel) rfl
theorem x36_69 : Ze d 36 69 [l0, aI z, l2] st s = Ze d 36 70 [l0, aI z, l2] (aI z :: st) s := Ze_n (i := (.iload_n 1)) (len := 1) (by decide +kernel) rfl
theorem x36_70 (h : obC r = 0) (h6 : st.length ≤ 4) : Ze d 36 70 [l0, l1, l2] (aI a1 :: aR r :: st) s = zcI (Zc d 31 [aR r, aI a1] s) d 36 73 [l0, l1, l2] st := Ze_cvI (idx := 329) (len := 3) (as := [aI a1]) (by decide +kernel) rfl (by decide +kernel) rfl h h6
theorem x36_73 : Ze d 36 73 [l0, l1, l2] (aI z :: st) s = Ze d 36 74 [l0, l1, aI z] st s := Ze_n (i := (.istore_n 2)) (len := 1) (by decide +kernel) rfl
theorem x36_74 : Ze d 36 74 [l0, l1, l2] st s = Ze d 36 116 [l0, l1, l2] st s := Ze_n (i := (.goto 42)) (len := 3) (by decide +kernel) rfl
theorem x36_77 : Ze d 36 77 [aR r, l1, l2] st s = Ze d 36 78 [aR r, l1, l2] (aR r :: st) s := Ze_n (i := (.aload_n 0)) (len := 1) (by decide +kernel) rfl
theorem x36_78 (h : obC r = 0) : Ze d 36 78 [l0, l1, l2] (aR r :: st) s = Ze d 36 81 [l0, l1, l2] (aR (fcn r 33) :: st) s := Ze_gf (len := 3) (idx := 86) (by decide +kernel) rfl h rfl
theorem x36_81 : Ze d 36 81 [l0, aI z, l2] st s = Ze d 36 82 [l0, aI z, l2] (aI z :: st) s := Ze_n (i := (.iload_n 1)) (len := 1) (by decide +kernel) rfl
theorem x36_82 (h0 : 0 ≤ i) (h1 : i < aN1 r) : Ze d 36 82 [l0, l1, l2] (aI i :: aR r :: st) s = Ze d 36 83 [l0, l1, l2] (aI (s r i.toNat) :: st) s := Ze_n (i := .iaload) (len := 1) (by decide +kernel) (if_pos ⟨h0, h1⟩)
theorem x36_83 : Ze d 36 83 [l0, l1, l2] (aI a :: st) s = if a = 0 then Ze d 36 86 [l0, l1, l2] st s else Ze d 36 95 [l0, l1, l2] st s := Ze_b (i := (.ifCond .ne 12)) (len := 3) (by decide +kernel) rfl
theorem x36_86 : Ze d 36 86 [aR r, l1, l2] st s = Ze d 36 87 [aR r, l1, l2] (aR r :: st) s := Ze_n (i := (.aload_n 0)) (len := 1) (by decide +kernel) rfl
theorem x36_87 : Ze d 36 87 [l0, aI z, l2] st s = Ze d 36 88 [l0, aI z, l2] (aI z :: st) s := Ze_n (i := (.iload_n 1)) (len := 1) (by decide +kernel) rfl
theorem x36_88 (h : obC r = 0) (h6 : st.length ≤ 4) : Ze d 36 88 [l0, l1, l2] (aI a1 :: aR r :: st) s = zcI (Zc d 35 [aR r, aI a1] s) d 36 91 [l0, l1, l2] st := Ze_cvI (idx := 332) (len := 3) (as := [aI a1]) (by decide +kernel) rfl (by decide +kernel) rfl h h6
theorem x36_91 : Ze d 36 91 [l0, l1, l2] (aI z :: st) s = Ze d 36 92 [l0, l1, aI z] st s := Ze_n (i := (.istore_n 2)) (len := 1) (by decide +kernel) rfl
theorem x36_92 : Ze d 36 92 [l0, l1, l2] st s = Ze d 36 116 [l0, l1, l2] st s := Ze_n (i := (.goto 24)) (len := 3) (by decide +kernel) rfl
theorem x36_95 : Ze d 36 95 [aR r, l1, l2] st s = Ze d 36 96 [aR r, l1, l2] (aR r :: st) s := Ze_n (i := (.aload_n 0)) (len := 1) (by decide +kernel) rfl
theorem x36_96 (h : obC r = 0) : Ze d 36 96 [l0, l1, l2] (aR r :: st) s = Ze d 36 99 [l0, l1, l2] (aR (fcn r 33) :: st) s := Ze_gf (len := 3) (idx := 86) (by decide +kernel) rfl h rfl
theorem x36_99 : Ze d 36 99 [l0, aI z, l2] st s = Ze d 36 100 [l0, aI z, l2] (aI z :: st) s := Ze_n (i := (.iload_n 1)) (len := 1) (by decide +kernel) rfl
theorem x36_100 (h0 : 0 ≤ i) (h1 : i < aN1 r) : Ze d 36 100 [l0, l1, l2] (aI i :: aR r :: st) s = Ze d 36 101 [l0, l1, l2] (aI (s r i.toNat) :: st) s := Ze_n (i := .iaload) (len := 1) (by decide +kernel) (if_pos ⟨h0, h1⟩)
theorem x36_101 : Ze d 36 101 [l0, l1, l2] st s = Ze d 36 102 [l0, l1, l2] (aI 1 :: st) s := Ze_n (i := (.iconst 1)) (len := 1) (by decide +kernel) rfl
theorem x36_102 : Ze d 36 102 [l0, l1, l2] (aI b :: aI a :: st) s = if a = b then Ze d 36 105 [l0, l1, l2] st s else Ze d 36 116 [l0, l1, l2] st s := Ze_b (i := (.if_icmp .ne 14)) (len := 3) (by decide +kernel) rfl
theorem x36_105 : Ze d 36 105 [aR r, l1, l2] st s = Ze d 36 106 [aR r, l1, l2] (aR r :: st) s := Ze_n (i := (.aload_n 0)) (len := 1) (by decide +kernel) rfl
theorem x36_106 : Ze d 36 106 [aR r, l1, l2] st s = Ze d 36 107 [aR r, l1, l2] (aR r :: st) s := Ze_n (i := (.aload_n 0)) (len := 1) (by decide +kernel) rfl
theorem x36_107 (h : obC r = 0) : Ze d 36 107 [l0, l1, l2] (aR r :: st) s = Ze d 36 110 [l0, l1, l2] (aR (fcn r 37) :: st) s := Ze_gf (len := 3) (idx := 98) (by decide +kernel) rfl h rfl
theorem x36_110 : Ze d 36 110 [l0, aI z, l2] st s = Ze d 36 111 [l0, aI z, l2] (aI z :: st) s := Ze_n (i := (.iload_n 1)) (len := 1) (by decide +kernel) rfl
theorem x36_111 (h0 : 0 ≤ i) (h1 : i < aN1 r) : Ze d 36 111 [l0, l1, l2] (aI i :: aR r :: st) s = Ze d 36 112 [l0, l1, l2] (aI (s r i.toNat) :: st) s := Ze_n (i := .iaload) (len := 1) (by decide +kernel) (if_pos ⟨h0, h1⟩)
theorem x36_112 (h : obC r = 0) (h6 : st.length ≤ 4) : Ze d 36 112 [l0, l1, l2] (aI a1 :: aR r :: st) s = zcI (Zc d 29 [aR r, aI a1] s) d 36 115 [l0, l1, l2] st := Ze_cvI (idx := 306) (len := 3) (as := [aI a1]) (by decide +kernel) rfl (by decide +kernel) rfl h h6
theorem x36_115 : Ze d 36 115 [l0, l1, l2] (aI z :: st) s = Ze d 36 116 [l0, l1, aI z] st s := Ze_n (i := (.istore_n 2)) (len := 1) (by decide +kernel) rfl
theorem x36_116 : Ze d 36 116 [l0, l1, aI z] st s = Ze d 36 117 [l0, l1, aI z] (aI z :: st) s := Ze_n (i := (.iload_n 2)) (len := 1) (by decide +kernel) rfl
theorem x36_117 : Ze d 36 117 [l0, l1, l2] (aI a :: st) s = if a = 0 then Ze d 36 120 [l0, l1, l2] st s else Ze d 36 127 [l0, l1, l2] st s := Ze_b (i := (.ifCond .ne 10)) (len := 3) (by decide +kernel) rfl
theorem x36_120 : Ze d 36 120 [aR r, l1, l2] st s = Ze d 36 121 [aR r, l1, l2] (aR r :: st) s := Ze_n (i := (.aload_n 0)) (len := 1) (by decide +kernel) rfl
theorem x36_121 (h : obC r = 0) : Ze d 36 121 [l0, l1, l2] (aR r :: st) s = Ze d 36 124 [l0, l1, l2] (aR (fcn r 34) :: st) s := Ze_gf (len := 3) (idx := 89) (by decide +kernel) rfl h rfl
theorem x36_124 : Ze d 36 124 [l0, aI z, l2] st s = Ze d 36 125 [l0, aI z, l2] (aI z :: st) s := Ze_n (i := (.iload_n 1)) (len := 1) (by decide +kernel) rfl
theorem x36_125 (h0 : 0 ≤ i) (h1 : i < aN1 r) : Ze d 36 125 [l0, l1, l2] (aI i :: aR r :: st) s = Ze d 36 126 [l0, l1, l2] (aI (s r i.toNat) :: st) s := Ze_n (i := .iaload) (len := 1) (by decide +kernel) (if_pos ⟨h0, h1⟩)
theorem x36_126 : Ze d 36 126 [l0, l1, l2] [aI z] s = rI z s := Ze_i1 (by decide +kernel) rfl
theorem x36_127 : Ze d 36 127 [aR r, l1, l2] st s = Ze d 36 128 [aR r, l1, l2] (aR r :: st) s := Ze_n (i := (.aload_n 0)) (len := 1) (by decide +kernel) rfl
theorem x36_128 (h : obC r = 0) : Ze d 36 128 [l0, l1, l2] (aR r :: st) s = Ze d 36 131 [l0, l1, l2] (aR (fcn r 33) :: st) s := Ze_gf (len := 3) (idx := 86) (by decide +kernel) rfl h rfl
theorem x36_131 : Ze d 36 131 [l0, aI z, l2] st s = Ze d 36 132 [l0, aI z, l2] (aI z :: st) s := Ze_n (i := (.iload_n 1)) (len := 1) (by decide +kernel) rfl
theorem x36_132 (h0 : 0 ≤ i) (h1 : i < aN1 r) : Ze d 36 132 [l0, l1, l2] (aI i :: aR r :: st) s = Ze d 36 133 [l0, l1, l2] (aI (s r i.toNat) :: st) s := Ze_n (i := .iaload) (len := 1) (by decide +kernel) (if_pos ⟨h0, h1⟩)
theorem x36_133 : Ze d 36 133 [l0, l1, l2] st s = Ze d 36 134 [l0, l1, l2] (aI 1 :: st) s := Ze_n (i := (.iconst 1)) (len := 1) (by decide +kernel) rfl
theorem x36_134 : Ze d 36 134 [l0, l1, l2] st s = Ze d 36 135 [l0, l1, l2] (aI 3 :: st) s := Ze_n (i := (.iconst 3)) (len := 1) (by decide +kernel) rfl
theorem x36_135 (h6 : st.length ≤ 4) : Ze d 36 135 [l0, l1, l2] (aI a2 :: aI a1 :: aI a0 :: st) s = zcI (Zc d 1 [aI a0, aI a1, aI a2] s) d 36 138 [l0, l1, l2] st := Ze_csI (idx := 183) (len := 3) (as := [aI a0, aI a1, aI a2]) (by decide +kernel) rfl rfl (by decide +kernel) rfl h6
theorem x36_138 : Ze d 36 138 [l0, l1, l2] (aI a :: st) s = if a = 0 then Ze d 36 158 [l0, l1, l2] st s else Ze d 36 141 [l0, l1, l2] st s := Ze_b (i := (.ifCond .eq 20)) (len := 3) (by decide +kernel) rfl
theorem x36_141 : Ze d 36 141 [aR r, l1, l2] st s = Ze d 36 142 [aR r, l1, l2] (aR r :: st) s := Ze_n (i := (.aload_n 0)) (len := 1) (by decide +kernel) rfl
theorem x36_142 : Ze d 36 142 [aR r, l1, l2] st s = Ze d 36 143 [aR r, l1, l2] (aR r :: st) s := Ze_n (i := (.aload_n 0)) (len := 1) (by decide +kernel) rfl
theorem x36_143 (h : obC r = 0) : Ze d 36 143 [l0, l1, l2] (aR r :: st) s = Ze d 36 146 [l0, l1, l2] (aR (fcn r 33) :: st) s := Ze_gf (len := 3) (idx := 86) (by decide +kernel) rfl h rfl
theorem x36_146 : Ze d 36 146 [l0, aI z, l2] st s = Ze d 36 147 [l0, aI z, l2] (aI z :: st) s := Ze_n (i := (.iload_n 1)) (len := 1) (by decide +kernel) rfl
theorem x36_147 (h0 : 0 ≤ i) (h1 : i < aN1 r) : Ze d 36 147 [l0, l1, l2] (aI i :: aR r :: st) s = Ze d 36 148 [l0, l1, l2] (aI (s r i.toNat) :: st) s := Ze_n (i := .iaload) (len := 1) (by decide +kernel) (if_pos ⟨h0, h1⟩)
theorem x36_148 : Ze d 36 148 [l0, l1, l2] st s = Ze d 36 149 [l0, l1, l2] (aI (-1) :: st) s := Ze_n (i := (.iconst (-1))) (len := 1) (by decide +kernel) rfl
theorem x36_149 : Ze d 36 149 [aR r, l1, l2] st s = Ze d 36 150 [aR r, l1, l2] (aR r :: st) s := Ze_n (i := (.aload_n 0)) (len := 1) (by decide +kernel) rfl
theorem x36_150 (h : obC r = 0) : Ze d 36 150 [l0, l1, l2] (aR r :: st) s = Ze d 36 153 [l0, l1, l2] (aR (fcn r 37) :: st) s := Ze_gf (len := 3) (idx := 98) (by decide +kernel) rfl h rfl
theorem x36_153 : Ze d 36 153 [l0, aI z, l2] st s = Ze d 36 154 [l0, aI z, l2] (aI z :: st) s := Ze_n (i := (.iload_n 1)) (len := 1) (by decide +kernel) rfl
theorem x36_154 (h0 : 0 ≤ i) (h1 : i < aN1 r) : Ze d 36 154 [l0, l1, l2] (aI i :: aR r :: st) s = Ze d 36 155 [l0, l1, l2] (aI (s r i.toNat) :: st) s := Ze_n (i := .iaload) (len := 1) (by decide +kernel) (if_pos ⟨h0, h1⟩)
theorem x36_155 (h : obC r = 0) (h6 : st.length ≤ 4) : Ze d 36 155 [l0, l1, l2] (aI a3 :: aI a2 :: aI a1 :: aR r :: st) s = zcV (Zc d 33 [aR r, aI a1, aI a2, aI a3] s) d 36 158 [l0, l1, l2] st := Ze_cvV (idx := 319) (len := 3) (as := [aI a1, aI a2, aI a3]) (by decide +kernel) rfl (by decide +kernel) rfl h h6
theorem x36_158 : Ze d 36 158 [l0, aI z, l2] st s = Ze d 36 161 [l0, aI (wrap (z + 1)), l2] st s := Ze_n (i := (.iinc 1 1)) (len := 3) (by decide +kernel) rfl
theorem x36_161 : Ze d 36 161 [l0, l1, l2] st s = Ze d 36 38 [l0, l1, l2] st s := Ze_n (i := (.goto (-123))) (len := 3) (by decide +kernel) rfl
theorem x36_164 : Ze d 36 164 [l0, l1, l2] st s = Ze d 36 165 [l0, l1, l2] (aI (-1) :: st) s := Ze_n (i := (.iconst (-1))) (len := 1) (by decide +kernel) rfl
theorem x36_165 : Ze d 36 165 [l0, l1, l2] [aI z] s = rI z s := Ze_i1 (by decide +kernel) rfl
theorem en36 : Zc (d + 1) 36 [aR r] s = Ze d 36 0 [aR r, aU, aU] [] s := rfl
theorem x37_0 : Ze d 37 0 [l0, l1] st s = Ze d 37 1 [l0, l1] (aI 1 :: st) s := Ze_n (i := (.iconst 1)) (len := 1) (by decide +kernel) rfl
theorem x37_1 : Ze d 37 1 [l0, l1] (aI z :: st) s = Ze d 37 2 [l0, aI z] st s := Ze_n (i := (.istore_n 1)) (len := 1) (by decide +kernel) rfl
theorem x37_2 : Ze d 37 2 [aI z, l1] st s = Ze d 37 3 [aI z, l1] (aI z :: st) s := Ze_n (i := (.iload_n 0)) (len := 1) (by decide +kernel) rfl
theorem x37_3 : Ze d 37 3 [l0, aI z] st s = Ze d 37 4 [l0, aI z] (aI z :: st) s := Ze_n (i := (.iload_n 1)) (len := 1) (by decide +kernel) rfl
theorem x37_4 : Ze d 37 4 [l0, l1] (aI b :: aI a :: st) s = Ze d 37 5 [l0, l1] (aI (ishr a b) :: st) s := Ze_n (i := .ishr) (len := 1) (by decide +kernel) rfl
theorem x37_5 : Ze d 37 5 [l0, l1] (aI a :: st) s = if 0 < a then Ze d 37 8 [l0, l1] st s else Ze d 37 14 [l0, l1] st s := Ze_b (i := (.ifCond .le 9)) (len := 3) (by decide +kernel) rfl
theorem x37_8 : Ze d 37 8 [l0, aI z] st s = Ze d 37 11 [l0, aI (wrap (z + 1))] st s := Ze_n (i := (.iinc 1 1)) (len := 3) (by decide +kernel) rfl
theorem x37_11 : Ze d 37 11 [l0, l1] st s = Ze d 37 2 [l0, l1] st s := Ze_n (i := (.goto (-9))) (len := 3) (by decide +kernel) rfl
theorem x37_14 : Ze d 37 14 [l0, aI z] st s = Ze d 37 15 [l0, aI z] (aI z :: st) s := Ze_n (i := (.iload_n 1)) (len := 1) (by decide +kernel) rfl
theorem x37_15 : Ze d 37 15 [l0, l1] [aI z] s = rI z s := Ze_i1 (by decide +kernel) rfl
theorem en37 : Zc (d + 1) 37 [aI a0] s = Ze d 37 0 [aI a0, aU] [] s := rfl
theorem x38_0 : Ze d 38 0 [aI z, l1] st s = Ze d 38 1 [aI z, l1] (aI z :: st) s := Ze_n (i := (.iload_n 0)) (len := 1) (by decide +kernel) rfl
theorem x38_1 : Ze d 38 1 [l0, aI z] st s = Ze d 38 2 [l0, aI z] (aI z :: st) s := Ze_n (i := (.iload_n 1)) (len := 1) (by decide +kernel) rfl
theorem x38_2 : Ze d 38 2 [l0, l1] (aI b :: aI a :: st) s = if b < a then Ze d 38 5 [l0, l1] st s else Ze d 38 9 [l0, l1] st s := Ze_b (i := (.if_icmp .le 7)) (len := 3) (by decide +kernel) rfl
theorem x38_5 : Ze d 38 5 [aI z, l1] st s = Ze d 38 6 [aI z, l1] (aI z :: st) s := Ze_n (i := (.iload_n 0)) (len := 1) (by decide +kernel) rfl
theorem x38_6 : Ze d 38 6 [l0, l1] st s = Ze d 38 10 [l0, l1] st s := Ze_n (i := (.goto 4)) (len := 3) (by decide +kernel) rfl
theorem x38_9 : Ze d 38 9 [l0, aI z] st s = Ze d 38 10 [l0, aI z] (aI z :: st) s := Ze_n (i := (.iload_n 1)) (len := 1) (by decide +kernel) rfl
theorem x38_10 : Ze d 38 10 [l0, l1] [aI z] s = rI z s := Ze_i1 (by decide +kernel) rfl
theorem en38 : Zc (d + 1) 38 [aI a0, aI a1] s = Ze d 38 0 [aI a0, aI a1] [] s := rfl
theorem x39_0 : Ze d 39 0 [aR r, l1, l2, l3, l4] st s = Ze d 39 1 [aR r, l1, l2, l3, l4] (aR r :: st) s := Ze_n (i := (.aload_n 0)) (len := 1) (by decide +kernel) rfl
theorem x39_1 (h : obC r = 0) : Ze d 39 1 [l0, l1, l2, l3, l4] (aR r :: st) s = Ze d 39 4 [l0, l1, l2, l3, l4] (aR (fcn r 19) :: st) s := Ze_gf (len := 3) (idx := 47) (by decide +kernel) rfl h rfl
theorem x39_4 : Ze d 39 4 [l0, aI z, l2, l3, l4] st s = Ze d 39 5 [l0, aI z, l2, l3, l4] (aI z :: st) s := Ze_n (i := (.iload_n 1)) (len := 1) (by decide +kernel) rfl
theorem x39_5 (h0 : 0 ≤ i) (h1 : i < aN1 r) : Ze d 39 5 [l0, l1, l2, l3, l4] (aI i :: aR r :: st) s = Ze d 39 6 [l0, l1, l2, l3, l4] (aI (s r i.toNat) :: st) s := Ze_n (i := .iaload) (len := 1) (by decide +kernel) (if_pos ⟨h0, h1⟩)
theorem x39_6 : Ze d 39 6 [l0, l1, l2, l3, l4] st s = Ze d 39 7 [l0, l1, l2, l3, l4] (aI 2 :: st) s := Ze_n (i := (.iconst 2)) (len := 1) (by decide +kernel) rfl
theorem x39_7 : Ze d 39 7 [l0, l1, l2, l3, l4] (aI b :: aI a :: st) s = if a < b then Ze d 39 19 [l0, l1, l2, l3, l4] st s else Ze d 39 10 [l0, l1, l2, l3, l4] st s := Ze_b (i := (.if_icmp .lt 12)) (len := 3) (by decide +kernel) rfl
theorem x39_10 : Ze d 39 10 [aR r, l1, l2, l3, l4] st s = Ze d 39 11 [aR r, l1, l2, l3, l4] (aR r :: st) s := Ze_n (i := (.aload_n 0)) (len := 1) (by decide +kernel) rfl
theorem x39_11 (h : obC r = 0) : Ze d 39 11 [l0, l1, l2, l3, l4] (aR r :: st) s = Ze d 39 14 [l0, l1, l2, l3, l4] (aR (fcn r 22) :: st) s := Ze_gf (len := 3) (idx := 56) (by decide +kernel) rfl h rfl
theorem x39_14 : Ze d 39 14 [l0, aI z, l2, l3, l4] st s = Ze d 39 15 [l0, aI z, l2, l3, l4] (aI z :: st) s := Ze_n (i := (.iload_n 1)) (len := 1) (by decide +kernel) rfl
theorem x39_15 (h0 : 0 ≤ i) (h1 : i < aN1 r) : Ze d 39 15 [l0, l1, l2, l3, l4] (aI i :: aR r :: st) s = Ze d 39 16 [l0, l1, l2, l3, l4] (aI (s r i.toNat) :: st) s := Ze_n (i := .iaload) (len := 1) (by decide +kernel) (if_pos ⟨h0, h1⟩)
theorem x39_16 : Ze d 39 16 [l0, l1, l2, l3, l4] (aI a :: st) s = if a < 0 then Ze d 39 19 [l0, l1, l2, l3, l4] st s else Ze d 39 23 [l0, l1, l2, l3, l4] st s := Ze_b (i := (.ifCond .ge 7)) (len := 3) (by decide +kernel) rfl
theorem x39_19 : Ze d 39 19 [l0, l1, l2, l3, l4] st s = Ze d 39 20 [l0, l1, l2, l3, l4] (aI 0 :: st) s := Ze_n (i := (.iconst 0)) (len := 1) (by decide +kernel) rfl
theorem x39_20 : Ze d 39 20 [l0, l1, l2, l3, l4] st s = Ze d 39 34 [l0, l1, l2, l3, l4] st s := Ze_n (i := (.goto 14)) (len := 3) (by decide +kernel) rfl
theorem x39_23 : Ze d 39 23 [aR r, l1, l2, l3, l4] st s = Ze d 39 24 [aR r, l1, l2, l3, l4] (aR r :: st) s := Ze_n (i := (.aload_n 0)) (len := 1) (by decide +kernel) rfl
theorem x39_24 (h : obC r = 0) : Ze d 39 24 [l0, l1, l2, l3, l4] (aR r :: st) s = Ze d 39 27 [l0, l1, l2, l3, l4] (aR (fcn r 26) :: st) s := Ze_gf (len := 3) (idx := 68) (by decide +kernel) rfl h rfl
theorem x39_27 : Ze d 39 27 [aR r, l1, l2, l3, l4] st s = Ze d 39 28 [aR r, l1, l2, l3, l4] (aR r :: st) s := Ze_n (i := (.aload_n 0)) (len := 1) (by decide +kernel) rfl
theorem x39_28 (h : obC r = 0) : Ze d 39 28 [l0, l1, l2, l3, l4] (aR r :: st) s = Ze d 39 31 [l0, l1, l2, l3, l4] (aR (fcn r 22) :: st) s := Ze_gf (len := 3) (idx := 56) (by decide +kernel) rfl h rfl
theorem x39_31 : Ze d 39 31 [l0, aI z, l2, l3, l4] st s = Ze d 39 32 [l0, aI z, l2, l3, l4] (aI z :: st) s := Ze_n (i := (.iload_n 1)) (len := 1) (by decide +kernel) rfl
theorem x39_32 (h0 : 0 ≤ i) (h1 : i < aN1 r) : Ze d 39 32 [l0, l1, l2, l3, l4] (aI i :: aR r :: st) s = Ze d 39 33 [l0, l1, l2, l3, l4] (aI (s r i.toNat) :: st) s := Ze_n (i := .iaload) (len := 1) (by decide +kernel) (if_pos ⟨h0, h1⟩)
theorem x39_33 (h0 : 0 ≤ i) (h1 : i < aN1 r) : Ze d 39 33 [l0, l1, l2, l3, l4] (aI i :: aR r :: st) s = Ze d 39 34 [l0, l1, l2, l3, l4] (aI (s r i.toNat) :: st) s := Ze_n (i := .iaload) (len := 1) (by decide +kernel) (if_pos ⟨h0, h1⟩)
theorem x39_34 : Ze d 39 34 [l0, l1, l2, l3, l4] (aI z :: st) s = Ze d 39 35 [l0, l1, aI z, l3, l4] st s := Ze_n (i := (.istore_n 2)) (len := 1) (by decide +kernel) rfl
theorem x39_35 : Ze d 39 35 [aR r, l1, l2, l3, l4] st s = Ze d 39 36 [aR r, l1, l2, l3, l4] (aR r :: st) s := Ze_n (i := (.aload_n 0)) (len := 1) (by decide +kernel) rfl
theorem x39_36 (h : obC r = 0) : Ze d 39 36 [l0, l1, l2, l3, l4] (aR r :: st) s = Ze d 39 39 [l0, l1, l2, l3, l4] (aR (fcn r 19) :: st) s := Ze_gf (len := 3) (idx := 47) (by decide +kernel) rfl h rfl
theorem x39_39 : Ze d 39 39 [l0, aI z, l2, l3, l4] st s = Ze d 39 40 [l0, aI z, l2, l3, l4] (aI z :: st) s := Ze_n (i := (.iload_n 1)) (len := 1) (by decide +kernel) rfl
theorem x39_40 (h0 : 0 ≤ i) (h1 : i < aN1 r) : Ze d 39 40 [l0, l1, l2, l3, l4] (aI i :: aR r :: st) s = Ze d 39 41 [l0, l1, l2, l3, l4] (aI (s r i.toNat) :: st) s := Ze_n (i := .iaload) (len := 1) (by decide +kernel) (if_pos ⟨h0, h1⟩)
theorem x39_41 : Ze d 39 41 [l0, l1, l2, l3, l4] st s = Ze d 39 42 [l0, l1, l2, l3, l4] (aI 2 :: st) s := Ze_n (i := (.iconst 2)) (len := 1) (by decide +kernel) rfl
theorem x39_42 : Ze d 39 42 [l0, l1, l2, l3, l4] (aI b :: aI a :: st) s = if a < b then Ze d 39 54 [l0, l1, l2, l3, l4] st s else Ze d 39 45 [l0, l1, l2, l3, l4] st s := Ze_b (i := (.if_icmp .lt 12)) (len := 3) (by decide +kernel) rfl
theorem x39_45 : Ze d 39 45 [aR r, l1, l2, l3, l4] st s = Ze d 39 46 [aR r, l1, l2, l3, l4] (aR r :: st) s := Ze_n (i := (.aload_n 0)) (len := 1) (by decide +kernel) rfl
theorem x39_46 (h : obC r = 0) : Ze d 39 46 [l0, l1, l2, l3, l4] (aR r :: st) s = Ze d 39 49 [l0, l1, l2, l3, l4] (aR (fcn r 23) :: st) s := Ze_gf (len := 3) (idx := 59) (by decide +kernel) rfl h rfl
theorem x39_49 : Ze d 39 49 [l0, aI z, l2, l3, l4] st s = Ze d 39 50 [l0, aI z, l2, l3, l4] (aI z :: st) s := Ze_n (i := (.iload_n 1)) (len := 1) (by decide +kernel) rfl
theorem x39_50 (h0 : 0 ≤ i) (h1 : i < aN1 r) : Ze d 39 50 [l0, l1, l2, l3, l4] (aI i :: aR r :: st) s = Ze d 39 51 [l0, l1, l2, l3, l4] (aI (s r i.toNat) :: st) s := Ze_n (i := .iaload) (len := 1) (by decide +kernel) (if_pos ⟨h0, h1⟩)
theorem x39_51 : Ze d 39 51 [l0, l1, l2, l3, l4] (aI a :: st) s = if a < 0 then Ze d 39 54 [l0, l1, l2, l3, l4] st s else Ze d 39 58 [l0, l1, l2, l3, l4] st s := Ze_b (i := (.ifCond .ge 7)) (len := 3) (by decide +kernel) rfl
theorem x39_54 : Ze d 39 54 [l0, l1, l2, l3, l4] st s = Ze d 39 55 [l0, l1, l2, l3, l4] (aI 0 :: st) s := Ze_n (i := (.iconst 0)) (len := 1) (by decide +kernel) rfl
theorem x39_55 : Ze d 39 55 [l0, l1, l2, l3, l4] st s = Ze d 39 69 [l0, l1, l2, l3, l4] st s := Ze_n (i := (.goto 14)) (len := 3) (by decide +kernel) rfl
theorem x39_58 : Ze d 39 58 [aR r, l1, l2, l3, l4] st s = Ze d 39 59 [aR r, l1, l2, l3, l4] (aR r :: st) s := Ze_n (i := (.aload_n 0)) (len := 1) (by decide +kernel) rfl
theorem x39_59 (h : obC r = 0) : Ze d 39 59 [l0, l1, l2, l3, l4] (aR r :: st) s = Ze d 39 62 [l0, l1, l2, l3, l4] (aR (fcn r 26) :: st) s := Ze_gf (len := 3) (idx := 68) (by decide +kernel) rfl h rfl
theorem x39_62 : Ze d 39 62 [aR r, l1, l2, l3, l4] st s = Ze d 39 63 [aR r, l1, l2, l3, l4] (aR r :: st) s := Ze_n (i := (.aload_n 0)) (len := 1) (by decide +kernel) rfl
theorem x39_63 (h : obC r = 0) : Ze d 39 63 [l0, l1, l2, l3, l4] (aR r :: st) s = Ze d 39 66 [l0, l1, l2, l3, l4] (aR (fcn r 23) :: st) s := Ze_gf (len := 3) (idx := 59) (by decide +kernel) rfl h rfl
theorem x39_66 : Ze d 39 66 [l0, aI z, l2, l3, l4] st s = Ze d 39 67 [l0, aI z, l2, l3, l4] (aI z :: st) s := Ze_n (i := (.iload_n 1)) (len := 1) (by decide +kernel) rfl
theorem x39_67 (h0 : 0 ≤ i) (h1 : i < aN1 r) : Ze d 39 67 [l0, l1, l2, l3, l4] (aI i :: aR r :: st) s = Ze d 39 68 [l0, l1, l2, l3, l4] (aI (s r i.toNat) :: st) s := Ze_n (i := .iaload) (len := 1) (by decide +kernel) (if_pos ⟨h0, h1⟩)
theorem x39_68 (h0 : 0 ≤ i) (h1 : i < aN1 r) : Ze d 39 68 [l0, l1, l2, l3, l4] (aI i :: aR r :: st) s = Ze d 39 69 [l0, l1, l2, l3, l4] (aI (s r i.toNat) :: st) s := Ze_n (i := .iaload) (len := 1) (by decide +kernel) (if_pos ⟨h0, h1⟩)
theorem x39_69 : Ze d 39 69 [l0, l1, l2, l3, l4] (aI z :: st) s = Ze d 39 70 [l0, l1, l2, aI z, l4] st s := Ze_n (i := (.istore_n 3)) (len := 1) (by decide +kernel) rfl
theorem x39_70 : Ze d 39 70 [l0, l1, l2, l3, l4] st s = Ze d 39 71 [l0, l1, l2, l3, l4] (aI 0 :: st) s := Ze_n (i := (.iconst 0)) (len := 1) (by decide +kernel) rfl
theorem x39_71 : Ze d 39 71 [l0, l1, l2, l3, l4] (aI z :: st) s = Ze d 39 73 [l0, l1, l2, l3, aI z] st s := Ze_n (i := (.istore 4)) (len := 2) (by decide +kernel) rfl
theorem x39_73 : Ze d 39 73 [aR r, l1, l2, l3, l4] st s = Ze d 39 74 [aR r, l1, l2, l3, l4] (aR r :: st) s := Ze_n (i := (.aload_n 0)) (len := 1) (by decide +kernel) rfl
theorem x39_74 (h : obC r = 0) : Ze d 39 74 [l0, l1, l2, l3, l4] (aR r :: st) s = Ze d 39 77 [l0, l1, l2, l3, l4] (aR (fcn r 19) :: st) s := Ze_gf (len := 3) (idx := 47) (by decide +kernel) rfl h rfl
theorem x39_77 : Ze d 39 77 [l0, aI z, l2, l3, l4] st s = Ze d 39 78 [l0, aI z, l2, l3, l4] (aI z :: st) s := Ze_n (i := (.iload_n 1)) (len := 1) (by decide +kernel) rfl
theorem x39_78 (h0 : 0 ≤ i) (h1 : i < aN1 r) : Ze d 39 78 [l0, l1, l2, l3, l4] (aI i :: aR r :: st) s = Ze d 39 79 [l0, l1, l2, l3, l4] (aI (s r i.toNat) :: st) s := Ze_n (i := .iaload) (len := 1) (by decide +kernel) (if_pos ⟨h0, h1⟩)
theorem x39_79 : Ze d 39 79 [l0, l1, l2, l3, l4] (aI a :: st) s = if a = 0 then Ze d 39 160 [l0, l1, l2, l3, l4] st s else if a = 1 then Ze d 39 172 [l0, l1, l2, l3, l4] st s else if a = 33 then Ze d 39 204 [l0, l1, l2, l3, l4] st s else if a = 35 then Ze d 39 196 [l0, l1, l2, l3, l4] st s else if a = 43 then Ze d 39 182 [l0, l1, l2, l3, l4] st s else if a = 60 then Ze d 39 194 [l0, l1, l2, l3, l4] st s else if a = 61 then Ze d 39 194 [l0, l1, l2, l3, l4] st s else if a = 77 then Ze d 39 206 [l0, l1, l2, l3, l4] st s else if a = 84 then Ze d 39 226 [l0, l1, l2, l3, l4] st s else Ze d 39 242 [l0, l1, l2, l3, l4] st s :=
  Ze_lk (dflt := 163) (ps := #[(0, 81), (1, 93), (33, 125), (35, 117), (43, 103), (60, 115), (61, 115), (77, 127), (84, 147)]) (len := 81) (ks := [(0, 160), (1, 172), (33, 204), (35, 196), (43, 182), (60, 194), (61, 194), (77, 206), (84, 226)]) (df := 242) (by decide +kernel) (by decide +kernel) (by decide +kernel)
theorem x39_160 : Ze d 39 160 [aR r, l1, l2, l3, l4] st s = Ze d 39 161 [aR r, l1, l2, l3, l4] (aR r :: st) s := Ze_n (i := (.aload_n 0)) (len := 1) (by decide +kernel) rfl
theorem x39_161 (h : obC r = 0) : Ze d 39 161 [l0, l1, l2, l3, l4] (aR r :: st) s = Ze d 39 164 [l0, l1, l2, l3, l4] (aR (fcn r 47) :: st) s := Ze_gf (len := 3) (idx := 125) (by decide +kernel) rfl h rfl
theorem x39_164 : Ze d 39 164 [aR r, l1, l2, l3, l4] st s = Ze d 39 165 [aR r, l1, l2, l3, l4] (aR r :: st) s := Ze_n (i := (.aload_n 0)) (len := 1) (by decide +kernel) rfl
theorem x39_165 (h : obC r = 0) : Ze d 39 165 [l0, l1, l2, l3, l4] (aR r :: st) s = Ze d 39 168 [l0, l1, l2, l3, l4] (aR (fcn r 22) :: st) s := Ze_gf (len := 3) (idx := 56) (by decide +kernel) rfl h rfl
theorem x39_168 : Ze d 39 168 [l0, aI z, l2, l3, l4] st s = Ze d 39 169 [l0, aI z, l2, l3, l4] (aI z :: st) s := Ze_n (i := (.iload_n 1)) (len := 1) (by decide +kernel) rfl
theorem x39_169 (h0 : 0 ≤ i) (h1 : i < aN1 r) : Ze d 39 169 [l0, l1, l2, l3, l4] (aI i :: aR r :: st) s = Ze d 39 170 [l0, l1, l2, l3, l4] (aI (s r i.toNat) :: st) s := Ze_n (i := .iaload) (len := 1) (by decide +kernel) (if_pos ⟨h0, h1⟩)
theorem x39_170 (h0 : 0 ≤ i) (h1 : i < aN1 r) : Ze d 39 170 [l0, l1, l2, l3, l4] (aI i :: aR r :: st) s = Ze d 39 171 [l0, l1, l2, l3, l4] (aI (s r i.toNat) :: st) s := Ze_n (i := .iaload) (len := 1) (by decide +kernel) (if_pos ⟨h0, h1⟩)
theorem x39_171 : Ze d 39 171 [l0, l1, l2, l3, l4] [aI z] s = rI z s := Ze_i1 (by decide +kernel) rfl
theorem x39_172 : Ze d 39 172 [aR r, l1, l2, l3, l4] st s = Ze d 39 173 [aR r, l1, l2, l3, l4] (aR r :: st) s := Ze_n (i := (.aload_n 0)) (len := 1) (by decide +kernel) rfl
theorem x39_173 (h : obC r = 0) : Ze d 39 173 [l0, l1, l2, l3, l4] (aR r :: st) s = Ze d 39 176 [l0, l1, l2, l3, l4] (aR (fcn r 20) :: st) s := Ze_gf (len := 3) (idx := 50) (by decide +kernel) rfl h rfl
theorem x39_176 : Ze d 39 176 [l0, aI z, l2, l3, l4] st s = Ze d 39 177 [l0, aI z, l2, l3, l4] (aI z :: st) s := Ze_n (i := (.iload_n 1)) (len := 1) (by decide +kernel) rfl
theorem x39_177 (h0 : 0 ≤ i) (h1 : i < aN1 r) : Ze d 39 177 [l0, l1, l2, l3, l4] (aI i :: aR r :: st) s = Ze d 39 178 [l0, l1, l2, l3, l4] (aI (s r i.toNat) :: st) s := Ze_n (i := .iaload) (len := 1) (by decide +kernel) (if_pos ⟨h0, h1⟩)
theorem x39_178 (h6 : st.length ≤ 4) : Ze d 39 178 [l0, l1, l2, l3, l4] (aI a0 :: st) s = zcI (Zc d 37 [aI a0] s) d 39 181 [l0, l1, l2, l3, l4] st := Ze_csI (idx := 335) (len := 3) (as := [aI a0]) (by decide +kernel) rfl rfl (by decide +kernel) rfl h6
theorem x39_181 : Ze d 39 181 [l0, l1, l2, l3, l4] [aI z] s = rI z s := Ze_i1 (by decide +kernel) rfl
theorem x39_182 : Ze d 39 182 [l0, l1, aI z, l3, l4] st s = Ze d 39 183 [l0, l1, aI z, l3, l4] (aI z :: st) s := Ze_n (i := (.iload_n 2)) (len := 1) (by decide +kernel) rfl
theorem x39_183 : Ze d 39 183 [l0, l1, l2, aI z, l4] st s = Ze d 39 184 [l0, l1, l2, aI z, l4] (aI z :: st) s := Ze_n (i := (.iload_n 3)) (len := 1) (by decide +kernel) rfl
theorem x39_184 (h6 : st.length ≤ 4) : Ze d 39 184 [l0, l1, l2, l3, l4] (aI a1 :: aI a0 :: st) s = zcI (Zc d 38 [aI a0, aI a1] s) d 39 187 [l0, l1, l2, l3, l4] st := Ze_csI (idx := 338) (len := 3) (as := [aI a0, aI a1]) (by decide +kernel) rfl rfl (by decide +kernel) rfl h6
theorem x39_187 : Ze d 39 187 [l0, l1, l2, l3, l4] st s = Ze d 39 188 [l0, l1, l2, l3, l4] (aI 1 :: st) s := Ze_n (i := (.iconst 1)) (len := 1) (by decide +kernel) rfl
theorem x39_188 : Ze d 39 188 [l0, l1, l2, l3, l4] (aI b :: aI a :: st) s = Ze d 39 189 [l0, l1, l2, l3, l4] (aI (wrap (a + b)) :: st) s := Ze_n (i := .iadd) (len := 1) (by decide +kernel) rfl
theorem x39_189 : Ze d 39 189 [l0, l1, l2, l3, l4] (aI z :: st) s = Ze d 39 191 [l0, l1, l2, l3, aI z] st s := Ze_n (i := (.istore 4)) (len := 2) (by decide +kernel) rfl
theorem x39_191 : Ze d 39 191 [l0, l1, l2, l3, l4] st s = Ze d 39 249 [l0, l1, l2, l3, l4] st s := Ze_n (i := (.goto 58)) (len := 3) (by decide +kernel) rfl
theorem x39_194 : Ze d 39 194 [l0, l1, l2, l3, l4] st s = Ze d 39 195 [l0, l1, l2, l3, l4] (aI 1 :: st) s := Ze_n (i := (.iconst 1)) (len := 1) (by decide +kernel) rfl
theorem x39_195 : Ze d 39 195 [l0, l1, l2, l3, l4] [aI z] s = rI z s := Ze_i1 (by decide +kernel) rfl
theorem x39_196 : Ze d 39 196 [l0, l1, aI z, l3, l4] st s = Ze d 39 197 [l0, l1, aI z, l3, l4] (aI z :: st) s := Ze_n (i := (.iload_n 2)) (len := 1) (by decide +kernel) rfl
theorem x39_197 : Ze d 39 197 [l0, l1, l2, aI z, l4] st s = Ze d 39 198 [l0, l1, l2, aI z, l4] (aI z :: st) s := Ze_n (i := (.iload_n 3)) (len := 1) (by decide +kernel) rfl
theorem x39_198 : Ze d 39 198 [l0, l1, l2, l3, l4] (aI b :: aI a :: st) s = Ze d 39 199 [l0, l1, l2, l3, l4] (aI (wrap (a + b)) :: st) s := Ze_n (i := .iadd) (len := 1) (by decide +kernel) rfl
theorem x39_199 : Ze d 39 199 [l0, l1, l2, l3, l4] (aI z :: st) s = Ze d 39 201 [l0, l1, l2, l3, aI z] st s := Ze_n (i := (.istore 4)) (len := 2) (by decide +kernel) rfl
theorem x39_201 : Ze d 39 201 [l0, l1, l2, l3, l4] st s = Ze d 39 249 [l0, l1, l2, l3, l4] st s := Ze_n (i := (.goto 48)) (len := 3) (by decide +kernel) rfl
theorem x39_204 : Ze d 39 204 [l0, l1, aI z, l3, l4] st s = Ze d 39 205 [l0, l1, aI z, l3, l4] (aI z :: st) s := Ze_n (i := (.iload_n 2)) (len := 1) (by decide +kernel) rfl
theorem x39_205 : Ze d 39 205 [l0, l1, l2, l3, l4] [aI z] s = rI z s := Ze_i1 (by decide +kernel) rfl
theorem x39_206 : Ze d 39 206 [l0, l1, l2, aI z, l4] st s = Ze d 39 207 [l0, l1, l2, aI z, l4] (aI z :: st) s := Ze_n (i := (.iload_n 3)) (len := 1) (by decide +kernel) rfl
theorem x39_207 : Ze d 39 207 [aR r, l1, l2, l3, l4] st s = Ze d 39 208 [aR r, l1, l2, l3, l4] (aR r :: st) s := Ze_n (i := (.aload_n 0)) (len := 1) (by decide +kernel) rfl
theorem x39_208 (h : obC r = 0) : Ze d 39 208 [l0, l1, l2, l3, l4] (aR r :: st) s = Ze d 39 211 [l0, l1, l2, l3, l4] (aR (fcn r 26) :: st) s := Ze_gf (len := 3) (idx := 68) (by decide +kernel) rfl h rfl
theorem x39_211 : Ze d 39 211 [aR r, l1, l2, l3, l4] st s = Ze d 39 212 [aR r, l1, l2, l3, l4] (aR r :: st) s := Ze_n (i := (.aload_n 0)) (len := 1) (by decide +kernel) rfl
theorem x39_212 (h : obC r = 0) : Ze d 39 212 [l0, l1, l2, l3, l4] (aR r :: st) s = Ze d 39 215 [l0, l1, l2, l3, l4] (aR (fcn r 24) :: st) s := Ze_gf (len := 3) (idx := 62) (by decide +kernel) rfl h rfl
theorem x39_215 : Ze d 39 215 [l0, aI z, l2, l3, l4] st s = Ze d 39 216 [l0, aI z, l2, l3, l4] (aI z :: st) s := Ze_n (i := (.iload_n 1)) (len := 1) (by decide +kernel) rfl
theorem x39_216 (h0 : 0 ≤ i) (h1 : i < aN1 r) : Ze d 39 216 [l0, l1, l2, l3, l4] (aI i :: aR r :: st) s = Ze d 39 217 [l0, l1, l2, l3, l4] (aI (s r i.toNat) :: st) s := Ze_n (i := .iaload) (len := 1) (by decide +kernel) (if_pos ⟨h0, h1⟩)
theorem x39_217 (h0 : 0 ≤ i) (h1 : i < aN1 r) : Ze d 39 217 [l0, l1, l2, l3, l4] (aI i :: aR r :: st) s = Ze d 39 218 [l0, l1, l2, l3, l4] (aI (s r i.toNat) :: st) s := Ze_n (i := .iaload) (len := 1) (by decide +kernel) (if_pos ⟨h0, h1⟩)
theorem x39_218 (h6 : st.length ≤ 4) : Ze d 39 218 [l0, l1, l2, l3, l4] (aI a1 :: aI a0 :: st) s = zcI (Zc d 38 [aI a0, aI a1] s) d 39 221 [l0, l1, l2, l3, l4] st := Ze_csI (idx := 338) (len := 3) (as := [aI a0, aI a1]) (by decide +kernel) rfl rfl (by decide +kernel) rfl h6
theorem x39_221 : Ze d 39 221 [l0, l1, l2, l3, l4] (aI z :: st) s = Ze d 39 223 [l0, l1, l2, l3, aI z] st s := Ze_n (i := (.istore 4)) (len := 2) (by decide +kernel) rfl
theorem x39_223 : Ze d 39 223 [l0, l1, l2, l3, l4] st s = Ze d 39 249 [l0, l1, l2, l3, l4] st s := Ze_n (i := (.goto 26)) (len := 3) (by decide +kernel) rfl
theorem x39_226 : Ze d 39 226 [aR r, l1, l2, l3, l4] st s = Ze d 39 227 [aR r, l1, l2, l3, l4] (aR r :: st) s := Ze_n (i := (.aload_n 0)) (len := 1) (by decide +kernel) rfl
theorem x39_227 (h : obC r = 0) : Ze d 39 227 [l0, l1, l2, l3, l4] (aR r :: st) s = Ze d 39 230 [l0, l1, l2, l3, l4] (aR (fcn r 21) :: st) s := Ze_gf (len := 3) (idx := 53) (by decide +kernel) rfl h rfl
theorem x39_230 : Ze d 39 230 [l0, aI z, l2, l3, l4] st s = Ze d 39 231 [l0, aI z, l2, l3, l4] (aI z :: st) s := Ze_n (i := (.iload_n 1)) (len := 1) (by decide +kernel) rfl
theorem x39_231 (h0 : 0 ≤ i) (h1 : i < aN1 r) : Ze d 39 231 [l0, l1, l2, l3, l4] (aI i :: aR r :: st) s = Ze d 39 232 [l0, l1, l2, l3, l4] (aI (s r i.toNat) :: st) s := Ze_n (i := .iaload) (len := 1) (by decide +kernel) (if_pos ⟨h0, h1⟩)
theorem x39_232 : Ze d 39 232 [aR r, l1, l2, l3, l4] st s = Ze d 39 233 [aR r, l1, l2, l3, l4] (aR r :: st) s := Ze_n (i := (.aload_n 0)) (len := 1) (by decide +kernel) rfl
theorem x39_233 (h : obC r = 0) : Ze d 39 233 [l0, l1, l2, l3, l4] (aR r :: st) s = Ze d 39 236 [l0, l1, l2, l3, l4] (aR (fcn r 20) :: st) s := Ze_gf (len := 3) (idx := 50) (by decide +kernel) rfl h rfl
theorem x39_236 : Ze d 39 236 [l0, aI z, l2, l3, l4] st s = Ze d 39 237 [l0, aI z, l2, l3, l4] (aI z :: st) s := Ze_n (i := (.iload_n 1)) (len := 1) (by decide +kernel) rfl
theorem x39_237 (h0 : 0 ≤ i) (h1 : i < aN1 r) : Ze d 39 237 [l0, l1, l2, l3, l4] (aI i :: aR r :: st) s = Ze d 39 238 [l0, l1, l2, l3, l4] (aI (s r i.toNat) :: st) s := Ze_n (i := .iaload) (len := 1) (by decide +kernel) (if_pos ⟨h0, h1⟩)
theorem x39_238 : Ze d 39 238 [l0, l1, l2, l3, l4] (aI b :: aI a :: st) s = Ze d 39 239 [l0, l1, l2, l3, l4] (aI (wrap (a - b)) :: st) s := Ze_n (i := .isub) (len := 1) (by decide +kernel) rfl
theorem x39_239 : Ze d 39 239 [l0, l1, l2, l3, l4] st s = Ze d 39 240 [l0, l1, l2, l3, l4] (aI 1 :: st) s := Ze_n (i := (.iconst 1)) (len := 1) (by decide +kernel) rfl
theorem x39_240 : Ze d 39 240 [l0, l1, l2, l3, l4] (aI b :: aI a :: st) s = Ze d 39 241 [l0, l1, l2, l3, l4] (aI (wrap (a + b)) :: st) s := Ze_n (i := .iadd) (len := 1) (by decide +kernel) rfl
theorem x39_241 : Ze d 39 241 [l0, l1, l2, l3, l4] [aI z] s = rI z s := Ze_i1 (by decide +kernel) rfl
theorem x39_242 : Ze d 39 242 [l0, l1, aI z, l3, l4] st s = Ze d 39 243 [l0, l1, aI z, l3, l4] (aI z :: st) s := Ze_n (i := (.iload_n 2)) (len := 1) (by decide +kernel) rfl
theorem x39_243 : Ze d 39 243 [l0, l1, l2, aI z, l4] st s = Ze d 39 244 [l0, l1, l2, aI z, l4] (aI z :: st) s := Ze_n (i := (.iload_n 3)) (len := 1) (by decide +kernel) rfl
theorem x39_244 (h6 : st.length ≤ 4) : Ze d 39 244 [l0, l1, l2, l3, l4] (aI a1 :: aI a0 :: st) s = zcI (Zc d 38 [aI a0, aI a1] s) d 39 247 [l0, l1, l2, l3, l4] st := Ze_csI (idx := 338) (len := 3) (as := [aI a0, aI a1]) (by decide +kernel) rfl rfl (by decide +kernel) rfl h6
theorem x39_247 : Ze d 39 247 [l0, l1, l2, l3, l4] (aI z :: st) s = Ze d 39 249 [l0, l1, l2, l3, aI z] st s := Ze_n (i := (.istore 4)) (len := 2) (by decide +kernel) rfl
theorem x39_249 : Ze d 39 249 [l0, l1, l2, l3, aI z] st s = Ze d 39 251 [l0, l1, l2, l3, aI z] (aI z :: st) s := Ze_n (i := (.iload 4)) (len := 2) (by decide +kernel) rfl
theorem x39_251 : Ze d 39 251 [l0, l1, l2, l3, l4] st s = Ze d 39 253 [l0, l1, l2, l3, l4] (aI 17 :: st) s := Ze_n (i := (.bipush 17)) (len := 2) (by decide +kernel) rfl
theorem x39_253 : Ze d 39 253 [l0, l1, l2, l3, l4] (aI b :: aI a :: st) s = if b < a then Ze d 39 256 [l0, l1, l2, l3, l4] st s else Ze d 39 261 [l0, l1, l2, l3, l4] st s := Ze_b (i := (.if_icmp .le 8)) (len := 3) (by decide +kernel) rfl
theorem x39_256 : Ze d 39 256 [l0, l1, l2, l3, l4] st s = Ze d 39 258 [l0, l1, l2, l3, l4] (aI 17 :: st) s := Ze_n (i := (.bipush 17)) (len := 2) (by decide +kernel) rfl
theorem x39_258 : Ze d 39 258 [l0, l1, l2, l3, l4] st s = Ze d 39 263 [l0, l1, l2, l3, l4] st s := Ze_n (i := (.goto 5)) (len := 3) (by decide +kernel) rfl
theorem x39_261 : Ze d 39 261 [l0, l1, l2, l3, aI z] st s = Ze d 39 263 [l0, l1, l2, l3, aI z] (aI z :: st) s := Ze_n (i := (.iload 4)) (len := 2) (by decide +kernel) rfl
theorem x39_263 : Ze d 39 263 [l0, l1, l2, l3, l4] [aI z] s = rI z s := Ze_i1 (by decide +kernel) rfl
theorem en39 : Zc (d + 1) 39 [aR r, aI a1] s = Ze d 39 0 [aR r, aI a1, aU, aU, aU] [] s := rfl
theorem x40_0 : Ze d 40 0 [l0, l1, l2, l3, l4] st s = Ze d 40 1 [l0, l1, l2, l3, l4] (aI 0 :: st) s := Ze_n (i := (.iconst 0)) (len := 1) (by decide +kernel) rfl
theorem x40_1 : Ze d 40 1 [l0, l1, l2, l3, l4] (aI z :: st) s = Ze d 40 2 [l0, aI z, l2, l3, l4] st s := Ze_n (i := (.istore_n 1)) (len := 1) (by decide +kernel) rfl
theorem x40_2 : Ze d 40 2 [l0, aI z, l2, l3, l4] st s = Ze d 40 3 [l0, aI z, l2, l3, l4] (aI z :: st) s := Ze_n (i := (.iload_n 1)) (len := 1) (by decide +kernel) rfl
theorem x40_3 : Ze d 40 3 [aR r, l1, l2, l3, l4] st s = Ze d 40 4 [aR r, l1, l2, l3, l4] (aR r :: st) s := Ze_n (i := (.aload_n 0)) (len := 1) (by decide +kernel) rfl
theorem x40_4 (h : obC r = 0) : Ze d 40 4 [l0, l1, l2, l3, l4] (aR r :: st) s = Ze d 40 7 [l0, l1, l2, l3, l4] (aI (s r 50) :: st) s := Ze_gf (len := 3) (idx := 303) (by decide +kernel) rfl h rfl
theorem x40_7 : Ze d 40 7 [l0, l1, l2, l3, l4] (aI b :: aI a :: st) s = if a < b then Ze d 40 10 [l0, l1, l2, l3, l4] st s else Ze d 40 111 [l0, l1, l2, l3, l4] st s := Ze_b (i := (.if_icmp .ge 104)) (len := 3) (by decide +kernel) rfl
theorem x40_10 : Ze d 40 10 [aR r, l1, l2, l3, l4] st s = Ze d 40 11 [aR r, l1, l2, l3, l4] (aR r :: st) s := Ze_n (i := (.aload_n 0)) (len := 1) (by decide +kernel) rfl
theorem x40_11 (h : obC r = 0) : Ze d 40 11 [l0, l1, l2, l3, l4] (aR r :: st) s = Ze d 40 14 [l0, l1, l2, l3, l4] (aR (fcn r 47) :: st) s := Ze_gf (len := 3) (idx := 125) (by decide +kernel) rfl h rfl
theorem x40_14 : Ze d 40 14 [l0, aI z, l2, l3, l4] st s = Ze d 40 15 [l0, aI z, l2, l3, l4] (aI z :: st) s := Ze_n (i := (.iload_n 1)) (len := 1) (by decide +kernel) rfl
theorem x40_15 (h0 : 0 ≤ i) (h1 : i < aN1 r) : Ze d 40 15 [l0, l1, l2, l3, l4] (aI i :: aR r :: st) s = Ze d 40 16 [l0, l1, l2, l3, l4] (aI (s r i.toNat) :: st) s := Ze_n (i := .iaload) (len := 1) (by decide +kernel) (if_pos ⟨h0, h1⟩)
theorem x40_16 : Ze d 40 16 [l0, l1, l2, l3, l4] (aI a :: st) s = if a = 0 then Ze d 40 19 [l0, l1, l2, l3, l4] st s else Ze d 40 32 [l0, l1, l2, l3, l4] st s := Ze_b (i := (.ifCond .ne 16)) (len := 3) (by decide +kernel) rfl
theorem x40_19 : Ze d 40 19 [aR r, l1, l2, l3, l4] st s = Ze d 40 20 [aR r, l1, l2, l3, l4] (aR r :: st) s := Ze_n (i := (.aload_n 0)) (len := 1) (by decide +kernel) rfl
theorem x40_20 (h : obC r = 0) : Ze d 40 20 [l0, l1, l2, l3, l4] (aR r :: st) s = Ze d 40 23 [l0, l1, l2, l3, l4] (aR (fcn r 48) :: st) s := Ze_gf (len := 3) (idx := 128) (by decide +kernel) rfl h rfl
theorem x40_23 : Ze d 40 23 [l0, aI z, l2, l3, l4] st s = Ze d 40 24 [l0, aI z, l2, l3, l4] (aI z :: st) s := Ze_n (i := (.iload_n 1)) (len := 1) (by decide +kernel) rfl
theorem x40_24 (h0 : 0 ≤ i) (h1 : i < aN1 r) : Ze d 40 24 [l0, l1, l2, l3, l4] (aI i :: aR r :: st) s = Ze d 40 25 [l0, l1, l2, l3, l4] (aI (s r i.toNat) :: st) s := Ze_n (i := .iaload) (len := 1) (by decide +kernel) (if_pos ⟨h0, h1⟩)
theorem x40_25 : Ze d 40 25 [l0, l1, l2, l3, l4] (aI a :: st) s = if a < 0 then Ze d 40 28 [l0, l1, l2, l3, l4] st s else Ze d 40 32 [l0, l1, l2, l3, l4] st s := Ze_b (i := (.ifCond .ge 7)) (len := 3) (by decide +kernel) rfl
theorem x40_28 : Ze d 40 28 [l0, l1, l2, l3, l4] st s = Ze d 40 29 [l0, l1, l2, l3, l4] (aI 1 :: st) s := Ze_n (i := (.iconst 1)) (len := 1) (by decide +kernel) rfl
theorem x40_29 : Ze d 40 29 [l0, l1, l2, l3, l4] st s = Ze d 40 33 [l0, l1, l2, l3, l4] st s := Ze_n (i := (.goto 4)) (len := 3) (by decide +kernel) rfl
theorem x40_32 : Ze d 40 32 [l0, l1, l2, l3, l4] st s = Ze d 40 33 [l0, l1, l2, l3, l4] (aI 0 :: st) s := Ze_n (i := (.iconst 0)) (len := 1) (by decide +kernel) rfl
theorem x40_33 : Ze d 40 33 [l0, l1, l2, l3, l4] (aI z :: st) s = Ze d 40 34 [l0, l1, aI z, l3, l4] st s := Ze_n (i := (.istore_n 2)) (len := 1) (by decide +kernel) rfl
theorem x40_34 : Ze d 40 34 [l0, l1, l2, l3, l4] st s = Ze d 40 35 [l0, l1, l2, l3, l4] (aI 0 :: st) s := Ze_n (i := (.iconst 0)) (len := 1) (by decide +kernel) rfl
theorem x40_35 : Ze d 40 35 [l0, l1, l2, l3, l4] (aI z :: st) s = Ze d 40 36 [l0, l1, l2, aI z, l4] st s := Ze_n (i := (.istore_n 3)) (len := 1) (by decide +kernel) rfl
theorem x40_36 : Ze d 40 36 [aR r, l1, l2, l3, l4] st s = Ze d 40 37 [aR r, l1, l2, l3, l4] (aR r :: st) s := Ze_n (i := (.aload_n 0)) (len := 1) (by decide +kernel) rfl
theorem x40_37 (h : obC r = 0) : Ze d 40 37 [l0, l1, l2, l3, l4] (aR r :: st) s = Ze d 40 40 [l0, l1, l2, l3, l4] (aR (fcn r 46) :: st) s := Ze_gf (len := 3) (idx := 122) (by decide +kernel) rfl h rfl
theorem x40_40 : Ze d 40 40 [l0, aI z, l2, l3, l4] st s = Ze d 40 41 [l0, aI z, l2, l3, l4] (aI z :: st) s := Ze_n (i := (.iload_n 1)) (len := 1) (by decide +kernel) rfl
theorem x40_41 : Ze d 40 41 [l0, l1, l2, l3, l4] (aI a :: aR r :: st) s = Ze d 40 42 [l0, l1, l2, l3, l4] (aI a :: aR r :: aI a :: aR r :: st) s := Ze_n (i := .dup2) (len := 1) (by decide +kernel) rfl
theorem x40_42 (h0 : 0 ≤ i) (h1 : i < aN1 r) : Ze d 40 42 [l0, l1, l2, l3, l4] (aI i :: aR r :: st) s = Ze d 40 43 [l0, l1, l2, l3, l4] (aI (s r i.toNat) :: st) s := Ze_n (i := .iaload) (len := 1) (by decide +kernel) (if_pos ⟨h0, h1⟩)
theorem x40_43 : Ze d 40 43 [l0, l1, aI z, l3, l4] st s = Ze d 40 44 [l0, l1, aI z, l3, l4] (aI z :: st) s := Ze_n (i := (.iload_n 2)) (len := 1) (by decide +kernel) rfl
theorem x40_44 : Ze d 40 44 [l0, l1, l2, l3, l4] (aI a :: st) s = if a = 0 then Ze d 40 51 [l0, l1, l2, l3, l4] st s else Ze d 40 47 [l0, l1, l2, l3, l4] st s := Ze_b (i := (.ifCond .eq 7)) (len := 3) (by decide +kernel) rfl
theorem x40_47 : Ze d 40 47 [l0, l1, l2, l3, l4] st s = Ze d 40 48 [l0, l1, l2, l3, l4] (aI 2 :: st) s := Ze_n (i := (.iconst 2)) (len := 1) (by decide +kernel) rfl
theorem x40_48 : Ze d 40 48 [l0, l1, l2, l3, l4] st s = Ze d 40 52 [l0, l1, l2, l3, l4] st s := Ze_n (i := (.goto 4)) (len := 3) (by decide +kernel) rfl
theorem x40_51 : Ze d 40 51 [l0, l1, l2, l3, l4] st s = Ze d 40 52 [l0, l1, l2, l3, l4] (aI 0 :: st) s := Ze_n (i := (.iconst 0)) (len := 1) (by decide +kernel) rfl
theorem x40_52 : Ze d 40 52 [l0, l1, l2, l3, l4] (aI b :: aI a :: st) s = Ze d 40 53 [l0, l1, l2, l3, l4] (aI (wrap (a + b)) :: st) s := Ze_n (i := .iadd) (len := 1) (by decide +kernel) rfl
theorem x40_53 (h0 : 0 ≤ i) (h1 : i < aN1 r) : Ze d 40 53 [l0, l1, l2, l3, l4] (aI z :: aI i :: aR r :: st) s = Ze d 40 54 [l0, l1, l2, l3, l4] st (mu s r i.toNat z) := Ze_n (i := .iastore) (len := 1) (by decide +kernel) (if_pos ⟨h0, h1⟩)
theorem x40_54 : Ze d 40 54 [l0, l1, l2, l3, l4] st s = Ze d 40 55 [l0, l1, l2, l3, l4] (aI 0 :: st) s := Ze_n (i := (.iconst 0)) (len := 1) (by decide +kernel) rfl
theorem x40_55 : Ze d 40 55 [l0, l1, l2, l3, l4] (aI z :: st) s = Ze d 40 57 [l0, l1, l2, l3, aI z] st s := Ze_n (i := (.istore 4)) (len := 2) (by decide +kernel) rfl
theorem x40_57 : Ze d 40 57 [l0, l1, l2, l3, aI z] st s = Ze d 40 59 [l0, l1, l2, l3, aI z] (aI z :: st) s := Ze_n (i := (.iload 4)) (len := 2) (by decide +kernel) rfl
theorem x40_59 : Ze d 40 59 [aR r, l1, l2, l3, l4] st s = Ze d 40 60 [aR r, l1, l2, l3, l4] (aR r :: st) s := Ze_n (i := (.aload_n 0)) (len := 1) (by decide +kernel) rfl
theorem x40_60 (h : obC r = 0) : Ze d 40 60 [l0, l1, l2, l3, l4] (aR r :: st) s = Ze d 40 63 [l0, l1, l2, l3, l4] (aI (s r 57) :: st) s := Ze_gf (len := 3) (idx := 313) (by decide +kernel) rfl h rfl
theorem x40_63 : Ze d 40 63 [l0, l1, l2, l3, l4] (aI b :: aI a :: st) s = if a < b then Ze d 40 66 [l0, l1, l2, l3, l4] st s else Ze d 40 95 [l0, l1, l2, l3, l4] st s := Ze_b (i := (.if_icmp .ge 32)) (len := 3) (by decide +kernel) rfl
theorem x40_66 : Ze d 40 66 [aR r, l1, l2, l3, l4] st s = Ze d 40 67 [aR r, l1, l2, l3, l4] (aR r :: st) s := Ze_n (i := (.aload_n 0)) (len := 1) (by decide +kernel) rfl
theorem x40_67 (h : obC r = 0) : Ze d 40 67 [l0, l1, l2, l3, l4] (aR r :: st) s = Ze d 40 70 [l0, l1, l2, l3, l4] (aR (fcn r 54) :: st) s := Ze_gf (len := 3) (idx := 134) (by decide +kernel) rfl h rfl
theorem x40_70 : Ze d 40 70 [l0, l1, l2, l3, aI z] st s = Ze d 40 72 [l0, l1, l2, l3, aI z] (aI z :: st) s := Ze_n (i := (.iload 4)) (len := 2) (by decide +kernel) rfl
theorem x40_72 (h0 : 0 ≤ i) (h1 : i < aN1 r) : Ze d 40 72 [l0, l1, l2, l3, l4] (aI i :: aR r :: st) s = Ze d 40 73 [l0, l1, l2, l3, l4] (aI (s r i.toNat) :: st) s := Ze_n (i := .iaload) (len := 1) (by decide +kernel) (if_pos ⟨h0, h1⟩)
theorem x40_73 : Ze d 40 73 [l0, l1, l2, l3, l4] (aI a :: st) s = if a = 0 then Ze d 40 76 [l0, l1, l2, l3, l4] st s else Ze d 40 89 [l0, l1, l2, l3, l4] st s := Ze_b (i := (.ifCond .ne 16)) (len := 3) (by decide +kernel) rfl
theorem x40_76 : Ze d 40 76 [aR r, l1, l2, l3, l4] st s = Ze d 40 77 [aR r, l1, l2, l3, l4] (aR r :: st) s := Ze_n (i := (.aload_n 0)) (len := 1) (by decide +kernel) rfl
theorem x40_77 (h : obC r = 0) : Ze d 40 77 [l0, l1, l2, l3, l4] (aR r :: st) s = Ze d 40 80 [l0, l1, l2, l3, l4] (aR (fcn r 55) :: st) s := Ze_gf (len := 3) (idx := 137) (by decide +kernel) rfl h rfl
theorem x40_80 : Ze d 40 80 [l0, l1, l2, l3, aI z] st s = Ze d 40 82 [l0, l1, l2, l3, aI z] (aI z :: st) s := Ze_n (i := (.iload 4)) (len := 2) (by decide +kernel) rfl
theorem x40_82 (h0 : 0 ≤ i) (h1 : i < aN1 r) : Ze d 40 82 [l0, l1, l2, l3, l4] (aI i :: aR r :: st) s = Ze d 40 83 [l0, l1, l2, l3, l4] (aI (s r i.toNat) :: st) s := Ze_n (i := .iaload) (len := 1) (by decide +kernel) (if_pos ⟨h0, h1⟩)
theorem x40_83 : Ze d 40 83 [l0, aI z, l2, l3, l4] st s = Ze d 40 84 [l0, aI z, l2, l3, l4] (aI z :: st) s := Ze_n (i := (.iload_n 1)) (len := 1) (by decide +kernel) rfl
theorem x40_84 : Ze d 40 84 [l0, l1, l2, l3, l4] (aI b :: aI a :: st) s = if a = b then Ze d 40 87 [l0, l1, l2, l3, l4] st s else Ze d 40 89 [l0, l1, l2, l3, l4] st s := Ze_b (i := (.if_icmp .ne 5)) (len := 3) (by decide +kernel) rfl
theorem x40_87 : Ze d 40 87 [l0, l1, l2, l3, l4] st s = Ze d 40 88 [l0, l1, l2, l3, l4] (aI 1 :: st) s := Ze_n (i := (.iconst 1)) (len := 1) (by decide +kernel) rfl
theorem x40_88 : Ze d 40 88 [l0, l1, l2, l3, l4] (aI z :: st) s = Ze d 40 89 [l0, l1, l2, aI z, l4] st s := Ze_n (i := (.istore_n 3)) (len := 1) (by decide +kernel) rfl
theorem x40_89 : Ze d 40 89 [l0, l1, l2, l3, aI z] st s = Ze d 40 92 [l0, l1, l2, l3, aI (wrap (z + 1))] st s := Ze_n (i := (.iinc 4 1)) (len := 3) (by decide +kernel) rfl
theorem x40_92 : Ze d 40 92 [l0, l1, l2, l3, l4] st s = Ze d 40 57 [l0, l1, l2, l3, l4] st s := Ze_n (i := (.goto (-35))) (len := 3) (by decide +kernel) rfl
theorem x40_95 : Ze d 40 95 [l0, l1, aI z, l3, l4] st s = Ze d 40 96 [l0, l1, aI z, l3, l4] (aI z :: st) s := Ze_n (i := (.iload_n 2)) (len := 1) (by decide +kernel) rfl
theorem x40_96 : Ze d 40 96 [l0, l1, l2, l3, l4] (aI a :: st) s = if a = 0 then Ze d 40 105 [l0, l1, l2, l3, l4] st s else Ze d 40 99 [l0, l1, l2, l3, l4] st s := Ze_b (i := (.ifCond .eq 9)) (len := 3) (by decide +kernel) rfl
theorem x40_99 : Ze d 40 99 [l0, l1, l2, aI z, l4] st s = Ze d 40 100 [l0, l1, l2, aI z, l4] (aI z :: st) s := Ze_n (i := (.iload_n 3)) (len := 1) (by decide +kernel) rfl
theorem x40_100 : Ze d 40 100 [l0, l1, l2, l3, l4] (aI a :: st) s = if a = 0 then Ze d 40 103 [l0, l1, l2, l3, l4] st s else Ze d 40 105 [l0, l1, l2, l3, l4] st s := Ze_b (i := (.ifCond .ne 5)) (len := 3) (by decide +kernel) rfl
theorem x40_103 : Ze d 40 103 [l0, l1, l2, l3, l4] st s = Ze d 40 104 [l0, l1, l2, l3, l4] (aI 0 :: st) s := Ze_n (i := (.iconst 0)) (len := 1) (by decide +kernel) rfl
theorem x40_104 (h : z = 0 ∨ z = 1) : Ze d 40 104 [l0, l1, l2, l3, l4] [aI z] s = rI z s := Ze_i2 (by decide +kernel) rfl h
theorem x40_105 : Ze d 40 105 [l0, aI z, l2, l3, l4] st s = Ze d 40 108 [l0, aI (wrap (z + 1)), l2, l3, l4] st s := Ze_n (i := (.iinc 1 1)) (len := 3) (by decide +kernel) rfl
theorem x40_108 : Ze d 40 108 [l0, l1, l2, l3, l4] st s = Ze d 40 2 [l0, l1, l2, l3, l4] st s := Ze_n (i := (.goto (-106))) (len := 3) (by decide +kernel) rfl
theorem x40_111 : Ze d 40 111 [l0, l1, l2, l3, l4] st s = Ze d 40 112 [l0, l1, l2, l3, l4] (aI 1 :: st) s := Ze_n (i := (.iconst 1)) (len := 1) (by decide +kernel) rfl
theorem x40_112 : Ze d 40 112 [l0, l1, l2, l3, l4] (aI z :: st) s = Ze d 40 113 [l0, aI z, l2, l3, l4] st s := Ze_n (i := (.istore_n 1)) (len := 1) (by decide +kernel) rfl
theorem x40_113 : Ze d 40 113 [l0, aI z, l2, l3, l4] st s = Ze d 40 114 [l0, aI z, l2, l3, l4] (aI z :: st) s := Ze_n (i := (.iload_n 1)) (len := 1) (by decide +kernel) rfl
theorem x40_114 : Ze d 40 114 [l0, l1, l2, l3, l4] (aI a :: st) s = if a = 0 then Ze d 40 364 [l0, l1, l2, l3, l4] st s else Ze d 40 117 [l0, l1, l2, l3, l4] st s := Ze_b (i := (.ifCond .eq 250)) (len := 3) (by decide +kernel) rfl
theorem x40_117 : Ze d 40 117 [l0, l1, l2, l3, l4] st s = Ze d 40 118 [l0, l1, l2, l3, l4] (aI 0 :: st) s := Ze_n (i := (.iconst 0)) (len := 1) (by decide +kernel) rfl
theorem x40_118 : Ze d 40 118 [l0, l1, l2, l3, l4] (aI z :: st) s = Ze d 40 119 [l0, aI z, l2, l3, l4] st s := Ze_n (i := (.istore_n 1)) (len := 1) (by decide +kernel) rfl
theorem x40_119 : Ze d 40 119 [aR r, l1, l2, l3, l4] st s = Ze d 40 120 [aR r, l1, l2, l3, l4] (aR r :: st) s := Ze_n (i := (.aload_n 0)) (len := 1) (by decide +kernel) rfl
theorem x40_120 (h : obC r = 0) : Ze d 40 120 [l0, l1, l2, l3, l4] (aR r :: st) s = Ze d 40 123 [l0, l1, l2, l3, l4] (aI (s r 32) :: st) s := Ze_gf (len := 3) (idx := 246) (by decide +kernel) rfl h rfl
theorem x40_123 : Ze d 40 123 [l0, l1, l2, l3, l4] st s = Ze d 40 124 [l0, l1, l2, l3, l4] (aI 1 :: st) s := Ze_n (i := (.iconst 1)) (len := 1) (by decide +kernel) rfl
theorem x40_124 : Ze d 40 124 [l0, l1, l2, l3, l4] (aI b :: aI a :: st) s = Ze d 40 125 [l0, l1, l2, l3, l4] (aI (wrap (a - b)) :: st) s := Ze_n (i := .isub) (len := 1) (by decide +kernel) rfl
theorem x40_125 : Ze d 40 125 [l0, l1, l2, l3, l4] (aI z :: st) s = Ze d 40 126 [l0, l1, aI z, l3, l4] st s := Ze_n (i := (.istore_n 2)) (len := 1) (by decide +kernel) rfl
theorem x40_126 : Ze d 40 126 [l0, l1, aI z, l3, l4] st s = Ze d 40 127 [l0, l1, aI z, l3, l4] (aI z :: st) s := Ze_n (i := (.iload_n 2)) (len := 1) (by decide +kernel) rfl
theorem x40_127 : Ze d 40 127 [l0, l1, l2, l3, l4] (aI a :: st) s = if a < 0 then Ze d 40 182 [l0, l1, l2, l3, l4] st s else Ze d 40 130 [l0, l1, l2, l3, l4] st s := Ze_b (i := (.ifCond .lt 55)) (len := 3) (by decide +kernel) rfl
theorem x40_130 : Ze d 40 130 [aR r, l1, l2, l3, l4] st s = Ze d 40 131 [aR r, l1, l2, l3, l4] (aR r :: st) s := Ze_n (i := (.aload_n 0)) (len := 1) (by decide +kernel) rfl
theorem x40_131 (h : obC r = 0) : Ze d 40 131 [l0, l1, l2, l3, l4] (aR r :: st) s = Ze d 40 134 [l0, l1, l2, l3, l4] (aR (fcn r 26) :: st) s := Ze_gf (len := 3) (idx := 68) (by decide +kernel) rfl h rfl
theorem x40_134 : Ze d 40 134 [l0, l1, aI z, l3, l4] st s = Ze d 40 135 [l0, l1, aI z, l3, l4] (aI z :: st) s := Ze_n (i := (.iload_n 2)) (len := 1) (by decide +kernel) rfl
theorem x40_135 : Ze d 40 135 [aR r, l1, l2, l3, l4] st s = Ze d 40 136 [aR r, l1, l2, l3, l4] (aR r :: st) s := Ze_n (i := (.aload_n 0)) (len := 1) (by decide +kernel) rfl
theorem x40_136 (h : obC r = 0) : Ze d 40 136 [l0, l1, l2, l3, l4] (aR r :: st) s = Ze d 40 139 [l0, l1, l2, l3, l4] (aR (fcn r 19) :: st) s := Ze_gf (len := 3) (idx := 47) (by decide +kernel) rfl h rfl
theorem x40_139 : Ze d 40 139 [l0, l1, aI z, l3, l4] st s = Ze d 40 140 [l0, l1, aI z, l3, l4] (aI z :: st) s := Ze_n (i := (.iload_n 2)) (len := 1) (by decide +kernel) rfl
theorem x40_140 (h0 : 0 ≤ i) (h1 : i < aN1 r) : Ze d 40 140 [l0, l1, l2, l3, l4] (aI i :: aR r :: st) s = Ze d 40 141 [l0, l1, l2, l3, l4] (aI (s r i.toNat) :: st) s := Ze_n (i := .iaload) (len := 1) (by decide +kernel) (if_pos ⟨h0, h1⟩)
theorem x40_141 : Ze d 40 141 [l0, l1, l2, l3, l4] (aI a :: st) s = if a = 0 then Ze d 40 144 [l0, l1, l2, l3, l4] st s else Ze d 40 157 [l0, l1, l2, l3, l4] st s := Ze_b (i := (.ifCond .ne 16)) (len := 3) (by decide +kernel) rfl
theorem x40_144 : Ze d 40 144 [aR r, l1, l2, l3, l4] st s = Ze d 40 145 [aR r, l1, l2, l3, l4] (aR r :: st) s := Ze_n (i := (.aload_n 0)) (len := 1) (by decide +kernel) rfl
theorem x40_145 (h : obC r = 0) : Ze d 40 145 [l0, l1, l2, l3, l4] (aR r :: st) s = Ze d 40 148 [l0, l1, l2, l3, l4] (aR (fcn r 22) :: st) s := Ze_gf (len := 3) (idx := 56) (by decide +kernel) rfl h rfl
theorem x40_148 : Ze d 40 148 [l0, l1, aI z, l3, l4] st s = Ze d 40 149 [l0, l1, aI z, l3, l4] (aI z :: st) s := Ze_n (i := (.iload_n 2)) (len := 1) (by decide +kernel) rfl
theorem x40_149 (h0 : 0 ≤ i) (h1 : i < aN1 r) : Ze d 40 149 [l0, l1, l2, l3, l4] (aI i :: aR r :: st) s = Ze d 40 150 [l0, l1, l2, l3, l4] (aI (s r i.toNat) :: st) s := Ze_n (i := .iaload) (len := 1) (by decide +kernel) (if_pos ⟨h0, h1⟩)
theorem x40_150 : Ze d 40 150 [l0, l1, l2, l3, l4] (aI a :: st) s = if a < 0 then Ze d 40 153 [l0, l1, l2, l3, l4] st s else Ze d 40 157 [l0, l1, l2, l3, l4] st s := Ze_b (i := (.ifCond .ge 7)) (len := 3) (by decide +kernel) rfl
theorem x40_153 : Ze d 40 153 [l0, l1, l2, l3, l4] st s = Ze d 40 154 [l0, l1, l2, l3, l4] (aI 0 :: st) s := Ze_n (i := (.iconst 0)) (len := 1) (by decide +kernel) rfl
theorem x40_154 : Ze d 40 154 [l0, l1, l2, l3, l4] st s = Ze d 40 162 [l0, l1, l2, l3, l4] st s := Ze_n (i := (.goto 8)) (len := 3) (by decide +kernel) rfl
theorem x40_157 : Ze d 40 157 [aR r, l1, l2, l3, l4] st s = Ze d 40 158 [aR r, l1, l2, l3, l4] (aR r :: st) s := Ze_n (i := (.aload_n 0)) (len := 1) (by decide +kernel) rfl
theorem x40_158 : Ze d 40 158 [l0, l1, aI z, l3, l4] st s = Ze d 40 159 [l0, l1, aI z, l3, l4] (aI z :: st) s := Ze_n (i := (.iload_n 2)) (len := 1) (by decide +kernel) rfl
theorem x40_159 (h : obC r = 0) (h6 : st.length ≤ 4) : Ze d 40 159 [l0, l1, l2, l3, l4] (aI a1 :: aR r :: st) s = zcI (Zc d 39 [aR r, aI a1] s) d 40 162 [l0, l1, l2, l3, l4] st := Ze_cvI (idx := 341) (len := 3) (as := [aI a1]) (by decide +kernel) rfl (by decide +kernel) rfl h h6
theorem x40_162 (h0 : 0 ≤ i) (h1 : i < aN1 r) : Ze d 40 162 [l0, l1, l2, l3, l4] (aI z :: aI i :: aR r :: st) s = Ze d 40 163 [l0, l1, l2, l3, l4] st (mu s r i.toNat z) := Ze_n (i := .iastore) (len := 1) (by decide +kernel) (if_pos ⟨h0, h1⟩)
theorem x40_163 : Ze d 40 163 [aR r, l1, l2, l3, l4] st s = Ze d 40 164 [aR r, l1, l2, l3, l4] (aR r :: st) s := Ze_n (i := (.aload_n 0)) (len := 1) (by decide +kernel) rfl
theorem x40_164 (h : obC r = 0) : Ze d 40 164 [l0, l1, l2, l3, l4] (aR r :: st) s = Ze d 40 167 [l0, l1, l2, l3, l4] (aR (fcn r 26) :: st) s := Ze_gf (len := 3) (idx := 68) (by decide +kernel) rfl h rfl
theorem x40_167 : Ze d 40 167 [l0, l1, aI z, l3, l4] st s = Ze d 40 168 [l0, l1, aI z, l3, l4] (aI z :: st) s := Ze_n (i := (.iload_n 2)) (len := 1) (by decide +kernel) rfl
theorem x40_168 (h0 : 0 ≤ i) (h1 : i < aN1 r) : Ze d 40 168 [l0, l1, l2, l3, l4] (aI i :: aR r :: st) s = Ze d 40 169 [l0, l1, l2, l3, l4] (aI (s r i.toNat) :: st) s := Ze_n (i := .iaload) (len := 1) (by decide +kernel) (if_pos ⟨h0, h1⟩)
theorem x40_169 : Ze d 40 169 [l0, l1, l2, l3, l4] st s = Ze d 40 171 [l0, l1, l2, l3, l4] (aI 16 :: st) s := Ze_n (i := (.bipush 16)) (len := 2) (by decide +kernel) rfl
theorem x40_171 : Ze d 40 171 [l0, l1, l2, l3, l4] (aI b :: aI a :: st) s = if b < a then Ze d 40 174 [l0, l1, l2, l3, l4] st s else Ze d 40 176 [l0, l1, l2, l3, l4] st s := Ze_b (i := (.if_icmp .le 5)) (len := 3) (by decide +kernel) rfl
theorem x40_174 : Ze d 40 174 [l0, l1, l2, l3, l4] st s = Ze d 40 175 [l0, l1, l2, l3, l4] (aI 0 :: st) s := Ze_n (i := (.iconst 0)) (len := 1) (by decide +kernel) rfl
theorem x40_175 (h : z = 0 ∨ z = 1) : Ze d 40 175 [l0, l1, l2, l3, l4] [aI z] s = rI z s := Ze_i2 (by decide +kernel) rfl h
theorem x40_176 : Ze d 40 176 [l0, l1, aI z, l3, l4] st s = Ze d 40 179 [l0, l1, aI (wrap (z + (-1))), l3, l4] st s := Ze_n (i := (.iinc 2 (-1))) (len := 3) (by decide +kernel) rfl
theorem x40_179 : Ze d 40 179 [l0, l1, l2, l3, l4] st s = Ze d 40 126 [l0, l1, l2, l3, l4] st s := Ze_n (i := (.goto (-53))) (len := 3) (by decide +kernel) rfl
theorem x40_182 : Ze d 40 182 [l0, l1, l2, l3, l4] st s = Ze d 40 183 [l0, l1, l2, l3, l4] (aI 0 :: st) s := Ze_n (i := (.iconst 0)) (len := 1) (by decide +kernel) rfl
theorem x40_183 : Ze d 40 183 [l0, l1, l2, l3, l4] (aI z :: st) s = Ze d 40 184 [l0, l1, aI z, l3, l4] st s := Ze_n (i := (.istore_n 2)) (len := 1) (by decide +kernel) rfl
theorem x40_184 : Ze d 40 184 [l0, l1, aI z, l3, l4] st s = Ze d 40 185 [l0, l1, aI z, l3, l4] (aI z :: st) s := Ze_n (i := (.iload_n 2)) (len := 1) (by decide +kernel) rfl
theorem x40_185 : Ze d 40 185 [aR r, l1, l2, l3, l4] st s = Ze d 40 186 [aR r, l1, l2, l3, l4] (aR r :: st) s := Ze_n (i := (.aload_n 0)) (len := 1) (by decide +kernel) rfl
theorem x40_186 (h : obC r = 0) : Ze d 40 186 [l0, l1, l2, l3, l4] (aR r :: st) s = Ze d 40 189 [l0, l1, l2, l3, l4] (aI (s r 50) :: st) s := Ze_gf (len := 3) (idx := 303) (by decide +kernel) rfl h rfl
theorem x40_189 : Ze d 40 189 [l0, l1, l2, l3, l4] (aI b :: aI a :: st) s = if a < b then Ze d 40 192 [l0, l1, l2, l3, l4] st s else Ze d 40 249 [l0, l1, l2, l3, l4] st s := Ze_b (i := (.if_icmp .ge 60)) (len := 3) (by decide +kernel) rfl
theorem x40_192 : Ze d 40 192 [aR r, l1, l2, l3, l4] st s = Ze d 40 193 [aR r, l1, l2, l3, l4] (aR r :: st) s := Ze_n (i := (.aload_n 0)) (len := 1) (by decide +kernel) rfl
theorem x40_193 (h : obC r = 0) : Ze d 40 193 [l0, l1, l2, l3, l4] (aR r :: st) s = Ze d 40 196 [l0, l1, l2, l3, l4] (aR (fcn r 48) :: st) s := Ze_gf (len := 3) (idx := 128) (by decide +kernel) rfl h rfl
theorem x40_196 : Ze d 40 196 [l0, l1, aI z, l3, l4] st s = Ze d 40 197 [l0, l1, aI z, l3, l4] (aI z :: st) s := Ze_n (i := (.iload_n 2)) (len := 1) (by decide +kernel) rfl
theorem x40_197 (h0 : 0 ≤ i) (h1 : i < aN1 r) : Ze d 40 197 [l0, l1, l2, l3, l4] (aI i :: aR r :: st) s = Ze d 40 198 [l0, l1, l2, l3, l4] (aI (s r i.toNat) :: st) s := Ze_n (i := .iaload) (len := 1) (by decide +kernel) (if_pos ⟨h0, h1⟩)
theorem x40_198 : Ze d 40 198 [l0, l1, l2, l3, l4] (aI a :: st) s = if a < 0 then Ze d 40 243 [l0, l1, l2, l3, l4] st s else Ze d 40 201 [l0, l1, l2, l3, l4] st s := Ze_b (i := (.ifCond .lt 45)) (len := 3) (by decide +kernel) rfl
theorem x40_201 : Ze d 40 201 [aR r, l1, l2, l3, l4] st s = Ze d 40 202 [aR r, l1, l2, l3, l4] (aR r :: st) s := Ze_n (i := (.aload_n 0)) (len := 1) (by decide +kernel) rfl
theorem x40_202 (h : obC r = 0) : Ze d 40 202 [l0, l1, l2, l3, l4] (aR r :: st) s = Ze d 40 205 [l0, l1, l2, l3, l4] (aR (fcn r 47) :: st) s := Ze_gf (len := 3) (idx := 125) (by decide +kernel) rfl h rfl
theorem x40_205 : Ze d 40 205 [l0, l1, aI z, l3, l4] st s = Ze d 40 206 [l0, l1, aI z, l3, l4] (aI z :: st) s := Ze_n (i := (.iload_n 2)) (len := 1) (by decide +kernel) rfl
theorem x40_206 (h0 : 0 ≤ i) (h1 : i < aN1 r) : Ze d 40 206 [l0, l1, l2, l3, l4] (aI i :: aR r :: st) s = Ze d 40 207 [l0, l1, l2, l3, l4] (aI (s r i.toNat) :: st) s := Ze_n (i := .iaload) (len := 1) (by decide +kernel) (if_pos ⟨h0, h1⟩)
theorem x40_207 : Ze d 40 207 [aR r, l1, l2, l3, l4] st s = Ze d 40 208 [aR r, l1, l2, l3, l4] (aR r :: st) s := Ze_n (i := (.aload_n 0)) (len := 1) (by decide +kernel) rfl
theorem x40_208 (h : obC r = 0) : Ze d 40 208 [l0, l1, l2, l3, l4] (aR r :: st) s = Ze d 40 211 [l0, l1, l2, l3, l4] (aR (fcn r 26) :: st) s := Ze_gf (len := 3) (idx := 68) (by decide +kernel) rfl h rfl
theorem x40_211 : Ze d 40 211 [aR r, l1, l2, l3, l4] st s = Ze d 40 212 [aR r, l1, l2, l3, l4] (aR r :: st) s := Ze_n (i := (.aload_n 0)) (len := 1) (by decide +kernel) rfl
theorem x40_212 (h : obC r = 0) : Ze d 40 212 [l0, l1, l2, l3, l4] (aR r :: st) s = Ze d 40 215 [l0, l1, l2, l3, l4] (aR (fcn r 48) :: st) s := Ze_gf (len := 3) (idx := 128) (by decide +kernel) rfl h rfl
theorem x40_215 : Ze d 40 215 [l0, l1, aI z, l3, l4] st s = Ze d 40 216 [l0, l1, aI z, l3, l4] (aI z :: st) s := Ze_n (i := (.iload_n 2)) (len := 1) (by decide +kernel) rfl
theorem x40_216 (h0 : 0 ≤ i) (h1 : i < aN1 r) : Ze d 40 216 [l0, l1, l2, l3, l4] (aI i :: aR r :: st) s = Ze d 40 217 [l0, l1, l2, l3, l4] (aI (s r i.toNat) :: st) s := Ze_n (i := .iaload) (len := 1) (by decide +kernel) (if_pos ⟨h0, h1⟩)
theorem x40_217 (h0 : 0 ≤ i) (h1 : i < aN1 r) : Ze d 40 217 [l0, l1, l2, l3, l4] (aI i :: aR r :: st) s = Ze d 40 218 [l0, l1, l2, l3, l4] (aI (s r i.toNat) :: st) s := Ze_n (i := .iaload) (len := 1) (by decide +kernel) (if_pos ⟨h0, h1⟩)
theorem x40_218 : Ze d 40 218 [l0, l1, l2, l3, l4] (aI b :: aI a :: st) s = if a = b then Ze d 40 221 [l0, l1, l2, l3, l4] st s else Ze d 40 224 [l0, l1, l2, l3, l4] st s := Ze_b (i := (.if_icmp .ne 6)) (len := 3) (by decide +kernel) rfl
theorem x40_221 : Ze d 40 221 [l0, l1, l2, l3, l4] st s = Ze d 40 243 [l0, l1, l2, l3, l4] st s := Ze_n (i := (.goto 22)) (len := 3) (by decide +kernel) rfl
theorem x40_224 : Ze d 40 224 [aR r, l1, l2, l3, l4] st s = Ze d 40 225 [aR r, l1, l2, l3, l4] (aR r :: st) s := Ze_n (i := (.aload_n 0)) (len := 1) (by decide +kernel) rfl
theorem x40_225 (h : obC r = 0) : Ze d 40 225 [l0, l1, l2, l3, l4] (aR r :: st) s = Ze d 40 228 [l0, l1, l2, l3, l4] (aR (fcn r 47) :: st) s := Ze_gf (len := 3) (idx := 125) (by decide +kernel) rfl h rfl
theorem x40_228 : Ze d 40 228 [l0, l1, aI z, l3, l4] st s = Ze d 40 229 [l0, l1, aI z, l3, l4] (aI z :: st) s := Ze_n (i := (.iload_n 2)) (len := 1) (by decide +kernel) rfl
theorem x40_229 : Ze d 40 229 [aR r, l1, l2, l3, l4] st s = Ze d 40 230 [aR r, l1, l2, l3, l4] (aR r :: st) s := Ze_n (i := (.aload_n 0)) (len := 1) (by decide +kernel) rfl
theorem x40_230 (h : obC r = 0) : Ze d 40 230 [l0, l1, l2, l3, l4] (aR r :: st) s = Ze d 40 233 [l0, l1, l2, l3, l4] (aR (fcn r 26) :: st) s := Ze_gf (len := 3) (idx := 68) (by decide +kernel) rfl h rfl
theorem x40_233 : Ze d 40 233 [aR r, l1, l2, l3, l4] st s = Ze d 40 234 [aR r, l1, l2, l3, l4] (aR r :: st) s := Ze_n (i := (.aload_n 0)) (len := 1) (by decide +kernel) rfl
theorem x40_234 (h : obC r = 0) : Ze d 40 234 [l0, l1, l2, l3, l4] (aR r :: st) s = Ze d 40 237 [l0, l1, l2, l3, l4] (aR (fcn r 48) :: st) s := Ze_gf (len := 3) (idx := 128) (by decide +kernel) rfl h rfl
theorem x40_237 : Ze d 40 237 [l0, l1, aI z, l3, l4] st s = Ze d 40 238 [l0, l1, aI z, l3, l4] (aI z :: st) s := Ze_n (i := (.iload_n 2)) (len := 1) (by decide +kernel) rfl
theorem x40_238 (h0 : 0 ≤ i) (h1 : i < aN1 r) : Ze d 40 238 [l0, l1, l2, l3, l4] (aI i :: aR r :: st) s = Ze d 40 239 [l0, l1, l2, l3, l4] (aI (s r i.toNat) :: st) s := Ze_n (i := .iaload) (len := 1) (by decide +kernel) (if_pos ⟨h0, h1⟩)
theorem x40_239 (h0 : 0 ≤ i) (h1 : i < aN1 r) : Ze d 40 239 [l0, l1, l2, l3, l4] (aI i :: aR r :: st) s = Ze d 40 240 [l0, l1, l2, l3, l4] (aI (s r i.toNat) :: st) s := Ze_n (i := .iaload) (len := 1) (by decide +kernel) (if_pos ⟨h0, h1⟩)
theorem x40_240 (h0 : 0 ≤ i) (h1 : i < aN1 r) : Ze d 40 240 [l0, l1, l2, l3, l4] (aI z :: aI i :: aR r :: st) s = Ze d 40 241 [l0, l1, l2, l3, l4] st (mu s r i.toNat z) := Ze_n (i := .iastore) (len := 1) (by decide +kernel) (if_pos ⟨h0, h1⟩)
theorem x40_241 : Ze d 40 241 [l0, l1, l2, l3, l4] st s = Ze d 40 242 [l0, l1, l2, l3, l4] (aI 1 :: st) s := Ze_n (i := (.iconst 1)) (len := 1) (by decide +kernel) rfl
theorem x40_242 : Ze d 40 242 [l0, l1, l2, l3, l4] (aI z :: st) s = Ze d 40 243 [l0, aI z, l2, l3, l4] st s := Ze_n (i := (.istore_n 1)) (len := 1) (by decide +kernel) rfl
theorem x40_243 : Ze d 40 243 [l0, l1, aI z, l3, l4] st s = Ze d 40 246 [l0, l1, aI (wrap (z + 1)), l3, l4] st s := Ze_n (i := (.iinc 2 1)) (len := 3) (by decide +kernel) rfl
theorem x40_246 : Ze d 40 246 [l0, l1, l2, l3, l4] st s = Ze d 40 184 [l0, l1, l2, l3, l4] st s := Ze_n (i := (.goto (-62))) (len := 3) (by decide +kernel) rfl
theorem x40_249 : Ze d 40 249 [l0, l1, l2, l3, l4] st s = Ze d 40 250 [l0, l1, l2, l3, l4] (aI 0 :: st) s := Ze_n (i := (.iconst 0)) (len := 1) (by decide +kernel) rfl
theorem x40_250 : Ze d 40 250 [l0, l1, l2, l3, l4] (aI z :: st) s = Ze d 40 251 [l0, l1, aI z, l3, l4] st s := Ze_n (i := (.istore_n 2)) (len := 1) (by decide +kernel) rfl
theorem x40_251 : Ze d 40 251 [l0, l1, aI z, l3, l4] st s = Ze d 40 252 [l0, l1, aI z, l3, l4] (aI z :: st) s := Ze_n (i := (.iload_n 2)) (len := 1) (by decide +kernel) rfl
theorem x40_252 : Ze d 40 252 [aR r, l1, l2, l3, l4] st s = Ze d 40 253 [aR r, l1, l2, l3, l4] (aR r :: st) s := Ze_n (i := (.aload_n 0)) (len := 1) (by decide +kernel) rfl
theorem x40_253 (h : obC r = 0) : Ze d 40 253 [l0, l1, l2, l3, l4] (aR r :: st) s = Ze d 40 256 [l0, l1, l2, l3, l4] (aI (s r 57) :: st) s := Ze_gf (len := 3) (idx := 313) (by decide +kernel) rfl h rfl
theorem x40_256 : Ze d 40 256 [l0, l1, l2, l3, l4] (aI b :: aI a :: st) s = if a < b then Ze d 40 259 [l0, l1, l2, l3, l4] st s else Ze d 40 361 [l0, l1, l2, l3, l4] st s := Ze_b (i := (.if_icmp .ge 105)) (len := 3) (by decide +kernel) rfl
theorem x40_259 : Ze d 40 259 [aR r, l1, l2, l3, l4] st s = Ze d 40 260 [aR r, l1, l2, l3, l4] (aR r :: st) s := Ze_n (i := (.aload_n 0)) (len := 1) (by decide +kernel) rfl
theorem x40_260 (h : obC r = 0) : Ze d 40 260 [l0, l1, l2, l3, l4] (aR r :: st) s = Ze d 40 263 [l0, l1, l2, l3, l4] (aR (fcn r 54) :: st) s := Ze_gf (len := 3) (idx := 134) (by decide +kernel) rfl h rfl
theorem x40_263 : Ze d 40 263 [l0, l1, aI z, l3, l4] st s = Ze d 40 264 [l0, l1, aI z, l3, l4] (aI z :: st) s := Ze_n (i := (.iload_n 2)) (len := 1) (by decide +kernel) rfl
theorem x40_264 (h0 : 0 ≤ i) (h1 : i < aN1 r) : Ze d 40 264 [l0, l1, l2, l3, l4] (aI i :: aR r :: st) s = Ze d 40 265 [l0, l1, l2, l3, l4] (aI (s r i.toNat) :: st) s := Ze_n (i := .iaload) (len := 1) (by decide +kernel) (if_pos ⟨h0, h1⟩)
theorem x40_265 : Ze d 40 265 [l0, l1, l2, l3, l4] (aI a :: st) s = if a = 0 then Ze d 40 268 [l0, l1, l2, l3, l4] st s else Ze d 40 355 [l0, l1, l2, l3, l4] st s := Ze_b (i := (.ifCond .ne 90)) (len := 3) (by decide +kernel) rfl
theorem x40_268 : Ze d 40 268 [aR r, l1, l2, l3, l4] st s = Ze d 40 269 [aR r, l1, l2, l3, l4] (aR r :: st) s := Ze_n (i := (.aload_n 0)) (len := 1) (by decide +kernel) rfl
theorem x40_269 (h : obC r = 0) : Ze d 40 269 [l0, l1, l2, l3, l4] (aR r :: st) s = Ze d 40 272 [l0, l1, l2, l3, l4] (aR (fcn r 46) :: st) s := Ze_gf (len := 3) (idx := 122) (by decide +kernel) rfl h rfl
theorem x40_272 : Ze d 40 272 [aR r, l1, l2, l3, l4] st s = Ze d 40 273 [aR r, l1, l2, l3, l4] (aR r :: st) s := Ze_n (i := (.aload_n 0)) (len := 1) (by decide +kernel) rfl
theorem x40_273 (h : obC r = 0) : Ze d 40 273 [l0, l1, l2, l3, l4] (aR r :: st) s = Ze d 40 276 [l0, l1, l2, l3, l4] (aR (fcn r 55) :: st) s := Ze_gf (len := 3) (idx := 137) (by decide +kernel) rfl h rfl
theorem x40_276 : Ze d 40 276 [l0, l1, aI z, l3, l4] st s = Ze d 40 277 [l0, l1, aI z, l3, l4] (aI z :: st) s := Ze_n (i := (.iload_n 2)) (len := 1) (by decide +kernel) rfl
theorem x40_277 (h0 : 0 ≤ i) (h1 : i < aN1 r) : Ze d 40 277 [l0, l1, l2, l3, l4] (aI i :: aR r :: st) s = Ze d 40 278 [l0, l1, l2, l3, l4] (aI (s r i.toNat) :: st) s := Ze_n (i := .iaload) (len := 1) (by decide +kernel) (if_pos ⟨h0, h1⟩)
theorem x40_278 (h0 : 0 ≤ i) (h1 : i < aN1 r) : Ze d 40 278 [l0, l1, l2, l3, l4] (aI i :: aR r :: st) s = Ze d 40 279 [l0, l1, l2, l3, l4] (aI (s r i.toNat) :: st) s := Ze_n (i := .iaload) (len := 1) (by decide +kernel) (if_pos ⟨h0, h1⟩)
theorem x40_279 : Ze d 40 279 [l0, l1, l2, l3, l4] st s = Ze d 40 280 [l0, l1, l2, l3, l4] (aI 2 :: st) s := Ze_n (i := (.iconst 2)) (len := 1) (by decide +kernel) rfl
theorem x40_280 : Ze d 40 280 [l0, l1, l2, l3, l4] (aI b :: aI a :: st) s = if a < b then Ze d 40 283 [l0, l1, l2, l3, l4] st s else Ze d 40 286 [l0, l1, l2, l3, l4] st s := Ze_b (i := (.if_icmp .ge 6)) (len := 3) (by decide +kernel) rfl
theorem x40_283 : Ze d 40 283 [l0, l1, l2, l3, l4] st s = Ze d 40 355 [l0, l1, l2, l3, l4] st s := Ze_n (i := (.goto 72)) (len := 3) (by decide +kernel) rfl
theorem x40_286 : Ze d 40 286 [aR r, l1, l2, l3, l4] st s = Ze d 40 287 [aR r, l1, l2, l3, l4] (aR r :: st) s := Ze_n (i := (.aload_n 0)) (len := 1) (by decide +kernel) rfl
theorem x40_287 (h : obC r = 0) : Ze d 40 287 [l0, l1, l2, l3, l4] (aR r :: st) s = Ze d 40 290 [l0, l1, l2, l3, l4] (aR (fcn r 56) :: st) s := Ze_gf (len := 3) (idx := 140) (by decide +kernel) rfl h rfl
theorem x40_290 : Ze d 40 290 [l0, l1, aI z, l3, l4] st s = Ze d 40 291 [l0, l1, aI z, l3, l4] (aI z :: st) s := Ze_n (i := (.iload_n 2)) (len := 1) (by decide +kernel) rfl
theorem x40_291 (h0 : 0 ≤ i) (h1 : i < aN1 r) : Ze d 40 291 [l0, l1, l2, l3, l4] (aI i :: aR r :: st) s = Ze d 40 292 [l0, l1, l2, l3, l4] (aI (s r i.toNat) :: st) s := Ze_n (i := .iaload) (len := 1) (by decide +kernel) (if_pos ⟨h0, h1⟩)
theorem x40_292 : Ze d 40 292 [l0, l1, l2, l3, l4] (aI a :: st) s = if a < 0 then Ze d 40 295 [l0, l1, l2, l3, l4] st s else Ze d 40 311 [l0, l1, l2, l3, l4] st s := Ze_b (i := (.ifCond .ge 19)) (len := 3) (by decide +kernel) rfl
theorem x40_295 : Ze d 40 295 [aR r, l1, l2, l3, l4] st s = Ze d 40 296 [aR r, l1, l2, l3, l4] (aR r :: st) s := Ze_n (i := (.aload_n 0)) (len := 1) (by decide +kernel) rfl
theorem x40_296 (h : obC r = 0) : Ze d 40 296 [l0, l1, l2, l3, l4] (aR r :: st) s = Ze d 40 299 [l0, l1, l2, l3, l4] (aR (fcn r 47) :: st) s := Ze_gf (len := 3) (idx := 125) (by decide +kernel) rfl h rfl
theorem x40_299 : Ze d 40 299 [l0, l1, l2, l3, l4] st s = Ze d 40 300 [l0, l1, l2, l3, l4] (aI (-1) :: st) s := Ze_n (i := (.iconst (-1))) (len := 1) (by decide +kernel) rfl
theorem x40_300 : Ze d 40 300 [aR r, l1, l2, l3, l4] st s = Ze d 40 301 [aR r, l1, l2, l3, l4] (aR r :: st) s := Ze_n (i := (.aload_n 0)) (len := 1) (by decide +kernel) rfl
theorem x40_301 (h : obC r = 0) : Ze d 40 301 [l0, l1, l2, l3, l4] (aR r :: st) s = Ze d 40 304 [l0, l1, l2, l3, l4] (aR (fcn r 56) :: st) s := Ze_gf (len := 3) (idx := 140) (by decide +kernel) rfl h rfl
theorem x40_304 : Ze d 40 304 [l0, l1, aI z, l3, l4] st s = Ze d 40 305 [l0, l1, aI z, l3, l4] (aI z :: st) s := Ze_n (i := (.iload_n 2)) (len := 1) (by decide +kernel) rfl
theorem x40_305 (h0 : 0 ≤ i) (h1 : i < aN1 r) : Ze d 40 305 [l0, l1, l2, l3, l4] (aI i :: aR r :: st) s = Ze d 40 306 [l0, l1, l2, l3, l4] (aI (s r i.toNat) :: st) s := Ze_n (i := .iaload) (len := 1) (by decide +kernel) (if_pos ⟨h0, h1⟩)
theorem x40_306 : Ze d 40 306 [l0, l1, l2, l3, l4] (aI b :: aI a :: st) s = Ze d 40 307 [l0, l1, l2, l3, l4] (aI (wrap (a - b)) :: st) s := Ze_n (i := .isub) (len := 1) (by decide +kernel) rfl
theorem x40_307 (h0 : 0 ≤ i) (h1 : i < aN1 r) : Ze d 40 307 [l0, l1, l2, l3, l4] (aI i :: aR r :: st) s = Ze d 40 308 [l0, l1, l2, l3, l4] (aI (s r i.toNat) :: st) s := Ze_n (i := .iaload) (len := 1) (by decide +kernel) (if_pos ⟨h0, h1⟩)
theorem x40_308 : Ze d 40 308 [l0, l1, l2, l3, l4] st s = Ze d 40 322 [l0, l1, l2, l3, l4] st s := Ze_n (i := (.goto 14)) (len := 3) (by decide +kernel) rfl
theorem x40_311 : Ze d 40 311 [aR r, l1, l2, l3, l4] st s = Ze d 40 312 [aR r, l1, l2, l3, l4] (aR r :: st) s := Ze_n (i := (.aload_n 0)) (len := 1) (by decide +kernel) rfl
theorem x40_312 (h : obC r = 0) : Ze d 40 312 [l0, l1, l2, l3, l4] (aR r :: st) s = Ze d 40 315 [l0, l1, l2, l3, l4] (aR (fcn r 26) :: st) s := Ze_gf (len := 3) (idx := 68) (by decide +kernel) rfl h rfl
theorem x40_315 : Ze d 40 315 [aR r, l1, l2, l3, l4] st s = Ze d 40 316 [aR r, l1, l2, l3, l4] (aR r :: st) s := Ze_n (i := (.aload_n 0)) (len := 1) (by decide +kernel) rfl
theorem x40_316 (h : obC r = 0) : Ze d 40 316 [l0, l1, l2, l3, l4] (aR r :: st) s = Ze d 40 319 [l0, l1, l2, l3, l4] (aR (fcn r 56) :: st) s := Ze_gf (len := 3) (idx := 140) (by decide +kernel) rfl h rfl
theorem x40_319 : Ze d 40 319 [l0, l1, aI z, l3, l4] st s = Ze d 40 320 [l0, l1, aI z, l3, l4] (aI z :: st) s := Ze_n (i := (.iload_n 2)) (len := 1) (by decide +kernel) rfl
theorem x40_320 (h0 : 0 ≤ i) (h1 : i < aN1 r) : Ze d 40 320 [l0, l1, l2, l3, l4] (aI i :: aR r :: st) s = Ze d 40 321 [l0, l1, l2, l3, l4] (aI (s r i.toNat) :: st) s := Ze_n (i := .iaload) (len := 1) (by decide +kernel) (if_pos ⟨h0, h1⟩)
theorem x40_321 (h0 : 0 ≤ i) (h1 : i < aN1 r) : Ze d 40 321 [l0, l1, l2, l3, l4] (aI i :: aR r :: st) s = Ze d 40 322 [l0, l1, l2, l3, l4] (aI (s r i.toNat) :: st) s := Ze_n (i := .iaload) (len := 1) (by decide +kernel) (if_pos ⟨h0, h1⟩)
theorem x40_322 : Ze d 40 322 [l0, l1, l2, l3, l4] (aI z :: st) s = Ze d 40 323 [l0, l1, l2, aI z, l4] st s := Ze_n (i := (.istore_n 3)) (len := 1) (by decide +kernel) rfl
theorem x40_323 : Ze d 40 323 [l0, l1, l2, aI z, l4] st s = Ze d 40 324 [l0, l1, l2, aI z, l4] (aI z :: st) s := Ze_n (i := (.iload_n 3)) (len := 1) (by decide +kernel) rfl
theorem x40_324 : Ze d 40 324 [aR r, l1, l2, l3, l4] st s = Ze d 40 325 [aR r, l1, l2, l3, l4] (aR r :: st) s := Ze_n (i := (.aload_n 0)) (len := 1) (by decide +kernel) rfl
theorem x40_325 (h : obC r = 0) : Ze d 40 325 [l0, l1, l2, l3, l4] (aR r :: st) s = Ze d 40 328 [l0, l1, l2, l3, l4] (aR (fcn r 47) :: st) s := Ze_gf (len := 3) (idx := 125) (by decide +kernel) rfl h rfl
theorem x40_328 : Ze d 40 328 [aR r, l1, l2, l3, l4] st s = Ze d 40 329 [aR r, l1, l2, l3, l4] (aR r :: st) s := Ze_n (i := (.aload_n 0)) (len := 1) (by decide +kernel) rfl
theorem x40_329 (h : obC r = 0) : Ze d 40 329 [l0, l1, l2, l3, l4] (aR r :: st) s = Ze d 40 332 [l0, l1, l2, l3, l4] (aR (fcn r 55) :: st) s := Ze_gf (len := 3) (idx := 137) (by decide +kernel) rfl h rfl
theorem x40_332 : Ze d 40 332 [l0, l1, aI z, l3, l4] st s = Ze d 40 333 [l0, l1, aI z, l3, l4] (aI z :: st) s := Ze_n (i := (.iload_n 2)) (len := 1) (by decide +kernel) rfl
theorem x40_333 (h0 : 0 ≤ i) (h1 : i < aN1 r) : Ze d 40 333 [l0, l1, l2, l3, l4] (aI i :: aR r :: st) s = Ze d 40 334 [l0, l1, l2, l3, l4] (aI (s r i.toNat) :: st) s := Ze_n (i := .iaload) (len := 1) (by decide +kernel) (if_pos ⟨h0, h1⟩)
theorem x40_334 (h0 : 0 ≤ i) (h1 : i < aN1 r) : Ze d 40 334 [l0, l1, l2, l3, l4] (aI i :: aR r :: st) s = Ze d 40 335 [l0, l1, l2, l3, l4] (aI (s r i.toNat) :: st) s := Ze_n (i := .iaload) (len := 1) (by decide +kernel) (if_pos ⟨h0, h1⟩)
theorem x40_335 : Ze d 40 335 [l0, l1, l2, l3, l4] (aI b :: aI a :: st) s = if b < a then Ze d 40 341 [l0, l1, l2, l3, l4] st s else Ze d 40 338 [l0, l1, l2, l3, l4] st s := Ze_b (i := (.if_icmp .gt 6)) (len := 3) (by decide +kernel) rfl
theorem x40_338 : Ze d 40 338 [l0, l1, l2, l3, l4] st s = Ze d 40 355 [l0, l1, l2, l3, l4] st s := Ze_n (i := (.goto 17)) (len := 3) (by decide +kernel) rfl
theorem x40_341 : Ze d 40 341 [aR r, l1, l2, l3, l4] st s = Ze d 40 342 [aR r, l1, l2, l3, l4] (aR r :: st) s := Ze_n (i := (.aload_n 0)) (len := 1) (by decide +kernel) rfl
theorem x40_342 (h : obC r = 0) : Ze d 40 342 [l0, l1, l2, l3, l4] (aR r :: st) s = Ze d 40 345 [l0, l1, l2, l3, l4] (aR (fcn r 47) :: st) s := Ze_gf (len := 3) (idx := 125) (by decide +kernel) rfl h rfl
theorem x40_345 : Ze d 40 345 [aR r, l1, l2, l3, l4] st s = Ze d 40 346 [aR r, l1, l2, l3, l4] (aR r :: st) s := Ze_n (i := (.aload_n 0)) (len := 1) (by decide +kernel) rfl
theorem x40_346 (h : obC r = 0) : Ze d 40 346 [l0, l1, l2, l3, l4] (aR r :: st) s = Ze d 40 349 [l0, l1, l2, l3, l4] (aR (fcn r 55) :: st) s := Ze_gf (len := 3) (idx := 137) (by decide +kernel) rfl h rfl
theorem x40_349 : Ze d 40 349 [l0, l1, aI z, l3, l4] st s = Ze d 40 350 [l0, l1, aI z, l3, l4] (aI z :: st) s := Ze_n (i := (.iload_n 2)) (len := 1) (by decide +kernel) rfl
theorem x40_350 (h0 : 0 ≤ i) (h1 : i < aN1 r) : Ze d 40 350 [l0, l1, l2, l3, l4] (aI i :: aR r :: st) s = Ze d 40 351 [l0, l1, l2, l3, l4] (aI (s r i.toNat) :: st) s := Ze_n (i := .iaload) (len := 1) (by decide +kernel) (if_pos ⟨h0, h1⟩)
theorem x40_351 : Ze d 40 351 [l0, l1, l2, aI z, l4] st s = Ze d 40 352 [l0, l1, l2, aI z, l4] (aI z :: st) s := Ze_n (i := (.iload_n 3)) (len := 1) (by decide +kernel) rfl
theorem x40_352 (h0 : 0 ≤ i) (h1 : i < aN1 r) : Ze d 40 352 [l0, l1, l2, l3, l4] (aI z :: aI i :: aR r :: st) s = Ze d 40 353 [l0, l1, l2, l3, l4] st (mu s r i.toNat z) := Ze_n (i := .iastore) (len := 1) (by decide +kernel) (if_pos ⟨h0, h1⟩)
theorem x40_353 : Ze d 40 353 [l0, l1, l2, l3, l4] st s = Ze d 40 354 [l0, l1, l2, l3, l4] (aI 1 :: st) s := Ze_n (i := (.iconst 1)) (len := 1) (by decide +kernel) rfl
theorem x40_354 : Ze d 40 354 [l0, l1, l2, l3, l4] (aI z :: st) s = Ze d 40 355 [l0, aI z, l2, l3, l4] st s := Ze_n (i := (.istore_n 1)) (len := 1) (by decide +kernel) rfl
theorem x40_355 : Ze d 40 355 [l0, l1, aI z, l3, l4] st s = Ze d 40 358 [l0, l1, aI (wrap (z + 1)), l3, l4] st s := Ze_n (i := (.iinc 2 1)) (len := 3) (by decide +kernel) rfl
theorem x40_358 : Ze d 40 358 [l0, l1, l2, l3, l4] st s = Ze d 40 251 [l0, l1, l2, l3, l4] st s := Ze_n (i := (.goto (-107))) (len := 3) (by decide +kernel) rfl
theorem x40_361 : Ze d 40 361 [l0, l1, l2, l3, l4] st s = Ze d 40 113 [l0, l1, l2, l3, l4] st s := Ze_n (i := (.goto (-248))) (len := 3) (by decide +kernel) rfl
theorem x40_364 : Ze d 40 364 [l0, l1, l2, l3, l4] st s = Ze d 40 365 [l0, l1, l2, l3, l4] (aI 0 :: st) s := Ze_n (i := (.iconst 0)) (len := 1) (by decide +kernel) rfl
theorem x40_365 : Ze d 40 365 [l0, l1, l2, l3, l4] (aI z :: st) s = Ze d 40 366 [l0, l1, aI z, l3, l4] st s := Ze_n (i := (.istore_n 2)) (len := 1) (by decide +kernel) rfl
theorem x40_366 : Ze d 40 366 [l0, l1, aI z, l3, l4] st s = Ze d 40 367 [l0, l1, aI z, l3, l4] (aI z :: st) s := Ze_n (i := (.iload_n 2)) (len := 1) (by decide +kernel) rfl
theorem x40_367 : Ze d 40 367 [aR r, l1, l2, l3, l4] st s = Ze d 40 368 [aR r, l1, l2, l3, l4] (aR r :: st) s := Ze_n (i := (.aload_n 0)) (len := 1) (by decide +kernel) rfl
theorem x40_368 (h : obC r = 0) : Ze d 40 368 [l0, l1, l2, l3, l4] (aR r :: st) s = Ze d 40 371 [l0, l1, l2, l3, l4] (aI (s r 50) :: st) s := Ze_gf (len := 3) (idx := 303) (by decide +kernel) rfl h rfl
theorem x40_371 : Ze d 40 371 [l0, l1, l2, l3, l4] (aI b :: aI a :: st) s = if a < b then Ze d 40 374 [l0, l1, l2, l3, l4] st s else Ze d 40 405 [l0, l1, l2, l3, l4] st s := Ze_b (i := (.if_icmp .ge 34)) (len := 3) (by decide +kernel) rfl
theorem x40_374 : Ze d 40 374 [aR r, l1, l2, l3, l4] st s = Ze d 40 375 [aR r, l1, l2, l3, l4] (aR r :: st) s := Ze_n (i := (.aload_n 0)) (len := 1) (by decide +kernel) rfl
theorem x40_375 (h : obC r = 0) : Ze d 40 375 [l0, l1, l2, l3, l4] (aR r :: st) s = Ze d 40 378 [l0, l1, l2, l3, l4] (aR (fcn r 46) :: st) s := Ze_gf (len := 3) (idx := 122) (by decide +kernel) rfl h rfl
theorem x40_378 : Ze d 40 378 [l0, l1, aI z, l3, l4] st s = Ze d 40 379 [l0, l1, aI z, l3, l4] (aI z :: st) s := Ze_n (i := (.iload_n 2)) (len := 1) (by decide +kernel) rfl
theorem x40_379 : Ze d 40 379 [aR r, l1, l2, l3, l4] st s = Ze d 40 380 [aR r, l1, l2, l3, l4] (aR r :: st) s := Ze_n (i := (.aload_n 0)) (len := 1) (by decide +kernel) rfl
theorem x40_380 (h : obC r = 0) : Ze d 40 380 [l0, l1, l2, l3, l4] (aR r :: st) s = Ze d 40 383 [l0, l1, l2, l3, l4] (aR (fcn r 46) :: st) s := Ze_gf (len := 3) (idx := 122) (by decide +kernel) rfl h rfl
theorem x40_383 : Ze d 40 383 [l0, l1, aI z, l3, l4] st s = Ze d 40 384 [l0, l1, aI z, l3, l4] (aI z :: st) s := Ze_n (i := (.iload_n 2)) (len := 1) (by decide +kernel) rfl
theorem x40_384 (h0 : 0 ≤ i) (h1 : i < aN1 r) : Ze d 40 384 [l0, l1, l2, l3, l4] (aI i :: aR r :: st) s = Ze d 40 385 [l0, l1, l2, l3, l4] (aI (s r i.toNat) :: st) s := Ze_n (i := .iaload) (len := 1) (by decide +kernel) (if_pos ⟨h0, h1⟩)
theorem x40_385 : Ze d 40 385 [l0, l1, l2, l3, l4] st s = Ze d 40 386 [l0, l1, l2, l3, l4] (aI 2 :: st) s := Ze_n (i := (.iconst 2)) (len := 1) (by decide +kernel) rfl
theorem x40_386 (h0 : 0 ≤ a) (h1 : 0 < b) : Ze d 40 386 [l0, l1, l2, l3, l4] (aI b :: aI a :: st) s = Ze d 40 387 [l0, l1, l2, l3, l4] (aI (a % b) :: st) s := Ze_n (i := .irem) (len := 1) (by decide +kernel) (if_pos ⟨h0, h1⟩)
theorem x40_387 (h0 : 0 ≤ i) (h1 : i < aN1 r) : Ze d 40 387 [l0, l1, l2, l3, l4] (aI z :: aI i :: aR r :: st) s = Ze d 40 388 [l0, l1, l2, l3, l4] st (mu s r i.toNat z) := Ze_n (i := .iastore) (len := 1) (by decide +kernel) (if_pos ⟨h0, h1⟩)
theorem x40_388 : Ze d 40 388 [aR r, l1, l2, l3, l4] st s = Ze d 40 389 [aR r, l1, l2, l3, l4] (aR r :: st) s := Ze_n (i := (.aload_n 0)) (len := 1) (by decide +kernel) rfl
theorem x40_389 (h : obC r = 0) : Ze d 40 389 [l0, l1, l2, l3, l4] (aR r :: st) s = Ze d 40 392 [l0, l1, l2, l3, l4] (aR (fcn r 47) :: st) s := Ze_gf (len := 3) (idx := 125) (by decide +kernel) rfl h rfl
theorem x40_392 : Ze d 40 392 [l0, l1, aI z, l3, l4] st s = Ze d 40 393 [l0, l1, aI z, l3, l4] (aI z :: st) s := Ze_n (i := (.iload_n 2)) (len := 1) (by decide +kernel) rfl
theorem x40_393 (h0 : 0 ≤ i) (h1 : i < aN1 r) : Ze d 40 393 [l0, l1, l2, l3, l4] (aI i :: aR r :: st) s = Ze d 40 394 [l0, l1, l2, l3, l4] (aI (s r i.toNat) :: st) s := Ze_n (i := .iaload) (len := 1) (by decide +kernel) (if_pos ⟨h0, h1⟩)
theorem x40_394 : Ze d 40 394 [l0, l1, l2, l3, l4] (aI a :: st) s = if a = 0 then Ze d 40 397 [l0, l1, l2, l3, l4] st s else Ze d 40 399 [l0, l1, l2, l3, l4] st s := Ze_b (i := (.ifCond .ne 5)) (len := 3) (by decide +kernel) rfl
theorem x40_397 : Ze d 40 397 [l0, l1, l2, l3, l4] st s = Ze d 40 398 [l0, l1, l2, l3, l4] (aI 0 :: st) s := Ze_n (i := (.iconst 0)) (len := 1) (by decide +kernel) rfl
theorem x40_398 (h : z = 0 ∨ z = 1) : Ze d 40 398 [l0, l1, l2, l3, l4] [aI z] s = rI z s := Ze_i2 (by decide +kernel) rfl h
theorem x40_399 : Ze d 40 399 [l0, l1, aI z, l3, l4] st s = Ze d 40 402 [l0, l1, aI (wrap (z + 1)), l3, l4] st s := Ze_n (i := (.iinc 2 1)) (len := 3) (by decide +kernel) rfl
theorem x40_402 : Ze d 40 402 [l0, l1, l2, l3, l4] st s = Ze d 40 366 [l0, l1, l2, l3, l4] st s := Ze_n (i := (.goto (-36))) (len := 3) (by decide +kernel) rfl
theorem x40_405 : Ze d 40 405 [l0, l1, l2, l3, l4] st s = Ze d 40 406 [l0, l1, l2, l3, l4] (aI 1 :: st) s := Ze_n (i := (.iconst 1)) (len := 1) (by decide +kernel) rfl
theorem x40_406 (h : z = 0 ∨ z = 1) : Ze d 40 406 [l0, l1, l2, l3, l4] [aI z] s = rI z s := Ze_i2 (by decide +kernel) rfl h
theorem en40 : Zc (d + 1) 40 [aR r] s = Ze d 40 0 [aR r, aU, aU, aU, aU] [] s := rfl
theorem x41_0 : Ze d 41 0 [l0, l1, l2, l3, l4] st s = Ze d 41 1 [l0, l1, l2, l3, l4] (aI 0 :: st) s := Ze_n (i := (.iconst 0)) (len := 1) (by decide +kernel) rfl
theorem x41_1 : Ze d 41 1 [l0, l1, l2, l3, l4] (aI z :: st) s = Ze d 41 2 [l0, l1, aI z, l3, l4] st s := Ze_n (i := (.istore_n 2)) (len := 1) (by decide +kernel) rfl
theorem x41_2 : Ze d 41 2 [l0, l1, l2, l3, l4] st s = Ze d 41 3 [l0, l1, l2, l3, l4] (aI 0 :: st) s := Ze_n (i := (.iconst 0)) (len := 1) (by decide +kernel) rfl
theorem x41_3 : Ze d 41 3 [l0, l1, l2, l3, l4] (aI z :: st) s = Ze d 41 4 [l0, l1, l2, aI z, l4] st s := Ze_n (i := (.istore_n 3)) (len := 1) (by decide +kernel) rfl
theorem x41_4 : Ze d 41 4 [l0, l1, l2, l3, l4] st s = Ze d 41 5 [l0, l1, l2, l3, l4] (aI 0 :: st) s := Ze_n (i := (.iconst 0)) (len := 1) (by decide +kernel) rfl
theorem x41_5 : Ze d 41 5 [l0, l1, l2, l3, l4] (aI z :: st) s = Ze d 41 7 [l0, l1, l2, l3, aI z] st s := Ze_n (i := (.istore 4)) (len := 2) (by decide +kernel) rfl
theorem x41_7 : Ze d 41 7 [l0, l1, l2, l3, aI z] st s = Ze d 41 9 [l0, l1, l2, l3, aI z] (aI z :: st) s := Ze_n (i := (.iload 4)) (len := 2) (by decide +kernel) rfl
theorem x41_9 : Ze d 41 9 [aR r, l1, l2, l3, l4] st s = Ze d 41 10 [aR r, l1, l2, l3, l4] (aR r :: st) s := Ze_n (i := (.aload_n 0)) (len := 1) (by decide +kernel) rfl
theorem x41_10 (h : obC r = 0) : Ze d 41 10 [l0, l1, l2, l3, l4] (aR r :: st) s = Ze d 41 13 [l0, l1, l2, l3, l4] (aI (s r 57) :: st) s := Ze_gf (len := 3) (idx := 313) (by decide +kernel) rfl h rfl
theorem x41_13 : Ze d 41 13 [l0, l1, l2, l3, l4] (aI b :: aI a :: st) s = if a < b then Ze d 41 16 [l0, l1, l2, l3, l4] st s else Ze d 41 133 [l0, l1, l2, l3, l4] st s := Ze_b (i := (.if_icmp .ge 120)) (len := 3) (by decide +kernel) rfl
theorem x41_16 : Ze d 41 16 [aR r, l1, l2, l3, l4] st s = Ze d 41 17 [aR r, l1, l2, l3, l4] (aR r :: st) s := Ze_n (i := (.aload_n 0)) (len := 1) (by decide +kernel) rfl
theorem x41_17 (h : obC r = 0) : Ze d 41 17 [l0, l1, l2, l3, l4] (aR r :: st) s = Ze d 41 20 [l0, l1, l2, l3, l4] (aR (fcn r 54) :: st) s := Ze_gf (len := 3) (idx := 134) (by decide +kernel) rfl h rfl
theorem x41_20 : Ze d 41 20 [l0, l1, l2, l3, aI z] st s = Ze d 41 22 [l0, l1, l2, l3, aI z] (aI z :: st) s := Ze_n (i := (.iload 4)) (len := 2) (by decide +kernel) rfl
theorem x41_22 (h0 : 0 ≤ i) (h1 : i < aN1 r) : Ze d 41 22 [l0, l1, l2, l3, l4] (aI i :: aR r :: st) s = Ze d 41 23 [l0, l1, l2, l3, l4] (aI (s r i.toNat) :: st) s := Ze_n (i := .iaload) (len := 1) (by decide +kernel) (if_pos ⟨h0, h1⟩)
theorem x41_23 : Ze d 41 23 [l0, l1, l2, l3, l4] (aI a :: st) s = if a = 0 then Ze d 41 48 [l0, l1, l2, l3, l4] st s else if a = 1 then Ze d 41 64 [l0, l1, l2, l3, l4] st s else if a = 2 then Ze d 41 84 [l0, l1, l2, l3, l4] st s else Ze d 41 105 [l0, l1, l2, l3, l4] st s :=
  Ze_ts (dflt := 82) (lo := 0) (hi := 2) (offs := #[25, 41, 61]) (len := 25) (ks := [(0, 48), (1, 64), (2, 84)]) (df := 105) (by decide +kernel) (by decide +kernel) (by decide +kernel)
theorem x41_48 : Ze d 41 48 [aR r, l1, l2, l3, l4] st s = Ze d 41 49 [aR r, l1, l2, l3, l4] (aR r :: st) s := Ze_n (i := (.aload_n 0)) (len := 1) (by decide +kernel) rfl
theorem x41_49 (h : obC r = 0) : Ze d 41 49 [l0, l1, l2, l3, l4] (aR r :: st) s = Ze d 41 52 [l0, l1, l2, l3, l4] (aR (fcn r 55) :: st) s := Ze_gf (len := 3) (idx := 137) (by decide +kernel) rfl h rfl
theorem x41_52 : Ze d 41 52 [l0, l1, l2, l3, aI z] st s = Ze d 41 54 [l0, l1, l2, l3, aI z] (aI z :: st) s := Ze_n (i := (.iload 4)) (len := 2) (by decide +kernel) rfl
theorem x41_54 (h0 : 0 ≤ i) (h1 : i < aN1 r) : Ze d 41 54 [l0, l1, l2, l3, l4] (aI i :: aR r :: st) s = Ze d 41 55 [l0, l1, l2, l3, l4] (aI (s r i.toNat) :: st) s := Ze_n (i := .iaload) (len := 1) (by decide +kernel) (if_pos ⟨h0, h1⟩)
theorem x41_55 : Ze d 41 55 [l0, aI z, l2, l3, l4] st s = Ze d 41 56 [l0, aI z, l2, l3, l4] (aI z :: st) s := Ze_n (i := (.iload_n 1)) (len := 1) (by decide +kernel) rfl
theorem x41_56 : Ze d 41 56 [l0, l1, l2, l3, l4] (aI b :: aI a :: st) s = if a = b then Ze d 41 59 [l0, l1, l2, l3, l4] st s else Ze d 41 127 [l0, l1, l2, l3, l4] st s := Ze_b (i := (.if_icmp .ne 71)) (len := 3) (by decide +kernel) rfl
theorem x41_59 : Ze d 41 59 [l0, l1, l2, l3, l4] st s = Ze d 41 60 [l0, l1, l2, l3, l4] (aI 1 :: st) s := Ze_n (i := (.iconst 1)) (len := 1) (by decide +kernel) rfl
theorem x41_60 : Ze d 41 60 [l0, l1, l2, l3, l4] (aI z :: st) s = Ze d 41 61 [l0, l1, l2, aI z, l4] st s := Ze_n (i := (.istore_n 3)) (len := 1) (by decide +kernel) rfl
theorem x41_61 : Ze d 41 61 [l0, l1, l2, l3, l4] st s = Ze d 41 127 [l0, l1, l2, l3, l4] st s := Ze_n (i := (.goto 66)) (len := 3) (by decide +kernel) rfl
theorem x41_64 : Ze d 41 64 [aR r, l1, l2, l3, l4] st s = Ze d 41 65 [aR r, l1, l2, l3, l4] (aR r :: st) s := Ze_n (i := (.aload_n 0)) (len := 1) (by decide +kernel) rfl
theorem x41_65 (h : obC r = 0) : Ze d 41 65 [l0, l1, l2, l3, l4] (aR r :: st) s = Ze d 41 68 [l0, l1, l2, l3, l4] (aR (fcn r 66) :: st) s := Ze_gf (len := 3) (idx := 165) (by decide +kernel) rfl h rfl
theorem x41_68 : Ze d 41 68 [l0, l1, aI z, l3, l4] st s = Ze d 41 69 [l0, l1, aI z, l3, l4] (aI z :: st) s := Ze_n (i := (.iload_n 2)) (len := 1) (by decide +kernel) rfl
theorem x41_69 : Ze d 41 69 [l0, l1, l2, aI z, l4] st s = Ze d 41 70 [l0, l1, l2, aI z, l4] (aI z :: st) s := Ze_n (i := (.iload_n 3)) (len := 1) (by decide +kernel) rfl
theorem x41_70 (h0 : 0 ≤ i) (h1 : i < aN2 r) (h2 : z = 0 ∨ z = 1) : Ze d 41 70 [l0, l1, l2, l3, l4] (aI z :: aI i :: aR r :: st) s = Ze d 41 71 [l0, l1, l2, l3, l4] st (mu s r i.toNat z) := Ze_n (i := .bastore) (len := 1) (by decide +kernel) (if_pos ⟨h0, h1, h2⟩)
theorem x41_71 : Ze d 41 71 [aR r, l1, l2, l3, l4] st s = Ze d 41 72 [aR r, l1, l2, l3, l4] (aR r :: st) s := Ze_n (i := (.aload_n 0)) (len := 1) (by decide +kernel) rfl
theorem x41_72 (h : obC r = 0) : Ze d 41 72 [l0, l1, l2, l3, l4] (aR r :: st) s = Ze d 41 75 [l0, l1, l2, l3, l4] (aR (fcn r 65) :: st) s := Ze_gf (len := 3) (idx := 162) (by decide +kernel) rfl h rfl
theorem x41_75 : Ze d 41 75 [l0, l1, aI z, l3, l4] st s = Ze d 41 76 [l0, l1, aI z, l3, l4] (aI z :: st) s := Ze_n (i := (.iload_n 2)) (len := 1) (by decide +kernel) rfl
theorem x41_76 : Ze d 41 76 [l0, l1, l2, aI z, l4] st s = Ze d 41 77 [l0, l1, l2, aI z, l4] (aI z :: st) s := Ze_n (i := (.iload_n 3)) (len := 1) (by decide +kernel) rfl
theorem x41_77 (h0 : 0 ≤ i) (h1 : i < aN2 r) (h2 : z = 0 ∨ z = 1) : Ze d 41 77 [l0, l1, l2, l3, l4] (aI z :: aI i :: aR r :: st) s = Ze d 41 78 [l0, l1, l2, l3, l4] st (mu s r i.toNat z) := Ze_n (i := .bastore) (len := 1) (by decide +kernel) (if_pos ⟨h0, h1, h2⟩)
theorem x41_78 : Ze d 41 78 [l0, l1, aI z, l3, l4] st s = Ze d 41 81 [l0, l1, aI (wrap (z + 1)), l3, l4] st s := Ze_n (i := (.iinc 2 1)) (len := 3) (by decide +kernel) rfl
theorem x41_81 : Ze d 41 81 [l0, l1, l2, l3, l4] st s = Ze d 41 127 [l0, l1, l2, l3, l4] st s := Ze_n (i := (.goto 46)) (len := 3) (by decide +kernel) rfl
theorem x41_84 : Ze d 41 84 [aR r, l1, l2, l3, l4] st s = Ze d 41 85 [aR r, l1, l2, l3, l4] (aR r :: st) s := Ze_n (i := (.aload_n 0)) (len := 1) (by decide +kernel) rfl
theorem x41_85 (h : obC r = 0) : Ze d 41 85 [l0, l1, l2, l3, l4] (aR r :: st) s = Ze d 41 88 [l0, l1, l2, l3, l4] (aR (fcn r 65) :: st) s := Ze_gf (len := 3) (idx := 162) (by decide +kernel) rfl h rfl
theorem x41_88 : Ze d 41 88 [l0, l1, aI z, l3, l4] st s = Ze d 41 89 [l0, l1, aI z, l3, l4] (aI z :: st) s := Ze_n (i := (.iload_n 2)) (len := 1) (by decide +kernel) rfl
theorem x41_89 : Ze d 41 89 [l0, l1, l2, l3, l4] st s = Ze d 41 90 [l0, l1, l2, l3, l4] (aI 1 :: st) s := Ze_n (i := (.iconst 1)) (len := 1) (by decide +kernel) rfl
theorem x41_90 : Ze d 41 90 [l0, l1, l2, l3, l4] (aI b :: aI a :: st) s = Ze d 41 91 [l0, l1, l2, l3, l4] (aI (wrap (a - b)) :: st) s := Ze_n (i := .isub) (len := 1) (by decide +kernel) rfl
theorem x41_91 : Ze d 41 91 [l0, l1, l2, aI z, l4] st s = Ze d 41 92 [l0, l1, l2, aI z, l4] (aI z :: st) s := Ze_n (i := (.iload_n 3)) (len := 1) (by decide +kernel) rfl
theorem x41_92 (h0 : 0 ≤ i) (h1 : i < aN2 r) (h2 : z = 0 ∨ z = 1) : Ze d 41 92 [l0, l1, l2, l3, l4] (aI z :: aI i :: aR r :: st) s = Ze d 41 93 [l0, l1, l2, l3, l4] st (mu s r i.toNat z) := Ze_n (i := .bastore) (len := 1) (by decide +kernel) (if_pos ⟨h0, h1, h2⟩)
theorem x41_93 : Ze d 41 93 [aR r, l1, l2, l3, l4] st s = Ze d 41 94 [aR r, l1, l2, l3, l4] (aR r :: st) s := Ze_n (i := (.aload_n 0)) (len := 1) (by decide +kernel) rfl
theorem x41_94 (h : obC r = 0) : Ze d 41 94 [l0, l1, l2, l3, l4] (aR r :: st) s = Ze d 41 97 [l0, l1, l2, l3, l4] (aR (fcn r 66) :: st) s := Ze_gf (len := 3) (idx := 165) (by decide +kernel) rfl h rfl
theorem x41_97 : Ze d 41 97 [l0, l1, aI z, l3, l4] st s = Ze d 41 98 [l0, l1, aI z, l3, l4] (aI z :: st) s := Ze_n (i := (.iload_n 2)) (len := 1) (by decide +kernel) rfl
theorem x41_98 : Ze d 41 98 [l0, l1, l2, l3, l4] st s = Ze d 41 99 [l0, l1, l2, l3, l4] (aI 1 :: st) s := Ze_n (i := (.iconst 1)) (len := 1) (by decide +kernel) rfl
theorem x41_99 : Ze d 41 99 [l0, l1, l2, l3, l4] (aI b :: aI a :: st) s = Ze d 41 100 [l0, l1, l2, l3, l4] (aI (wrap (a - b)) :: st) s := Ze_n (i := .isub) (len := 1) (by decide +kernel) rfl
theorem x41_100 (h0 : 0 ≤ i) (h1 : i < aN2 r) : Ze d 41 100 [l0, l1, l2, l3, l4] (aI i :: aR r :: st) s = Ze d 41 101 [l0, l1, l2, l3, l4] (aI (s r i.toNat) :: st) s := Ze_n (i := .baload) (len := 1) (by decide +kernel) (if_pos ⟨h0, h1⟩)
theorem x41_101 : Ze d 41 101 [l0, l1, l2, l3, l4] (aI z :: st) s = Ze d 41 102 [l0, l1, l2, aI z, l4] st s := Ze_n (i := (.istore_n 3)) (len := 1) (by decide +kernel) rfl
theorem x41_102 : Ze d 41 102 [l0, l1, l2, l3, l4] st s = Ze d 41 127 [l0, l1, l2, l3, l4] st s := Ze_n (i := (.goto 25)) (len := 3) (by decide +kernel) rfl
theorem x41_105 : Ze d 41 105 [l0, l1, aI z, l3, l4] st s = Ze d 41 108 [l0, l1, aI (wrap (z + (-1))), l3, l4] st s := Ze_n (i := (.iinc 2 (-1))) (len := 3) (by decide +kernel) rfl
theorem x41_108 : Ze d 41 108 [aR r, l1, l2, l3, l4] st s = Ze d 41 109 [aR r, l1, l2, l3, l4] (aR r :: st) s := Ze_n (i := (.aload_n 0)) (len := 1) (by decide +kernel) rfl
theorem x41_109 (h : obC r = 0) : Ze d 41 109 [l0, l1, l2, l3, l4] (aR r :: st) s = Ze d 41 112 [l0, l1, l2, l3, l4] (aR (fcn r 65) :: st) s := Ze_gf (len := 3) (idx := 162) (by decide +kernel) rfl h rfl
theorem x41_112 : Ze d 41 112 [l0, l1, aI z, l3, l4] st s = Ze d 41 113 [l0, l1, aI z, l3, l4] (aI z :: st) s := Ze_n (i := (.iload_n 2)) (len := 1) (by decide +kernel) rfl
theorem x41_113 (h0 : 0 ≤ i) (h1 : i < aN2 r) : Ze d 41 113 [l0, l1, l2, l3, l4] (aI i :: aR r :: st) s = Ze d 41 114 [l0, l1, l2, l3, l4] (aI (s r i.toNat) :: st) s := Ze_n (i := .baload) (len := 1) (by decide +kernel) (if_pos ⟨h0, h1⟩)
theorem x41_114 : Ze d 41 114 [l0, l1, l2, l3, l4] (aI a :: st) s = if a = 0 then Ze d 41 125 [l0, l1, l2, l3, l4] st s else Ze d 41 117 [l0, l1, l2, l3, l4] st s := Ze_b (i := (.ifCond .eq 11)) (len := 3) (by decide +kernel) rfl
theorem x41_117 : Ze d 41 117 [l0, l1, l2, aI z, l4] st s = Ze d 41 118 [l0, l1, l2, aI z, l4] (aI z :: st) s := Ze_n (i := (.iload_n 3)) (len := 1) (by decide +kernel) rfl
theorem x41_118 : Ze d 41 118 [l0, l1, l2, l3, l4] (aI a :: st) s = if a = 0 then Ze d 41 125 [l0, l1, l2, l3, l4] st s else Ze d 41 121 [l0, l1, l2, l3, l4] st s := Ze_b (i := (.ifCond .eq 7)) (len := 3) (by decide +kernel) rfl
theorem x41_121 : Ze d 41 121 [l0, l1, l2, l3, l4] st s = Ze d 41 122 [l0, l1, l2, l3, l4] (aI 1 :: st) s := Ze_n (i := (.iconst 1)) (len := 1) (by decide +kernel) rfl
theorem x41_122 : Ze d 41 122 [l0, l1, l2, l3, l4] st s = Ze d 41 126 [l0, l1, l2, l3, l4] st s := Ze_n (i := (.goto 4)) (len := 3) (by decide +kernel) rfl
theorem x41_125 : Ze d 41 125 [l0, l1, l2, l3, l4] st s = Ze d 41 126 [l0, l1, l2, l3, l4] (aI 0 :: st) s := Ze_n (i := (.iconst 0)) (len := 1) (by decide +kernel) rfl
theorem x41_126 : Ze d 41 126 [l0, l1, l2, l3, l4] (aI z :: st) s = Ze d 41 127 [l0, l1, l2, aI z, l4] st s := Ze_n (i := (.istore_n 3)) (len := 1) (by decide +kernel) rfl
theorem x41_127 : Ze d 41 127 [l0, l1, l2, l3, aI z] st s = Ze d 41 130 [l0, l1, l2, l3, aI (wrap (z + 1))] st s := Ze_n (i := (.iinc 4 1)) (len := 3) (by decide +kernel) rfl
theorem x41_130 : Ze d 41 130 [l0, l1, l2, l3, l4] st s = Ze d 41 7 [l0, l1, l2, l3, l4] st s := Ze_n (i := (.goto (-123))) (len := 3) (by decide +kernel) rfl
theorem x41_133 : Ze d 41 133 [l0, l1, l2, aI z, l4] st s = Ze d 41 134 [l0, l1, l2, aI z, l4] (aI z :: st) s := Ze_n (i := (.iload_n 3)) (len := 1) (by decide +kernel) rfl
theorem x41_134 (h : z = 0 ∨ z = 1) : Ze d 41 134 [l0, l1, l2, l3, l4] [aI z] s = rI z s := Ze_i2 (by decide +kernel) rfl h
theorem en41 : Zc (d + 1) 41 [aR r, aI a1] s = Ze d 41 0 [aR r, aI a1, aU, aU, aU] [] s := rfl
theorem x42_0 : Ze d 42 0 [l0, l1, l2, l3] st s = Ze d 42 1 [l0, l1, l2, l3] (aI 0 :: st) s := Ze_n (i := (.iconst 0)) (len := 1) (by decide +kernel) rfl
theorem x42_1 : Ze d 42 1 [l0, l1, l2, l3] (aI z :: st) s = Ze d 42 2 [l0, l1, aI z, l3] st s := Ze_n (i := (.istore_n 2)) (len := 1) (by decide +kernel) rfl
theorem x42_2 : Ze d 42 2 [l0, aI z, l2, l3] st s = Ze d 42 3 [l0, aI z, l2, l3] (aI z :: st) s := Ze_n (i := (.iload_n 1)) (len := 1) (by decide +kernel) rfl
theorem x42_3 : Ze d 42 3 [l0, l1, l2, l3] (aI z :: st) s = Ze d 42 4 [l0, l1, l2, aI z] st s := Ze_n (i := (.istore_n 3)) (len := 1) (by decide +kernel) rfl
theorem x42_4 : Ze d 42 4 [l0, l1, l2, aI z] st s = Ze d 42 5 [l0, l1, l2, aI z] (aI z :: st) s := Ze_n (i := (.iload_n 3)) (len := 1) (by decide +kernel) rfl
theorem x42_5 : Ze d 42 5 [aR r, l1, l2, l3] st s = Ze d 42 6 [aR r, l1, l2, l3] (aR r :: st) s := Ze_n (i := (.aload_n 0)) (len := 1) (by decide +kernel) rfl
theorem x42_6 (h : obC r = 0) : Ze d 42 6 [l0, l1, l2, l3] (aR r :: st) s = Ze d 42 9 [l0, l1, l2, l3] (aR (fcn r 25) :: st) s := Ze_gf (len := 3) (idx := 65) (by decide +kernel) rfl h rfl
theorem x42_9 : Ze d 42 9 [l0, aI z, l2, l3] st s = Ze d 42 10 [l0, aI z, l2, l3] (aI z :: st) s := Ze_n (i := (.iload_n 1)) (len := 1) (by decide +kernel) rfl
theorem x42_10 (h0 : 0 ≤ i) (h1 : i < aN1 r) : Ze d 42 10 [l0, l1, l2, l3] (aI i :: aR r :: st) s = Ze d 42 11 [l0, l1, l2, l3] (aI (s r i.toNat) :: st) s := Ze_n (i := .iaload) (len := 1) (by decide +kernel) (if_pos ⟨h0, h1⟩)
theorem x42_11 : Ze d 42 11 [l0, l1, l2, l3] (aI b :: aI a :: st) s = if a < b then Ze d 42 14 [l0, l1, l2, l3] st s else Ze d 42 40 [l0, l1, l2, l3] st s := Ze_b (i := (.if_icmp .ge 29)) (len := 3) (by decide +kernel) rfl
theorem x42_14 : Ze d 42 14 [aR r, l1, l2, l3] st s = Ze d 42 15 [aR r, l1, l2, l3] (aR r :: st) s := Ze_n (i := (.aload_n 0)) (len := 1) (by decide +kernel) rfl
theorem x42_15 (h : obC r = 0) : Ze d 42 15 [l0, l1, l2, l3] (aR r :: st) s = Ze d 42 18 [l0, l1, l2, l3] (aR (fcn r 19) :: st) s := Ze_gf (len := 3) (idx := 47) (by decide +kernel) rfl h rfl
theorem x42_18 : Ze d 42 18 [l0, l1, l2, aI z] st s = Ze d 42 19 [l0, l1, l2, aI z] (aI z :: st) s := Ze_n (i := (.iload_n 3)) (len := 1) (by decide +kernel) rfl
theorem x42_19 (h0 : 0 ≤ i) (h1 : i < aN1 r) : Ze d 42 19 [l0, l1, l2, l3] (aI i :: aR r :: st) s = Ze d 42 20 [l0, l1, l2, l3] (aI (s r i.toNat) :: st) s := Ze_n (i := .iaload) (len := 1) (by decide +kernel) (if_pos ⟨h0, h1⟩)
theorem x42_20 : Ze d 42 20 [l0, l1, l2, l3] (aI a :: st) s = if a = 0 then Ze d 42 23 [l0, l1, l2, l3] st s else Ze d 42 34 [l0, l1, l2, l3] st s := Ze_b (i := (.ifCond .ne 14)) (len := 3) (by decide +kernel) rfl
theorem x42_23 : Ze d 42 23 [l0, l1, aI z, l3] st s = Ze d 42 24 [l0, l1, aI z, l3] (aI z :: st) s := Ze_n (i := (.iload_n 2)) (len := 1) (by decide +kernel) rfl
theorem x42_24 : Ze d 42 24 [l0, l1, l2, l3] st s = Ze d 42 25 [l0, l1, l2, l3] (aI 1 :: st) s := Ze_n (i := (.iconst 1)) (len := 1) (by decide +kernel) rfl
theorem x42_25 : Ze d 42 25 [aR r, l1, l2, l3] st s = Ze d 42 26 [aR r, l1, l2, l3] (aR r :: st) s := Ze_n (i := (.aload_n 0)) (len := 1) (by decide +kernel) rfl
theorem x42_26 (h : obC r = 0) : Ze d 42 26 [l0, l1, l2, l3] (aR r :: st) s = Ze d 42 29 [l0, l1, l2, l3] (aR (fcn r 22) :: st) s := Ze_gf (len := 3) (idx := 56) (by decide +kernel) rfl h rfl
theorem x42_29 : Ze d 42 29 [l0, l1, l2, aI z] st s = Ze d 42 30 [l0, l1, l2, aI z] (aI z :: st) s := Ze_n (i := (.iload_n 3)) (len := 1) (by decide +kernel) rfl
theorem x42_30 (h0 : 0 ≤ i) (h1 : i < aN1 r) : Ze d 42 30 [l0, l1, l2, l3] (aI i :: aR r :: st) s = Ze d 42 31 [l0, l1, l2, l3] (aI (s r i.toNat) :: st) s := Ze_n (i := .iaload) (len := 1) (by decide +kernel) (if_pos ⟨h0, h1⟩)
theorem x42_31 : Ze d 42 31 [l0, l1, l2, l3] (aI b :: aI a :: st) s = Ze d 42 32 [l0, l1, l2, l3] (aI (ishl a b) :: st) s := Ze_n (i := .ishl) (len := 1) (by decide +kernel) rfl
theorem x42_32 : Ze d 42 32 [l0, l1, l2, l3] (aI b :: aI a :: st) s = Ze d 42 33 [l0, l1, l2, l3] (aI (ior a b) :: st) s := Ze_n (i := .ior) (len := 1) (by decide +kernel) rfl
theorem x42_33 : Ze d 42 33 [l0, l1, l2, l3] (aI z :: st) s = Ze d 42 34 [l0, l1, aI z, l3] st s := Ze_n (i := (.istore_n 2)) (len := 1) (by decide +kernel) rfl
theorem x42_34 : Ze d 42 34 [l0, l1, l2, aI z] st s = Ze d 42 37 [l0, l1, l2, aI (wrap (z + 1))] st s := Ze_n (i := (.iinc 3 1)) (len := 3) (by decide +kernel) rfl
theorem x42_37 : Ze d 42 37 [l0, l1, l2, l3] st s = Ze d 42 4 [l0, l1, l2, l3] st s := Ze_n (i := (.goto (-33))) (len := 3) (by decide +kernel) rfl
theorem x42_40 : Ze d 42 40 [l0, l1, aI z, l3] st s = Ze d 42 41 [l0, l1, aI z, l3] (aI z :: st) s := Ze_n (i := (.iload_n 2)) (len := 1) (by decide +kernel) rfl
theorem x42_41 : Ze d 42 41 [l0, l1, l2, l3] [aI z] s = rI z s := Ze_i1 (by decide +kernel) rfl
theorem en42 : Zc (d + 1) 42 [aR r, aI a1] s = Ze d 42 0 [aR r, aI a1, aU, aU] [] s := rfl
theorem x43_0 : Ze d 43 0 [aR r, l1, l2, l3, l4, l5] st s = Ze d 43 1 [aR r, l1, l2, l3, l4, l5] (aR r :: st) s := Ze_n (i := (.aload_n 0)) (len := 1) (by decide +kernel) rfl
theorem x43_1 (h : obC r = 0) : Ze d 43 1 [l0, l1, l2, l3, l4, l5] (aR r :: st) s = Ze d 43 4 [l0, l1, l2, l3, l4, l5] (aR (fcn r 48) :: st) s := Ze_gf (len := 3) (idx := 128) (by decide +kernel) rfl h rfl
theorem x43_4 : Ze d 43 4 [l0, aI z, l2, l3, l4, l5] st s = Ze d 43 5 [l0, aI z, l2, l3, l4, l5] (aI z :: st) s := Ze_n (i := (.iload_n 1)) (len := 1) (by decide +kernel) rfl
theorem x43_5 (h0 : 0 ≤ i) (h1 : i < aN1 r) : Ze d 43 5 [l0, l1, l2, l3, l4, l5] (aI i :: aR r :: st) s = Ze d 43 6 [l0, l1, l2, l3, l4, l5] (aI (s r i.toNat) :: st) s := Ze_n (i := .iaload) (len := 1) (by decide +kernel) (if_pos ⟨h0, h1⟩)
theorem x43_6 : Ze d 43 6 [l0, l1, l2, l3, l4, l5] (aI a :: st) s = if a < 0 then Ze d 43 20 [l0, l1, l2, l3, l4, l5] st s else Ze d 43 9 [l0, l1, l2, l3, l4, l5] st s := Ze_b (i := (.ifCond .lt 14)) (len := 3) (by decide +kernel) rfl
theorem x43_9 : Ze d 43 9 [aR r, l1, l2, l3, l4, l5] st s = Ze d 43 10 [aR r, l1, l2, l3, l4, l5] (aR r :: st) s := Ze_n (i := (.aload_n 0)) (len := 1) (by decide +kernel) rfl
theorem x43_10 : Ze d 43 10 [aR r, l1, l2, l3, l4, l5] st s = Ze d 43 11 [aR r, l1, l2, l3, l4, l5] (aR r :: st) s := Ze_n (i := (.aload_n 0)) (len := 1) (by decide +kernel) rfl
theorem x43_11 (h : obC r = 0) : Ze d 43 11 [l0, l1, l2, l3, l4, l5] (aR r :: st) s = Ze d 43 14 [l0, l1, l2, l3, l4, l5] (aR (fcn r 48) :: st) s := Ze_gf (len := 3) (idx := 128) (by decide +kernel) rfl h rfl
theorem x43_14 : Ze d 43 14 [l0, aI z, l2, l3, l4, l5] st s = Ze d 43 15 [l0, aI z, l2, l3, l4, l5] (aI z :: st) s := Ze_n (i := (.iload_n 1)) (len := 1) (by decide +kernel) rfl
theorem x43_15 (h0 : 0 ≤ i) (h1 : i < aN1 r) : Ze d 43 15 [l0, l1, l2, l3, l4, l5] (aI i :: aR r :: st) s = Ze d 43 16 [l0, l1, l2, l3, l4, l5] (aI (s r i.toNat) :: st) s := Ze_n (i := .iaload) (len := 1) (by decide +kernel) (if_pos ⟨h0, h1⟩)
theorem x43_16 (h : obC r = 0) (h6 : st.length ≤ 4) : Ze d 43 16 [l0, l1, l2, l3, l4, l5] (aI a1 :: aR r :: st) s = zcI (Zc d 42 [aR r, aI a1] s) d 43 19 [l0, l1, l2, l3, l4, l5] st := Ze_cvI (idx := 344) (len := 3) (as := [aI a1]) (by decide +kernel) rfl (by decide +kernel) rfl h h6
theorem x43_19 : Ze d 43 19 [l0, l1, l2, l3, l4, l5] [aI z] s = rI z s := Ze_i1 (by decide +kernel) rfl
theorem x43_20 : Ze d 43 20 [l0, l1, l2, l3, l4, l5] st s = Ze d 43 21 [l0, l1, l2, l3, l4, l5] (aI 0 :: st) s := Ze_n (i := (.iconst 0)) (len := 1) (by decide +kernel) rfl
theorem x43_21 : Ze d 43 21 [l0, l1, l2, l3, l4, l5] (aI z :: st) s = Ze d 43 22 [l0, l1, aI z, l3, l4, l5] st s := Ze_n (i := (.istore_n 2)) (len := 1) (by decide +kernel) rfl
theorem x43_22 : Ze d 43 22 [aR r, l1, l2, l3, l4, l5] st s = Ze d 43 23 [aR r, l1, l2, l3, l4, l5] (aR r :: st) s := Ze_n (i := (.aload_n 0)) (len := 1) (by decide +kernel) rfl
theorem x43_23 (h : obC r = 0) : Ze d 43 23 [l0, l1, l2, l3, l4, l5] (aR r :: st) s = Ze d 43 26 [l0, l1, l2, l3, l4, l5] (aR (fcn r 44) :: st) s := Ze_gf (len := 3) (idx := 116) (by decide +kernel) rfl h rfl
theorem x43_26 : Ze d 43 26 [l0, aI z, l2, l3, l4, l5] st s = Ze d 43 27 [l0, aI z, l2, l3, l4, l5] (aI z :: st) s := Ze_n (i := (.iload_n 1)) (len := 1) (by decide +kernel) rfl
theorem x43_27 (h0 : 0 ≤ i) (h1 : i < aN1 r) : Ze d 43 27 [l0, l1, l2, l3, l4, l5] (aI i :: aR r :: st) s = Ze d 43 28 [l0, l1, l2, l3, l4, l5] (aI (s r i.toNat) :: st) s := Ze_n (i := .iaload) (len := 1) (by decide +kernel) (if_pos ⟨h0, h1⟩)
theorem x43_28 : Ze d 43 28 [l0, l1, l2, l3, l4, l5] st s = Ze d 43 29 [l0, l1, l2, l3, l4, l5] (aI 3 :: st) s := Ze_n (i := (.iconst 3)) (len := 1) (by decide +kernel) rfl
theorem x43_29 : Ze d 43 29 [l0, l1, l2, l3, l4, l5] (aI b :: aI a :: st) s = if a = b then Ze d 43 32 [l0, l1, l2, l3, l4, l5] st s else Ze d 43 38 [l0, l1, l2, l3, l4, l5] st s := Ze_b (i := (.if_icmp .ne 9)) (len := 3) (by decide +kernel) rfl
theorem x43_32 : Ze d 43 32 [l0, l1, l2, l3, l4, l5] st s = Ze d 43 33 [l0, l1, l2, l3, l4, l5] (aI 1 :: st) s := Ze_n (i := (.iconst 1)) (len := 1) (by decide +kernel) rfl
theorem x43_33 : Ze d 43 33 [l0, aI z, l2, l3, l4, l5] st s = Ze d 43 34 [l0, aI z, l2, l3, l4, l5] (aI z :: st) s := Ze_n (i := (.iload_n 1)) (len := 1) (by decide +kernel) rfl
theorem x43_34 : Ze d 43 34 [l0, l1, l2, l3, l4, l5] (aI b :: aI a :: st) s = Ze d 43 35 [l0, l1, l2, l3, l4, l5] (aI (ishl a b) :: st) s := Ze_n (i := .ishl) (len := 1) (by decide +kernel) rfl
theorem x43_35 : Ze d 43 35 [l0, l1, l2, l3, l4, l5] st s = Ze d 43 39 [l0, l1, l2, l3, l4, l5] st s := Ze_n (i := (.goto 4)) (len := 3) (by decide +kernel) rfl
theorem x43_38 : Ze d 43 38 [l0, l1, l2, l3, l4, l5] st s = Ze d 43 39 [l0, l1, l2, l3, l4, l5] (aI 0 :: st) s := Ze_n (i := (.iconst 0)) (len := 1) (by decide +kernel) rfl
theorem x43_39 : Ze d 43 39 [l0, l1, l2, l3, l4, l5] (aI z :: st) s = Ze d 43 40 [l0, l1, l2, aI z, l4, l5] st s := Ze_n (i := (.istore_n 3)) (len := 1) (by decide +kernel) rfl
theorem x43_40 : Ze d 43 40 [l0, l1, l2, l3, l4, l5] st s = Ze d 43 41 [l0, l1, l2, l3, l4, l5] (aI 0 :: st) s := Ze_n (i := (.iconst 0)) (len := 1) (by decide +kernel) rfl
theorem x43_41 : Ze d 43 41 [l0, l1, l2, l3, l4, l5] (aI z :: st) s = Ze d 43 43 [l0, l1, l2, l3, aI z, l5] st s := Ze_n (i := (.istore 4)) (len := 2) (by decide +kernel) rfl
theorem x43_43 : Ze d 43 43 [l0, l1, l2, l3, aI z, l5] st s = Ze d 43 45 [l0, l1, l2, l3, aI z, l5] (aI z :: st) s := Ze_n (i := (.iload 4)) (len := 2) (by decide +kernel) rfl
theorem x43_45 : Ze d 43 45 [aR r, l1, l2, l3, l4, l5] st s = Ze d 43 46 [aR r, l1, l2, l3, l4, l5] (aR r :: st) s := Ze_n (i := (.aload_n 0)) (len := 1) (by decide +kernel) rfl
theorem x43_46 (h : obC r = 0) : Ze d 43 46 [l0, l1, l2, l3, l4, l5] (aR r :: st) s = Ze d 43 49 [l0, l1, l2, l3, l4, l5] (aI (s r 57) :: st) s := Ze_gf (len := 3) (idx := 313) (by decide +kernel) rfl h rfl
theorem x43_49 : Ze d 43 49 [l0, l1, l2, l3, l4, l5] (aI b :: aI a :: st) s = if a < b then Ze d 43 52 [l0, l1, l2, l3, l4, l5] st s else Ze d 43 259 [l0, l1, l2, l3, l4, l5] st s := Ze_b (i := (.if_icmp .ge 210)) (len := 3) (by decide +kernel) rfl
theorem x43_52 : Ze d 43 52 [aR r, l1, l2, l3, l4, l5] st s = Ze d 43 53 [aR r, l1, l2, l3, l4, l5] (aR r :: st) s := Ze_n (i := (.aload_n 0)) (len := 1) (by decide +kernel) rfl
theorem x43_53 (h : obC r = 0) : Ze d 43 53 [l0, l1, l2, l3, l4, l5] (aR r :: st) s = Ze d 43 56 [l0, l1, l2, l3, l4, l5] (aR (fcn r 54) :: st) s := Ze_gf (len := 3) (idx := 134) (by decide +kernel) rfl h rfl
theorem x43_56 : Ze d 43 56 [l0, l1, l2, l3, aI z, l5] st s = Ze d 43 58 [l0, l1, l2, l3, aI z, l5] (aI z :: st) s := Ze_n (i := (.iload 4)) (len := 2) (by decide +kernel) rfl
theorem x43_58 (h0 : 0 ≤ i) (h1 : i < aN1 r) : Ze d 43 58 [l0, l1, l2, l3, l4, l5] (aI i :: aR r :: st) s = Ze d 43 59 [l0, l1, l2, l3, l4, l5] (aI (s r i.toNat) :: st) s := Ze_n (i := .iaload) (len := 1) (by decide +kernel) (if_pos ⟨h0, h1⟩)
theorem x43_59 : Ze d 43 59 [l0, l1, l2, l3, l4, l5] (aI a :: st) s = if a = 0 then Ze d 43 84 [l0, l1, l2, l3, l4, l5] st s else if a = 1 then Ze d 43 160 [l0, l1, l2, l3, l4, l5] st s else if a = 2 then Ze d 43 200 [l0, l1, l2, l3, l4, l5] st s else Ze d 43 221 [l0, l1, l2, l3, l4, l5] st s :=
  Ze_ts (dflt := 162) (lo := 0) (hi := 2) (offs := #[25, 101, 141]) (len := 25) (ks := [(0, 84), (1, 160), (2, 200)]) (df := 221) (by decide +kernel) (by decide +kernel) (by decide +kernel)
theorem x43_84 : Ze d 43 84 [aR r, l1, l2, l3, l4, l5] st s = Ze d 43 85 [aR r, l1, l2, l3, l4, l5] (aR r :: st) s := Ze_n (i := (.aload_n 0)) (len := 1) (by decide +kernel) rfl
theorem x43_85 (h : obC r = 0) : Ze d 43 85 [l0, l1, l2, l3, l4, l5] (aR r :: st) s = Ze d 43 88 [l0, l1, l2, l3, l4, l5] (aR (fcn r 55) :: st) s := Ze_gf (len := 3) (idx := 137) (by decide +kernel) rfl h rfl
theorem x43_88 : Ze d 43 88 [l0, l1, l2, l3, aI z, l5] st s = Ze d 43 90 [l0, l1, l2, l3, aI z, l5] (aI z :: st) s := Ze_n (i := (.iload 4)) (len := 2) (by decide +kernel) rfl
theorem x43_90 (h0 : 0 ≤ i) (h1 : i < aN1 r) : Ze d 43 90 [l0, l1, l2, l3, l4, l5] (aI i :: aR r :: st) s = Ze d 43 91 [l0, l1, l2, l3, l4, l5] (aI (s r i.toNat) :: st) s := Ze_n (i := .iaload) (len := 1) (by decide +kernel) (if_pos ⟨h0, h1⟩)
theorem x43_91 : Ze d 43 91 [l0, aI z, l2, l3, l4, l5] st s = Ze d 43 92 [l0, aI z, l2, l3, l4, l5] (aI z :: st) s := Ze_n (i := (.iload_n 1)) (len := 1) (by decide +kernel) rfl
theorem x43_92 : Ze d 43 92 [l0, l1, l2, l3, l4, l5] (aI b :: aI a :: st) s = if a = b then Ze d 43 98 [l0, l1, l2, l3, l4, l5] st s else Ze d 43 95 [l0, l1, l2, l3, l4, l5] st s := Ze_b (i := (.if_icmp .eq 6)) (len := 3) (by decide +kernel) rfl
theorem x43_95 : Ze d 43 95 [l0, l1, l2, l3, l4, l5] st s = Ze d 43 253 [l0, l1, l2, l3, l4, l5] st s := Ze_n (i := (.goto 158)) (len := 3) (by decide +kernel) rfl
theorem x43_98 : Ze d 43 98 [aR r, l1, l2, l3, l4, l5] st s = Ze d 43 99 [aR r, l1, l2, l3, l4, l5] (aR r :: st) s := Ze_n (i := (.aload_n 0)) (len := 1) (by decide +kernel) rfl
theorem x43_99 (h : obC r = 0) : Ze d 43 99 [l0, l1, l2, l3, l4, l5] (aR r :: st) s = Ze d 43 102 [l0, l1, l2, l3, l4, l5] (aR (fcn r 56) :: st) s := Ze_gf (len := 3) (idx := 140) (by decide +kernel) rfl h rfl
theorem x43_102 : Ze d 43 102 [l0, l1, l2, l3, aI z, l5] st s = Ze d 43 104 [l0, l1, l2, l3, aI z, l5] (aI z :: st) s := Ze_n (i := (.iload 4)) (len := 2) (by decide +kernel) rfl
theorem x43_104 (h0 : 0 ≤ i) (h1 : i < aN1 r) : Ze d 43 104 [l0, l1, l2, l3, l4, l5] (aI i :: aR r :: st) s = Ze d 43 105 [l0, l1, l2, l3, l4, l5] (aI (s r i.toNat) :: st) s := Ze_n (i := .iaload) (len := 1) (by decide +kernel) (if_pos ⟨h0, h1⟩)
theorem x43_105 : Ze d 43 105 [l0, l1, l2, l3, l4, l5] (aI a :: st) s = if a < 0 then Ze d 43 108 [l0, l1, l2, l3, l4, l5] st s else Ze d 43 122 [l0, l1, l2, l3, l4, l5] st s := Ze_b (i := (.ifCond .ge 17)) (len := 3) (by decide +kernel) rfl
theorem x43_108 : Ze d 43 108 [l0, l1, l2, l3, l4, l5] st s = Ze d 43 109 [l0, l1, l2, l3, l4, l5] (aI 1 :: st) s := Ze_n (i := (.iconst 1)) (len := 1) (by decide +kernel) rfl
theorem x43_109 : Ze d 43 109 [l0, l1, l2, l3, l4, l5] st s = Ze d 43 110 [l0, l1, l2, l3, l4, l5] (aI (-1) :: st) s := Ze_n (i := (.iconst (-1))) (len := 1) (by decide +kernel) rfl
theorem x43_110 : Ze d 43 110 [aR r, l1, l2, l3, l4, l5] st s = Ze d 43 111 [aR r, l1, l2, l3, l4, l5] (aR r :: st) s := Ze_n (i := (.aload_n 0)) (len := 1) (by decide +kernel) rfl
theorem x43_111 (h : obC r = 0) : Ze d 43 111 [l0, l1, l2, l3, l4, l5] (aR r :: st) s = Ze d 43 114 [l0, l1, l2, l3, l4, l5] (aR (fcn r 56) :: st) s := Ze_gf (len := 3) (idx := 140) (by decide +kernel) rfl h rfl
theorem x43_114 : Ze d 43 114 [l0, l1, l2, l3, aI z, l5] st s = Ze d 43 116 [l0, l1, l2, l3, aI z, l5] (aI z :: st) s := Ze_n (i := (.iload 4)) (len := 2) (by decide +kernel) rfl
theorem x43_116 (h0 : 0 ≤ i) (h1 : i < aN1 r) : Ze d 43 116 [l0, l1, l2, l3, l4, l5] (aI i :: aR r :: st) s = Ze d 43 117 [l0, l1, l2, l3, l4, l5] (aI (s r i.toNat) :: st) s := Ze_n (i := .iaload) (len := 1) (by decide +kernel) (if_pos ⟨h0, h1⟩)
theorem x43_117 : Ze d 43 117 [l0, l1, l2, l3, l4, l5] (aI b :: aI a :: st) s = Ze d 43 118 [l0, l1, l2, l3, l4, l5] (aI (wrap (a - b)) :: st) s := Ze_n (i := .isub) (len := 1) (by decide +kernel) rfl
theorem x43_118 : Ze d 43 118 [l0, l1, l2, l3, l4, l5] (aI b :: aI a :: st) s = Ze d 43 119 [l0, l1, l2, l3, l4, l5] (aI (ishl a b) :: st) s := Ze_n (i := .ishl) (len := 1) (by decide +kernel) rfl
theorem x43_119 : Ze d 43 119 [l0, l1, l2, l3, l4, l5] st s = Ze d 43 133 [l0, l1, l2, l3, l4, l5] st s := Ze_n (i := (.goto 14)) (len := 3) (by decide +kernel) rfl
theorem x43_122 : Ze d 43 122 [aR r, l1, l2, l3, l4, l5] st s = Ze d 43 123 [aR r, l1, l2, l3, l4, l5] (aR r :: st) s := Ze_n (i := (.aload_n 0)) (len := 1) (by decide +kernel) rfl
theorem x43_123 : Ze d 43 123 [aR r, l1, l2, l3, l4, l5] st s = Ze d 43 124 [aR r, l1, l2, l3, l4, l5] (aR r :: st) s := Ze_n (i := (.aload_n 0)) (len := 1) (by decide +kernel) rfl
theorem x43_124 (h : obC r = 0) : Ze d 43 124 [l0, l1, l2, l3, l4, l5] (aR r :: st) s = Ze d 43 127 [l0, l1, l2, l3, l4, l5] (aR (fcn r 56) :: st) s := Ze_gf (len := 3) (idx := 140) (by decide +kernel) rfl h rfl
theorem x43_127 : Ze d 43 127 [l0, l1, l2, l3, aI z, l5] st s = Ze d 43 129 [l0, l1, l2, l3, aI z, l5] (aI z :: st) s := Ze_n (i := (.iload 4)) (len := 2) (by decide +kernel) rfl
theorem x43_129 (h0 : 0 ≤ i) (h1 : i < aN1 r) : Ze d 43 129 [l0, l1, l2, l3, l4, l5] (aI i :: aR r :: st) s = Ze d 43 130 [l0, l1, l2, l3, l4, l5] (aI (s r i.toNat) :: st) s := Ze_n (i := .iaload) (len := 1) (by decide +kernel) (if_pos ⟨h0, h1⟩)
theorem x43_130 (h : obC r = 0) (h6 : st.length ≤ 4) : Ze d 43 130 [l0, l1, l2, l3, l4, l5] (aI a1 :: aR r :: st) s = zcI (Zc d 42 [aR r, aI a1] s) d 43 133 [l0, l1, l2, l3, l4, l5] st := Ze_cvI (idx := 344) (len := 3) (as := [aI a1]) (by decide +kernel) rfl (by decide +kernel) rfl h h6
theorem x43_133 : Ze d 43 133 [l0, l1, l2, l3, l4, l5] (aI z :: st) s = Ze d 43 134 [l0, l1, l2, aI z, l4, l5] st s := Ze_n (i := (.istore_n 3)) (len := 1) (by decide +kernel) rfl
theorem x43_134 : Ze d 43 134 [l0, l1, l2, l3, l4, l5] st s = Ze d 43 135 [l0, l1, l2, l3, l4, l5] (aI 0 :: st) s := Ze_n (i := (.iconst 0)) (len := 1) (by decide +kernel) rfl
theorem x43_135 : Ze d 43 135 [l0, l1, l2, l3, l4, l5] (aI z :: st) s = Ze d 43 137 [l0, l1, l2, l3, l4, aI z] st s := Ze_n (i := (.istore 5)) (len := 2) (by decide +kernel) rfl
theorem x43_137 : Ze d 43 137 [l0, l1, l2, l3, l4, aI z] st s = Ze d 43 139 [l0, l1, l2, l3, l4, aI z] (aI z :: st) s := Ze_n (i := (.iload 5)) (len := 2) (by decide +kernel) rfl
theorem x43_139 : Ze d 43 139 [l0, l1, aI z, l3, l4, l5] st s = Ze d 43 140 [l0, l1, aI z, l3, l4, l5] (aI z :: st) s := Ze_n (i := (.iload_n 2)) (len := 1) (by decide +kernel) rfl
theorem x43_140 : Ze d 43 140 [l0, l1, l2, l3, l4, l5] (aI b :: aI a :: st) s = if a < b then Ze d 43 143 [l0, l1, l2, l3, l4, l5] st s else Ze d 43 157 [l0, l1, l2, l3, l4, l5] st s := Ze_b (i := (.if_icmp .ge 17)) (len := 3) (by decide +kernel) rfl
theorem x43_143 : Ze d 43 143 [aR r, l1, l2, l3, l4, l5] st s = Ze d 43 144 [aR r, l1, l2, l3, l4, l5] (aR r :: st) s := Ze_n (i := (.aload_n 0)) (len := 1) (by decide +kernel) rfl
theorem x43_144 (h : obC r = 0) : Ze d 43 144 [l0, l1, l2, l3, l4, l5] (aR r :: st) s = Ze d 43 147 [l0, l1, l2, l3, l4, l5] (aR (fcn r 67) :: st) s := Ze_gf (len := 3) (idx := 168) (by decide +kernel) rfl h rfl
theorem x43_147 : Ze d 43 147 [l0, l1, l2, l3, l4, aI z] st s = Ze d 43 149 [l0, l1, l2, l3, l4, aI z] (aI z :: st) s := Ze_n (i := (.iload 5)) (len := 2) (by decide +kernel) rfl
theorem x43_149 : Ze d 43 149 [l0, l1, l2, l3, l4, l5] st s = Ze d 43 150 [l0, l1, l2, l3, l4, l5] (aI 1 :: st) s := Ze_n (i := (.iconst 1)) (len := 1) (by decide +kernel) rfl
theorem x43_150 (h0 : 0 ≤ i) (h1 : i < aN2 r) (h2 : z = 0 ∨ z = 1) : Ze d 43 150 [l0, l1, l2, l3, l4, l5] (aI z :: aI i :: aR r :: st) s = Ze d 43 151 [l0, l1, l2, l3, l4, l5] st (mu s r i.toNat z) := Ze_n (i := .bastore) (len := 1) (by decide +kernel) (if_pos ⟨h0, h1, h2⟩)
theorem x43_151 : Ze d 43 151 [l0, l1, l2, l3, l4, aI z] st s = Ze d 43 154 [l0, l1, l2, l3, l4, aI (wrap (z + 1))] st s := Ze_n (i := (.iinc 5 1)) (len := 3) (by decide +kernel) rfl
theorem x43_154 : Ze d 43 154 [l0, l1, l2, l3, l4, l5] st s = Ze d 43 137 [l0, l1, l2, l3, l4, l5] st s := Ze_n (i := (.goto (-17))) (len := 3) (by decide +kernel) rfl
theorem x43_157 : Ze d 43 157 [l0, l1, l2, l3, l4, l5] st s = Ze d 43 253 [l0, l1, l2, l3, l4, l5] st s := Ze_n (i := (.goto 96)) (len := 3) (by decide +kernel) rfl
theorem x43_160 : Ze d 43 160 [aR r, l1, l2, l3, l4, l5] st s = Ze d 43 161 [aR r, l1, l2, l3, l4, l5] (aR r :: st) s := Ze_n (i := (.aload_n 0)) (len := 1) (by decide +kernel) rfl
theorem x43_161 (h : obC r = 0) : Ze d 43 161 [l0, l1, l2, l3, l4, l5] (aR r :: st) s = Ze d 43 164 [l0, l1, l2, l3, l4, l5] (aR (fcn r 68) :: st) s := Ze_gf (len := 3) (idx := 171) (by decide +kernel) rfl h rfl
theorem x43_164 : Ze d 43 164 [l0, l1, aI z, l3, l4, l5] st s = Ze d 43 165 [l0, l1, aI z, l3, l4, l5] (aI z :: st) s := Ze_n (i := (.iload_n 2)) (len := 1) (by decide +kernel) rfl
theorem x43_165 : Ze d 43 165 [l0, l1, l2, aI z, l4, l5] st s = Ze d 43 166 [l0, l1, l2, aI z, l4, l5] (aI z :: st) s := Ze_n (i := (.iload_n 3)) (len := 1) (by decide +kernel) rfl
theorem x43_166 (h0 : 0 ≤ i) (h1 : i < aN1 r) : Ze d 43 166 [l0, l1, l2, l3, l4, l5] (aI z :: aI i :: aR r :: st) s = Ze d 43 167 [l0, l1, l2, l3, l4, l5] st (mu s r i.toNat z) := Ze_n (i := .iastore) (len := 1) (by decide +kernel) (if_pos ⟨h0, h1⟩)
theorem x43_167 : Ze d 43 167 [aR r, l1, l2, l3, l4, l5] st s = Ze d 43 168 [aR r, l1, l2, l3, l4, l5] (aR r :: st) s := Ze_n (i := (.aload_n 0)) (len := 1) (by decide +kernel) rfl
theorem x43_168 (h : obC r = 0) : Ze d 43 168 [l0, l1, l2, l3, l4, l5] (aR r :: st) s = Ze d 43 171 [l0, l1, l2, l3, l4, l5] (aR (fcn r 69) :: st) s := Ze_gf (len := 3) (idx := 174) (by decide +kernel) rfl h rfl
theorem x43_171 : Ze d 43 171 [l0, l1, aI z, l3, l4, l5] st s = Ze d 43 172 [l0, l1, aI z, l3, l4, l5] (aI z :: st) s := Ze_n (i := (.iload_n 2)) (len := 1) (by decide +kernel) rfl
theorem x43_172 : Ze d 43 172 [l0, l1, l2, aI z, l4, l5] st s = Ze d 43 173 [l0, l1, l2, aI z, l4, l5] (aI z :: st) s := Ze_n (i := (.iload_n 3)) (len := 1) (by decide +kernel) rfl
theorem x43_173 (h0 : 0 ≤ i) (h1 : i < aN1 r) : Ze d 43 173 [l0, l1, l2, l3, l4, l5] (aI z :: aI i :: aR r :: st) s = Ze d 43 174 [l0, l1, l2, l3, l4, l5] st (mu s r i.toNat z) := Ze_n (i := .iastore) (len := 1) (by decide +kernel) (if_pos ⟨h0, h1⟩)
theorem x43_174 : Ze d 43 174 [aR r, l1, l2, l3, l4, l5] st s = Ze d 43 175 [aR r, l1, l2, l3, l4, l5] (aR r :: st) s := Ze_n (i := (.aload_n 0)) (len := 1) (by decide +kernel) rfl
theorem x43_175 (h : obC r = 0) : Ze d 43 175 [l0, l1, l2, l3, l4, l5] (aR r :: st) s = Ze d 43 178 [l0, l1, l2, l3, l4, l5] (aR (fcn r 70) :: st) s := Ze_gf (len := 3) (idx := 177) (by decide +kernel) rfl h rfl
theorem x43_178 : Ze d 43 178 [l0, l1, aI z, l3, l4, l5] st s = Ze d 43 179 [l0, l1, aI z, l3, l4, l5] (aI z :: st) s := Ze_n (i := (.iload_n 2)) (len := 1) (by decide +kernel) rfl
theorem x43_179 : Ze d 43 179 [aR r, l1, l2, l3, l4, l5] st s = Ze d 43 180 [aR r, l1, l2, l3, l4, l5] (aR r :: st) s := Ze_n (i := (.aload_n 0)) (len := 1) (by decide +kernel) rfl
theorem x43_180 (h : obC r = 0) : Ze d 43 180 [l0, l1, l2, l3, l4, l5] (aR r :: st) s = Ze d 43 183 [l0, l1, l2, l3, l4, l5] (aR (fcn r 56) :: st) s := Ze_gf (len := 3) (idx := 140) (by decide +kernel) rfl h rfl
theorem x43_183 : Ze d 43 183 [l0, l1, l2, l3, aI z, l5] st s = Ze d 43 185 [l0, l1, l2, l3, aI z, l5] (aI z :: st) s := Ze_n (i := (.iload 4)) (len := 2) (by decide +kernel) rfl
theorem x43_185 (h0 : 0 ≤ i) (h1 : i < aN1 r) : Ze d 43 185 [l0, l1, l2, l3, l4, l5] (aI i :: aR r :: st) s = Ze d 43 186 [l0, l1, l2, l3, l4, l5] (aI (s r i.toNat) :: st) s := Ze_n (i := .iaload) (len := 1) (by decide +kernel) (if_pos ⟨h0, h1⟩)
theorem x43_186 (h0 : 0 ≤ i) (h1 : i < aN1 r) : Ze d 43 186 [l0, l1, l2, l3, l4, l5] (aI z :: aI i :: aR r :: st) s = Ze d 43 187 [l0, l1, l2, l3, l4, l5] st (mu s r i.toNat z) := Ze_n (i := .iastore) (len := 1) (by decide +kernel) (if_pos ⟨h0, h1⟩)
theorem x43_187 : Ze d 43 187 [aR r, l1, l2, l3, l4, l5] st s = Ze d 43 188 [aR r, l1, l2, l3, l4, l5] (aR r :: st) s := Ze_n (i := (.aload_n 0)) (len := 1) (by decide +kernel) rfl
theorem x43_188 (h : obC r = 0) : Ze d 43 188 [l0, l1, l2, l3, l4, l5] (aR r :: st) s = Ze d 43 191 [l0, l1, l2, l3, l4, l5] (aR (fcn r 67) :: st) s := Ze_gf (len := 3) (idx := 168) (by decide +kernel) rfl h rfl
theorem x43_191 : Ze d 43 191 [l0, l1, aI z, l3, l4, l5] st s = Ze d 43 192 [l0, l1, aI z, l3, l4, l5] (aI z :: st) s := Ze_n (i := (.iload_n 2)) (len := 1) (by decide +kernel) rfl
theorem x43_192 : Ze d 43 192 [l0, l1, l2, l3, l4, l5] st s = Ze d 43 193 [l0, l1, l2, l3, l4, l5] (aI 0 :: st) s := Ze_n (i := (.iconst 0)) (len := 1) (by decide +kernel) rfl
theorem x43_193 (h0 : 0 ≤ i) (h1 : i < aN2 r) (h2 : z = 0 ∨ z = 1) : Ze d 43 193 [l0, l1, l2, l3, l4, l5] (aI z :: aI i :: aR r :: st) s = Ze d 43 194 [l0, l1, l2, l3, l4, l5] st (mu s r i.toNat z) := Ze_n (i := .bastore) (len := 1) (by decide +kernel) (if_pos ⟨h0, h1, h2⟩)
theorem x43_194 : Ze d 43 194 [l0, l1, aI z, l3, l4, l5] st s = Ze d 43 197 [l0, l1, aI (wrap (z + 1)), l3, l4, l5] st s := Ze_n (i := (.iinc 2 1)) (len := 3) (by decide +kernel) rfl
theorem x43_197 : Ze d 43 197 [l0, l1, l2, l3, l4, l5] st s = Ze d 43 253 [l0, l1, l2, l3, l4, l5] st s := Ze_n (i := (.goto 56)) (len := 3) (by decide +kernel) rfl
theorem x43_200 : Ze d 43 200 [aR r, l1, l2, l3, l4, l5] st s = Ze d 43 201 [aR r, l1, l2, l3, l4, l5] (aR r :: st) s := Ze_n (i := (.aload_n 0)) (len := 1) (by decide +kernel) rfl
theorem x43_201 (h : obC r = 0) : Ze d 43 201 [l0, l1, l2, l3, l4, l5] (aR r :: st) s = Ze d 43 204 [l0, l1, l2, l3, l4, l5] (aR (fcn r 69) :: st) s := Ze_gf (len := 3) (idx := 174) (by decide +kernel) rfl h rfl
theorem x43_204 : Ze d 43 204 [l0, l1, aI z, l3, l4, l5] st s = Ze d 43 205 [l0, l1, aI z, l3, l4, l5] (aI z :: st) s := Ze_n (i := (.iload_n 2)) (len := 1) (by decide +kernel) rfl
theorem x43_205 : Ze d 43 205 [l0, l1, l2, l3, l4, l5] st s = Ze d 43 206 [l0, l1, l2, l3, l4, l5] (aI 1 :: st) s := Ze_n (i := (.iconst 1)) (len := 1) (by decide +kernel) rfl
theorem x43_206 : Ze d 43 206 [l0, l1, l2, l3, l4, l5] (aI b :: aI a :: st) s = Ze d 43 207 [l0, l1, l2, l3, l4, l5] (aI (wrap (a - b)) :: st) s := Ze_n (i := .isub) (len := 1) (by decide +kernel) rfl
theorem x43_207 : Ze d 43 207 [l0, l1, l2, aI z, l4, l5] st s = Ze d 43 208 [l0, l1, l2, aI z, l4, l5] (aI z :: st) s := Ze_n (i := (.iload_n 3)) (len := 1) (by decide +kernel) rfl
theorem x43_208 (h0 : 0 ≤ i) (h1 : i < aN1 r) : Ze d 43 208 [l0, l1, l2, l3, l4, l5] (aI z :: aI i :: aR r :: st) s = Ze d 43 209 [l0, l1, l2, l3, l4, l5] st (mu s r i.toNat z) := Ze_n (i := .iastore) (len := 1) (by decide +kernel) (if_pos ⟨h0, h1⟩)
theorem x43_209 : Ze d 43 209 [aR r, l1, l2, l3, l4, l5] st s = Ze d 43 210 [aR r, l1, l2, l3, l4, l5] (aR r :: st) s := Ze_n (i := (.aload_n 0)) (len := 1) (by decide +kernel) rfl
theorem x43_210 (h : obC r = 0) : Ze d 43 210 [l0, l1, l2, l3, l4, l5] (aR r :: st) s = Ze d 43 213 [l0, l1, l2, l3, l4, l5] (aR (fcn r 68) :: st) s := Ze_gf (len := 3) (idx := 171) (by decide +kernel) rfl h rfl
theorem x43_213 : Ze d 43 213 [l0, l1, aI z, l3, l4, l5] st s = Ze d 43 214 [l0, l1, aI z, l3, l4, l5] (aI z :: st) s := Ze_n (i := (.iload_n 2)) (len := 1) (by decide +kernel) rfl
theorem x43_214 : Ze d 43 214 [l0, l1, l2, l3, l4, l5] st s = Ze d 43 215 [l0, l1, l2, l3, l4, l5] (aI 1 :: st) s := Ze_n (i := (.iconst 1)) (len := 1) (by decide +kernel) rfl
theorem x43_215 : Ze d 43 215 [l0, l1, l2, l3, l4, l5] (aI b :: aI a :: st) s = Ze d 43 216 [l0, l1, l2, l3, l4, l5] (aI (wrap (a - b)) :: st) s := Ze_n (i := .isub) (len := 1) (by decide +kernel) rfl
theorem x43_216 (h0 : 0 ≤ i) (h1 : i < aN1 r) : Ze d 43 216 [l0, l1, l2, l3, l4, l5] (aI i :: aR r :: st) s = Ze d 43 217 [l0, l1, l2, l3, l4, l5] (aI (s r i.toNat) :: st) s := Ze_n (i := .iaload) (len := 1) (by decide +kernel) (if_pos ⟨h0, h1⟩)
theorem x43_217 : Ze d 43 217 [l0, l1, l2, l3, l4, l5] (aI z :: st) s = Ze d 43 218 [l0, l1, l2, aI z, l4, l5] st s := Ze_n (i := (.istore_n 3)) (len := 1) (by decide +kernel) rfl
theorem x43_218 : Ze d 43 218 [l0, l1, l2, l3, l4, l5] st s = Ze d 43 253 [l0, l1, l2, l3, l4, l5] st s := Ze_n (i := (.goto 35)) (len := 3) (by decide +kernel) rfl
theorem x43_221 : Ze d 43 221 [l0, l1, aI z, l3, l4, l5] st s = Ze d 43 224 [l0, l1, aI (wrap (z + (-1))), l3, l4, l5] st s := Ze_n (i := (.iinc 2 (-1))) (len := 3) (by decide +kernel) rfl
theorem x43_224 : Ze d 43 224 [aR r, l1, l2, l3, l4, l5] st s = Ze d 43 225 [aR r, l1, l2, l3, l4, l5] (aR r :: st) s := Ze_n (i := (.aload_n 0)) (len := 1) (by decide +kernel) rfl
theorem x43_225 (h : obC r = 0) : Ze d 43 225 [l0, l1, l2, l3, l4, l5] (aR r :: st) s = Ze d 43 228 [l0, l1, l2, l3, l4, l5] (aR (fcn r 67) :: st) s := Ze_gf (len := 3) (idx := 168) (by decide +kernel) rfl h rfl
theorem x43_228 : Ze d 43 228 [l0, l1, aI z, l3, l4, l5] st s = Ze d 43 229 [l0, l1, aI z, l3, l4, l5] (aI z :: st) s := Ze_n (i := (.iload_n 2)) (len := 1) (by decide +kernel) rfl
theorem x43_229 (h0 : 0 ≤ i) (h1 : i < aN2 r) : Ze d 43 229 [l0, l1, l2, l3, l4, l5] (aI i :: aR r :: st) s = Ze d 43 230 [l0, l1, l2, l3, l4, l5] (aI (s r i.toNat) :: st) s := Ze_n (i := .baload) (len := 1) (by decide +kernel) (if_pos ⟨h0, h1⟩)
theorem x43_230 : Ze d 43 230 [l0, l1, l2, l3, l4, l5] (aI a :: st) s = if a = 0 then Ze d 43 253 [l0, l1, l2, l3, l4, l5] st s else Ze d 43 233 [l0, l1, l2, l3, l4, l5] st s := Ze_b (i := (.ifCond .eq 23)) (len := 3) (by decide +kernel) rfl
theorem x43_233 : Ze d 43 233 [l0, l1, l2, aI z, l4, l5] st s = Ze d 43 234 [l0, l1, l2, aI z, l4, l5] (aI z :: st) s := Ze_n (i := (.iload_n 3)) (len := 1) (by decide +kernel) rfl
theorem x43_234 : Ze d 43 234 [aR r, l1, l2, l3, l4, l5] st s = Ze d 43 235 [aR r, l1, l2, l3, l4, l5] (aR r :: st) s := Ze_n (i := (.aload_n 0)) (len := 1) (by decide +kernel) rfl
theorem x43_235 (h : obC r = 0) : Ze d 43 235 [l0, l1, l2, l3, l4, l5] (aR r :: st) s = Ze d 43 238 [l0, l1, l2, l3, l4, l5] (aR (fcn r 69) :: st) s := Ze_gf (len := 3) (idx := 174) (by decide +kernel) rfl h rfl
theorem x43_238 : Ze d 43 238 [l0, l1, aI z, l3, l4, l5] st s = Ze d 43 239 [l0, l1, aI z, l3, l4, l5] (aI z :: st) s := Ze_n (i := (.iload_n 2)) (len := 1) (by decide +kernel) rfl
theorem x43_239 (h0 : 0 ≤ i) (h1 : i < aN1 r) : Ze d 43 239 [l0, l1, l2, l3, l4, l5] (aI i :: aR r :: st) s = Ze d 43 240 [l0, l1, l2, l3, l4, l5] (aI (s r i.toNat) :: st) s := Ze_n (i := .iaload) (len := 1) (by decide +kernel) (if_pos ⟨h0, h1⟩)
theorem x43_240 : Ze d 43 240 [l0, l1, l2, l3, l4, l5] (aI b :: aI a :: st) s = Ze d 43 241 [l0, l1, l2, l3, l4, l5] (aI (ior a b) :: st) s := Ze_n (i := .ior) (len := 1) (by decide +kernel) rfl
theorem x43_241 : Ze d 43 241 [aR r, l1, l2, l3, l4, l5] st s = Ze d 43 242 [aR r, l1, l2, l3, l4, l5] (aR r :: st) s := Ze_n (i := (.aload_n 0)) (len := 1) (by decide +kernel) rfl
theorem x43_242 : Ze d 43 242 [aR r, l1, l2, l3, l4, l5] st s = Ze d 43 243 [aR r, l1, l2, l3, l4, l5] (aR r :: st) s := Ze_n (i := (.aload_n 0)) (len := 1) (by decide +kernel) rfl
theorem x43_243 (h : obC r = 0) : Ze d 43 243 [l0, l1, l2, l3, l4, l5] (aR r :: st) s = Ze d 43 246 [l0, l1, l2, l3, l4, l5] (aR (fcn r 70) :: st) s := Ze_gf (len := 3) (idx := 177) (by decide +kernel) rfl h rfl
theorem x43_246 : Ze d 43 246 [l0, l1, aI z, l3, l4, l5] st s = Ze d 43 247 [l0, l1, aI z, l3, l4, l5] (aI z :: st) s := Ze_n (i := (.iload_n 2)) (len := 1) (by decide +kernel) rfl
theorem x43_247 (h0 : 0 ≤ i) (h1 : i < aN1 r) : Ze d 43 247 [l0, l1, l2, l3, l4, l5] (aI i :: aR r :: st) s = Ze d 43 248 [l0, l1, l2, l3, l4, l5] (aI (s r i.toNat) :: st) s := Ze_n (i := .iaload) (len := 1) (by decide +kernel) (if_pos ⟨h0, h1⟩)
theorem x43_248 (h : obC r = 0) (h6 : st.length ≤ 4) : Ze d 43 248 [l0, l1, l2, l3, l4, l5] (aI a1 :: aR r :: st) s = zcI (Zc d 42 [aR r, aI a1] s) d 43 251 [l0, l1, l2, l3, l4, l5] st := Ze_cvI (idx := 344) (len := 3) (as := [aI a1]) (by decide +kernel) rfl (by decide +kernel) rfl h h6
theorem x43_251 : Ze d 43 251 [l0, l1, l2, l3, l4, l5] (aI b :: aI a :: st) s = Ze d 43 252 [l0, l1, l2, l3, l4, l5] (aI (ior a b) :: st) s := Ze_n (i := .ior) (len := 1) (by decide +kernel) rfl
theorem x43_252 : Ze d 43 252 [l0, l1, l2, l3, l4, l5] (aI z :: st) s = Ze d 43 253 [l0, l1, l2, aI z, l4, l5] st s := Ze_n (i := (.istore_n 3)) (len := 1) (by decide +kernel) rfl
theorem x43_253 : Ze d 43 253 [l0, l1, l2, l3, aI z, l5] st s = Ze d 43 256 [l0, l1, l2, l3, aI (wrap (z + 1)), l5] st s := Ze_n (i := (.iinc 4 1)) (len := 3) (by decide +kernel) rfl
theorem x43_256 : Ze d 43 256 [l0, l1, l2, l3, l4, l5] st s = Ze d 43 43 [l0, l1, l2, l3, l4, l5] st s := Ze_n (i := (.goto (-213))) (len := 3) (by decide +kernel) rfl
theorem x43_259 : Ze d 43 259 [l0, l1, l2, aI z, l4, l5] st s = Ze d 43 260 [l0, l1, l2, aI z, l4, l5] (aI z :: st) s := Ze_n (i := (.iload_n 3)) (len := 1) (by decide +kernel) rfl
theorem x43_260 : Ze d 43 260 [l0, l1, l2, l3, l4, l5] [aI z] s = rI z s := Ze_i1 (by decide +kernel) rfl
theorem en43 : Zc (d + 1) 43 [aR r, aI a1] s = Ze d 43 0 [aR r, aI a1, aU, aU, aU, aU] [] s := rfl
theorem x44_0 : Ze d 44 0 [l0, l1, l2, l3, l4] st s = Ze d 44 1 [l0, l1, l2, l3, l4] (aI 0 :: st) s := Ze_n (i := (.iconst 0)) (len := 1) (by decide +kernel) rfl
theorem x44_1 : Ze d 44 1 [l0, l1, l2, l3, l4] (aI z :: st) s = Ze d 44 2 [l0, aI z, l2, l3, l4] st s := Ze_n (i := (.istore_n 1)) (len := 1) (by decide +kernel) rfl
theorem x44_2 : Ze d 44 2 [l0, aI z, l2, l3, l4] st s = Ze d 44 3 [l0, aI z, l2, l3, l4] (aI z :: st) s := Ze_n (i := (.iload_n 1)) (len := 1) (by decide +kernel) rfl
theorem x44_3 : Ze d 44 3 [aR r, l1, l2, l3, l4] st s = Ze d 44 4 [aR r, l1, l2, l3, l4] (aR r :: st) s := Ze_n (i := (.aload_n 0)) (len := 1) (by decide +kernel) rfl
theorem x44_4 (h : obC r = 0) : Ze d 44 4 [l0, l1, l2, l3, l4] (aR r :: st) s = Ze d 44 7 [l0, l1, l2, l3, l4] (aI (s r 50) :: st) s := Ze_gf (len := 3) (idx := 303) (by decide +kernel) rfl h rfl
theorem x44_7 : Ze d 44 7 [l0, l1, l2, l3, l4] (aI b :: aI a :: st) s = if a < b then Ze d 44 10 [l0, l1, l2, l3, l4] st s else Ze d 44 108 [l0, l1, l2, l3, l4] st s := Ze_b (i := (.if_icmp .ge 101)) (len := 3) (by decide +kernel) rfl
theorem x44_10 : Ze d 44 10 [aR r, l1, l2, l3, l4] st s = Ze d 44 11 [aR r, l1, l2, l3, l4] (aR r :: st) s := Ze_n (i := (.aload_n 0)) (len := 1) (by decide +kernel) rfl
theorem x44_11 (h : obC r = 0) : Ze d 44 11 [l0, l1, l2, l3, l4] (aR r :: st) s = Ze d 44 14 [l0, l1, l2, l3, l4] (aR (fcn r 44) :: st) s := Ze_gf (len := 3) (idx := 116) (by decide +kernel) rfl h rfl
theorem x44_14 : Ze d 44 14 [l0, aI z, l2, l3, l4] st s = Ze d 44 15 [l0, aI z, l2, l3, l4] (aI z :: st) s := Ze_n (i := (.iload_n 1)) (len := 1) (by decide +kernel) rfl
theorem x44_15 (h0 : 0 ≤ i) (h1 : i < aN1 r) : Ze d 44 15 [l0, l1, l2, l3, l4] (aI i :: aR r :: st) s = Ze d 44 16 [l0, l1, l2, l3, l4] (aI (s r i.toNat) :: st) s := Ze_n (i := .iaload) (len := 1) (by decide +kernel) (if_pos ⟨h0, h1⟩)
theorem x44_16 : Ze d 44 16 [l0, l1, l2, l3, l4] st s = Ze d 44 17 [l0, l1, l2, l3, l4] (aI 3 :: st) s := Ze_n (i := (.iconst 3)) (len := 1) (by decide +kernel) rfl
theorem x44_17 : Ze d 44 17 [l0, l1, l2, l3, l4] (aI b :: aI a :: st) s = if a = b then Ze d 44 20 [l0, l1, l2, l3, l4] st s else Ze d 44 23 [l0, l1, l2, l3, l4] st s := Ze_b (i := (.if_icmp .ne 6)) (len := 3) (by decide +kernel) rfl
theorem x44_20 : Ze d 44 20 [l0, l1, l2, l3, l4] st s = Ze d 44 102 [l0, l1, l2, l3, l4] st s := Ze_n (i := (.goto 82)) (len := 3) (by decide +kernel) rfl
theorem x44_23 : Ze d 44 23 [aR r, l1, l2, l3, l4] st s = Ze d 44 24 [aR r, l1, l2, l3, l4] (aR r :: st) s := Ze_n (i := (.aload_n 0)) (len := 1) (by decide +kernel) rfl
theorem x44_24 (h : obC r = 0) : Ze d 44 24 [l0, l1, l2, l3, l4] (aR r :: st) s = Ze d 44 27 [l0, l1, l2, l3, l4] (aR (fcn r 49) :: st) s := Ze_gf (len := 3) (idx := 131) (by decide +kernel) rfl h rfl
theorem x44_27 : Ze d 44 27 [l0, aI z, l2, l3, l4] st s = Ze d 44 28 [l0, aI z, l2, l3, l4] (aI z :: st) s := Ze_n (i := (.iload_n 1)) (len := 1) (by decide +kernel) rfl
theorem x44_28 (h0 : 0 ≤ i) (h1 : i < aN1 r) : Ze d 44 28 [l0, l1, l2, l3, l4] (aI i :: aR r :: st) s = Ze d 44 29 [l0, l1, l2, l3, l4] (aI (s r i.toNat) :: st) s := Ze_n (i := .iaload) (len := 1) (by decide +kernel) (if_pos ⟨h0, h1⟩)
theorem x44_29 : Ze d 44 29 [l0, l1, l2, l3, l4] (aI z :: st) s = Ze d 44 30 [l0, l1, aI z, l3, l4] st s := Ze_n (i := (.istore_n 2)) (len := 1) (by decide +kernel) rfl
theorem x44_30 : Ze d 44 30 [l0, l1, l2, l3, l4] st s = Ze d 44 31 [l0, l1, l2, l3, l4] (aI 0 :: st) s := Ze_n (i := (.iconst 0)) (len := 1) (by decide +kernel) rfl
theorem x44_31 : Ze d 44 31 [l0, l1, l2, l3, l4] (aI z :: st) s = Ze d 44 32 [l0, l1, l2, aI z, l4] st s := Ze_n (i := (.istore_n 3)) (len := 1) (by decide +kernel) rfl
theorem x44_32 : Ze d 44 32 [l0, l1, aI z, l3, l4] st s = Ze d 44 33 [l0, l1, aI z, l3, l4] (aI z :: st) s := Ze_n (i := (.iload_n 2)) (len := 1) (by decide +kernel) rfl
theorem x44_33 : Ze d 44 33 [l0, l1, l2, aI z, l4] st s = Ze d 44 34 [l0, l1, l2, aI z, l4] (aI z :: st) s := Ze_n (i := (.iload_n 3)) (len := 1) (by decide +kernel) rfl
theorem x44_34 : Ze d 44 34 [l0, l1, l2, l3, l4] (aI b :: aI a :: st) s = if a = b then Ze d 44 91 [l0, l1, l2, l3, l4] st s else Ze d 44 37 [l0, l1, l2, l3, l4] st s := Ze_b (i := (.if_icmp .eq 57)) (len := 3) (by decide +kernel) rfl
theorem x44_37 : Ze d 44 37 [l0, l1, aI z, l3, l4] st s = Ze d 44 38 [l0, l1, aI z, l3, l4] (aI z :: st) s := Ze_n (i := (.iload_n 2)) (len := 1) (by decide +kernel) rfl
theorem x44_38 : Ze d 44 38 [l0, l1, l2, l3, l4] (aI z :: st) s = Ze d 44 39 [l0, l1, l2, aI z, l4] st s := Ze_n (i := (.istore_n 3)) (len := 1) (by decide +kernel) rfl
theorem x44_39 : Ze d 44 39 [l0, l1, l2, l3, l4] st s = Ze d 44 40 [l0, l1, l2, l3, l4] (aI 0 :: st) s := Ze_n (i := (.iconst 0)) (len := 1) (by decide +kernel) rfl
theorem x44_40 : Ze d 44 40 [l0, l1, l2, l3, l4] (aI z :: st) s = Ze d 44 42 [l0, l1, l2, l3, aI z] st s := Ze_n (i := (.istore 4)) (len := 2) (by decide +kernel) rfl
theorem x44_42 : Ze d 44 42 [l0, l1, l2, l3, aI z] st s = Ze d 44 44 [l0, l1, l2, l3, aI z] (aI z :: st) s := Ze_n (i := (.iload 4)) (len := 2) (by decide +kernel) rfl
theorem x44_44 : Ze d 44 44 [aR r, l1, l2, l3, l4] st s = Ze d 44 45 [aR r, l1, l2, l3, l4] (aR r :: st) s := Ze_n (i := (.aload_n 0)) (len := 1) (by decide +kernel) rfl
theorem x44_45 (h : obC r = 0) : Ze d 44 45 [l0, l1, l2, l3, l4] (aR r :: st) s = Ze d 44 48 [l0, l1, l2, l3, l4] (aI (s r 50) :: st) s := Ze_gf (len := 3) (idx := 303) (by decide +kernel) rfl h rfl
theorem x44_48 : Ze d 44 48 [l0, l1, l2, l3, l4] (aI b :: aI a :: st) s = if a < b then Ze d 44 51 [l0, l1, l2, l3, l4] st s else Ze d 44 88 [l0, l1, l2, l3, l4] st s := Ze_b (i := (.if_icmp .ge 40)) (len := 3) (by decide +kernel) rfl
theorem x44_51 : Ze d 44 51 [l0, l1, l2, aI z, l4] st s = Ze d 44 52 [l0, l1, l2, aI z, l4] (aI z :: st) s := Ze_n (i := (.iload_n 3)) (len := 1) (by decide +kernel) rfl
theorem x44_52 : Ze d 44 52 [l0, l1, l2, l3, aI z] st s = Ze d 44 54 [l0, l1, l2, l3, aI z] (aI z :: st) s := Ze_n (i := (.iload 4)) (len := 2) (by decide +kernel) rfl
theorem x44_54 : Ze d 44 54 [l0, l1, l2, l3, l4] (aI b :: aI a :: st) s = Ze d 44 55 [l0, l1, l2, l3, l4] (aI (ishr a b) :: st) s := Ze_n (i := .ishr) (len := 1) (by decide +kernel) rfl
theorem x44_55 : Ze d 44 55 [l0, l1, l2, l3, l4] st s = Ze d 44 56 [l0, l1, l2, l3, l4] (aI 1 :: st) s := Ze_n (i := (.iconst 1)) (len := 1) (by decide +kernel) rfl
theorem x44_56 : Ze d 44 56 [l0, l1, l2, l3, l4] (aI b :: aI a :: st) s = Ze d 44 57 [l0, l1, l2, l3, l4] (aI (iand a b) :: st) s := Ze_n (i := .iand) (len := 1) (by decide +kernel) rfl
theorem x44_57 : Ze d 44 57 [l0, l1, l2, l3, l4] st s = Ze d 44 58 [l0, l1, l2, l3, l4] (aI 1 :: st) s := Ze_n (i := (.iconst 1)) (len := 1) (by decide +kernel) rfl
theorem x44_58 : Ze d 44 58 [l0, l1, l2, l3, l4] (aI b :: aI a :: st) s = if a = b then Ze d 44 61 [l0, l1, l2, l3, l4] st s else Ze d 44 82 [l0, l1, l2, l3, l4] st s := Ze_b (i := (.if_icmp .ne 24)) (len := 3) (by decide +kernel) rfl
theorem x44_61 : Ze d 44 61 [aR r, l1, l2, l3, l4] st s = Ze d 44 62 [aR r, l1, l2, l3, l4] (aR r :: st) s := Ze_n (i := (.aload_n 0)) (len := 1) (by decide +kernel) rfl
theorem x44_62 (h : obC r = 0) : Ze d 44 62 [l0, l1, l2, l3, l4] (aR r :: st) s = Ze d 44 65 [l0, l1, l2, l3, l4] (aR (fcn r 44) :: st) s := Ze_gf (len := 3) (idx := 116) (by decide +kernel) rfl h rfl
theorem x44_65 : Ze d 44 65 [l0, l1, l2, l3, aI z] st s = Ze d 44 67 [l0, l1, l2, l3, aI z] (aI z :: st) s := Ze_n (i := (.iload 4)) (len := 2) (by decide +kernel) rfl
theorem x44_67 (h0 : 0 ≤ i) (h1 : i < aN1 r) : Ze d 44 67 [l0, l1, l2, l3, l4] (aI i :: aR r :: st) s = Ze d 44 68 [l0, l1, l2, l3, l4] (aI (s r i.toNat) :: st) s := Ze_n (i := .iaload) (len := 1) (by decide +kernel) (if_pos ⟨h0, h1⟩)
theorem x44_68 : Ze d 44 68 [l0, l1, l2, l3, l4] st s = Ze d 44 69 [l0, l1, l2, l3, l4] (aI 3 :: st) s := Ze_n (i := (.iconst 3)) (len := 1) (by decide +kernel) rfl
theorem x44_69 : Ze d 44 69 [l0, l1, l2, l3, l4] (aI b :: aI a :: st) s = if a = b then Ze d 44 82 [l0, l1, l2, l3, l4] st s else Ze d 44 72 [l0, l1, l2, l3, l4] st s := Ze_b (i := (.if_icmp .eq 13)) (len := 3) (by decide +kernel) rfl
theorem x44_72 : Ze d 44 72 [l0, l1, aI z, l3, l4] st s = Ze d 44 73 [l0, l1, aI z, l3, l4] (aI z :: st) s := Ze_n (i := (.iload_n 2)) (len := 1) (by decide +kernel) rfl
theorem x44_73 : Ze d 44 73 [aR r, l1, l2, l3, l4] st s = Ze d 44 74 [aR r, l1, l2, l3, l4] (aR r :: st) s := Ze_n (i := (.aload_n 0)) (len := 1) (by decide +kernel) rfl
theorem x44_74 (h : obC r = 0) : Ze d 44 74 [l0, l1, l2, l3, l4] (aR r :: st) s = Ze d 44 77 [l0, l1, l2, l3, l4] (aR (fcn r 49) :: st) s := Ze_gf (len := 3) (idx := 131) (by decide +kernel) rfl h rfl
theorem x44_77 : Ze d 44 77 [l0, l1, l2, l3, aI z] st s = Ze d 44 79 [l0, l1, l2, l3, aI z] (aI z :: st) s := Ze_n (i := (.iload 4)) (len := 2) (by decide +kernel) rfl
theorem x44_79 (h0 : 0 ≤ i) (h1 : i < aN1 r) : Ze d 44 79 [l0, l1, l2, l3, l4] (aI i :: aR r :: st) s = Ze d 44 80 [l0, l1, l2, l3, l4] (aI (s r i.toNat) :: st) s := Ze_n (i := .iaload) (len := 1) (by decide +kernel) (if_pos ⟨h0, h1⟩)
theorem x44_80 : Ze d 44 80 [l0, l1, l2, l3, l4] (aI b :: aI a :: st) s = Ze d 44 81 [l0, l1, l2, l3, l4] (aI (ior a b) :: st) s := Ze_n (i := .ior) (len := 1) (by decide +kernel) rfl
theorem x44_81 : Ze d 44 81 [l0, l1, l2, l3, l4] (aI z :: st) s = Ze d 44 82 [l0, l1, aI z, l3, l4] st s := Ze_n (i := (.istore_n 2)) (len := 1) (by decide +kernel) rfl
theorem x44_82 : Ze d 44 82 [l0, l1, l2, l3, aI z] st s = Ze d 44 85 [l0, l1, l2, l3, aI (wrap (z + 1))] st s := Ze_n (i := (.iinc 4 1)) (len := 3) (by decide +kernel) rfl
theorem x44_85 : Ze d 44 85 [l0, l1, l2, l3, l4] st s = Ze d 44 42 [l0, l1, l2, l3, l4] st s := Ze_n (i := (.goto (-43))) (len := 3) (by decide +kernel) rfl
theorem x44_88 : Ze d 44 88 [l0, l1, l2, l3, l4] st s = Ze d 44 32 [l0, l1, l2, l3, l4] st s := Ze_n (i := (.goto (-56))) (len := 3) (by decide +kernel) rfl
theorem x44_91 : Ze d 44 91 [l0, l1, aI z, l3, l4] st s = Ze d 44 92 [l0, l1, aI z, l3, l4] (aI z :: st) s := Ze_n (i := (.iload_n 2)) (len := 1) (by decide +kernel) rfl
theorem x44_92 : Ze d 44 92 [l0, aI z, l2, l3, l4] st s = Ze d 44 93 [l0, aI z, l2, l3, l4] (aI z :: st) s := Ze_n (i := (.iload_n 1)) (len := 1) (by decide +kernel) rfl
theorem x44_93 : Ze d 44 93 [l0, l1, l2, l3, l4] (aI b :: aI a :: st) s = Ze d 44 94 [l0, l1, l2, l3, l4] (aI (ishr a b) :: st) s := Ze_n (i := .ishr) (len := 1) (by decide +kernel) rfl
theorem x44_94 : Ze d 44 94 [l0, l1, l2, l3, l4] st s = Ze d 44 95 [l0, l1, l2, l3, l4] (aI 1 :: st) s := Ze_n (i := (.iconst 1)) (len := 1) (by decide +kernel) rfl
theorem x44_95 : Ze d 44 95 [l0, l1, l2, l3, l4] (aI b :: aI a :: st) s = Ze d 44 96 [l0, l1, l2, l3, l4] (aI (iand a b) :: st) s := Ze_n (i := .iand) (len := 1) (by decide +kernel) rfl
theorem x44_96 : Ze d 44 96 [l0, l1, l2, l3, l4] st s = Ze d 44 97 [l0, l1, l2, l3, l4] (aI 1 :: st) s := Ze_n (i := (.iconst 1)) (len := 1) (by decide +kernel) rfl
theorem x44_97 : Ze d 44 97 [l0, l1, l2, l3, l4] (aI b :: aI a :: st) s = if a = b then Ze d 44 100 [l0, l1, l2, l3, l4] st s else Ze d 44 102 [l0, l1, l2, l3, l4] st s := Ze_b (i := (.if_icmp .ne 5)) (len := 3) (by decide +kernel) rfl
theorem x44_100 : Ze d 44 100 [l0, aI z, l2, l3, l4] st s = Ze d 44 101 [l0, aI z, l2, l3, l4] (aI z :: st) s := Ze_n (i := (.iload_n 1)) (len := 1) (by decide +kernel) rfl
theorem x44_101 : Ze d 44 101 [l0, l1, l2, l3, l4] [aI z] s = rI z s := Ze_i1 (by decide +kernel) rfl
theorem x44_102 : Ze d 44 102 [l0, aI z, l2, l3, l4] st s = Ze d 44 105 [l0, aI (wrap (z + 1)), l2, l3, l4] st s := Ze_n (i := (.iinc 1 1)) (len := 3) (by decide +kernel) rfl
theorem x44_105 : Ze d 44 105 [l0, l1, l2, l3, l4] st s = Ze d 44 2 [l0, l1, l2, l3, l4] st s := Ze_n (i := (.goto (-103))) (len := 3) (by decide +kernel) rfl
theorem x44_108 : Ze d 44 108 [l0, l1, l2, l3, l4] st s = Ze d 44 109 [l0, l1, l2, l3, l4] (aI (-1) :: st) s := Ze_n (i := (.iconst (-1))) (len := 1) (by decide +kernel) rfl
theorem x44_109 : Ze d 44 109 [l0, l1, l2, l3, l4] [aI z] s = rI z s := Ze_i1 (by decide +kernel) rfl
theorem en44 : Zc (d + 1) 44 [aR r] s = Ze d 44 0 [aR r, aU, aU, aU, aU] [] s := rfl
theorem x45_0 : Ze d 45 0 [l0, l1, l2] st s = Ze d 45 1 [l0, l1, l2] (aI 0 :: st) s := Ze_n (i := (.iconst 0)) (len := 1) (by decide +kernel) rfl
theorem x45_1 : Ze d 45 1 [l0, l1, l2] (aI z :: st) s = Ze d 45 2 [l0, aI z, l2] st s := Ze_n (i := (.istore_n 1)) (len := 1) (by decide +kernel) rfl
theorem x45_2 : Ze d 45 2 [l0, aI z, l2] st s = Ze d 45 3 [l0, aI z, l2] (aI z :: st) s := Ze_n (i := (.iload_n 1)) (len := 1) (by decide +kernel) rfl
theorem x45_3 : Ze d 45 3 [aR r, l1, l2] st s = Ze d 45 4 [aR r, l1, l2] (aR r :: st) s := Ze_n (i := (.aload_n 0)) (len := 1) (by decide +kernel) rfl
theorem x45_4 (h : obC r = 0) : Ze d 45 4 [l0, l1, l2] (aR r :: st) s = Ze d 45 7 [l0, l1, l2] (aI (s r 32) :: st) s := Ze_gf (len := 3) (idx := 246) (by decide +kernel) rfl h rfl
theorem x45_7 : Ze d 45 7 [l0, l1, l2] (aI b :: aI a :: st) s = if a < b then Ze d 45 10 [l0, l1, l2] st s else Ze d 45 118 [l0, l1, l2] st s := Ze_b (i := (.if_icmp .ge 111)) (len := 3) (by decide +kernel) rfl
theorem x45_10 : Ze d 45 10 [l0, l1, l2] st s = Ze d 45 13 [l0, l1, l2] (aI 220 :: st) s := Ze_n (i := (.sipush 220)) (len := 3) (by decide +kernel) rfl
theorem x45_13 : Ze d 45 13 [l0, aI z, l2] st s = Ze d 45 14 [l0, aI z, l2] (aI z :: st) s := Ze_n (i := (.iload_n 1)) (len := 1) (by decide +kernel) rfl
theorem x45_14 : Ze d 45 14 [l0, l1, l2] (aI b :: aI a :: st) s = Ze d 45 15 [l0, l1, l2] (aI (wrap (a + b)) :: st) s := Ze_n (i := .iadd) (len := 1) (by decide +kernel) rfl
theorem x45_15 : Ze d 45 15 [l0, l1, l2] (aI z :: st) s = Ze d 45 16 [l0, l1, aI z] st s := Ze_n (i := (.istore_n 2)) (len := 1) (by decide +kernel) rfl
theorem x45_16 : Ze d 45 16 [aR r, l1, l2] st s = Ze d 45 17 [aR r, l1, l2] (aR r :: st) s := Ze_n (i := (.aload_n 0)) (len := 1) (by decide +kernel) rfl
theorem x45_17 (h : obC r = 0) : Ze d 45 17 [l0, l1, l2] (aR r :: st) s = Ze d 45 20 [l0, l1, l2] (aR (fcn r 19) :: st) s := Ze_gf (len := 3) (idx := 47) (by decide +kernel) rfl h rfl
theorem x45_20 : Ze d 45 20 [l0, l1, aI z] st s = Ze d 45 21 [l0, l1, aI z] (aI z :: st) s := Ze_n (i := (.iload_n 2)) (len := 1) (by decide +kernel) rfl
theorem x45_21 : Ze d 45 21 [aR r, l1, l2] st s = Ze d 45 22 [aR r, l1, l2] (aR r :: st) s := Ze_n (i := (.aload_n 0)) (len := 1) (by decide +kernel) rfl
theorem x45_22 (h : obC r = 0) : Ze d 45 22 [l0, l1, l2] (aR r :: st) s = Ze d 45 25 [l0, l1, l2] (aR (fcn r 19) :: st) s := Ze_gf (len := 3) (idx := 47) (by decide +kernel) rfl h rfl
theorem x45_25 : Ze d 45 25 [l0, aI z, l2] st s = Ze d 45 26 [l0, aI z, l2] (aI z :: st) s := Ze_n (i := (.iload_n 1)) (len := 1) (by decide +kernel) rfl
theorem x45_26 (h0 : 0 ≤ i) (h1 : i < aN1 r) : Ze d 45 26 [l0, l1, l2] (aI i :: aR r :: st) s = Ze d 45 27 [l0, l1, l2] (aI (s r i.toNat) :: st) s := Ze_n (i := .iaload) (len := 1) (by decide +kernel) (if_pos ⟨h0, h1⟩)
theorem x45_27 (h0 : 0 ≤ i) (h1 : i < aN1 r) : Ze d 45 27 [l0, l1, l2] (aI z :: aI i :: aR r :: st) s = Ze d 45 28 [l0, l1, l2] st (mu s r i.toNat z) := Ze_n (i := .iastore) (len := 1) (by decide +kernel) (if_pos ⟨h0, h1⟩)
theorem x45_28 : Ze d 45 28 [aR r, l1, l2] st s = Ze d 45 29 [aR r, l1, l2] (aR r :: st) s := Ze_n (i := (.aload_n 0)) (len := 1) (by decide +kernel) rfl
theorem x45_29 (h : obC r = 0) : Ze d 45 29 [l0, l1, l2] (aR r :: st) s = Ze d 45 32 [l0, l1, l2] (aR (fcn r 20) :: st) s := Ze_gf (len := 3) (idx := 50) (by decide +kernel) rfl h rfl
theorem x45_32 : Ze d 45 32 [l0, l1, aI z] st s = Ze d 45 33 [l0, l1, aI z] (aI z :: st) s := Ze_n (i := (.iload_n 2)) (len := 1) (by decide +kernel) rfl
theorem x45_33 : Ze d 45 33 [aR r, l1, l2] st s = Ze d 45 34 [aR r, l1, l2] (aR r :: st) s := Ze_n (i := (.aload_n 0)) (len := 1) (by decide +kernel) rfl
theorem x45_34 (h : obC r = 0) : Ze d 45 34 [l0, l1, l2] (aR r :: st) s = Ze d 45 37 [l0, l1, l2] (aR (fcn r 20) :: st) s := Ze_gf (len := 3) (idx := 50) (by decide +kernel) rfl h rfl
theorem x45_37 : Ze d 45 37 [l0, aI z, l2] st s = Ze d 45 38 [l0, aI z, l2] (aI z :: st) s := Ze_n (i := (.iload_n 1)) (len := 1) (by decide +kernel) rfl
theorem x45_38 (h0 : 0 ≤ i) (h1 : i < aN1 r) : Ze d 45 38 [l0, l1, l2] (aI i :: aR r :: st) s = Ze d 45 39 [l0, l1, l2] (aI (s r i.toNat) :: st) s := Ze_n (i := .iaload) (len := 1) (by decide +kernel) (if_pos ⟨h0, h1⟩)
theorem x45_39 (h0 : 0 ≤ i) (h1 : i < aN1 r) : Ze d 45 39 [l0, l1, l2] (aI z :: aI i :: aR r :: st) s = Ze d 45 40 [l0, l1, l2] st (mu s r i.toNat z) := Ze_n (i := .iastore) (len := 1) (by decide +kernel) (if_pos ⟨h0, h1⟩)
theorem x45_40 : Ze d 45 40 [aR r, l1, l2] st s = Ze d 45 41 [aR r, l1, l2] (aR r :: st) s := Ze_n (i := (.aload_n 0)) (len := 1) (by decide +kernel) rfl
theorem x45_41 (h : obC r = 0) : Ze d 45 41 [l0, l1, l2] (aR r :: st) s = Ze d 45 44 [l0, l1, l2] (aR (fcn r 21) :: st) s := Ze_gf (len := 3) (idx := 53) (by decide +kernel) rfl h rfl
theorem x45_44 : Ze d 45 44 [l0, l1, aI z] st s = Ze d 45 45 [l0, l1, aI z] (aI z :: st) s := Ze_n (i := (.iload_n 2)) (len := 1) (by decide +kernel) rfl
theorem x45_45 : Ze d 45 45 [aR r, l1, l2] st s = Ze d 45 46 [aR r, l1, l2] (aR r :: st) s := Ze_n (i := (.aload_n 0)) (len := 1) (by decide +kernel) rfl
theorem x45_46 (h : obC r = 0) : Ze d 45 46 [l0, l1, l2] (aR r :: st) s = Ze d 45 49 [l0, l1, l2] (aR (fcn r 21) :: st) s := Ze_gf (len := 3) (idx := 53) (by decide +kernel) rfl h rfl
theorem x45_49 : Ze d 45 49 [l0, aI z, l2] st s = Ze d 45 50 [l0, aI z, l2] (aI z :: st) s := Ze_n (i := (.iload_n 1)) (len := 1) (by decide +kernel) rfl
theorem x45_50 (h0 : 0 ≤ i) (h1 : i < aN1 r) : Ze d 45 50 [l0, l1, l2] (aI i :: aR r :: st) s = Ze d 45 51 [l0, l1, l2] (aI (s r i.toNat) :: st) s := Ze_n (i := .iaload) (len := 1) (by decide +kernel) (if_pos ⟨h0, h1⟩)
theorem x45_51 (h0 : 0 ≤ i) (h1 : i < aN1 r) : Ze d 45 51 [l0, l1, l2] (aI z :: aI i :: aR r :: st) s = Ze d 45 52 [l0, l1, l2] st (mu s r i.toNat z) := Ze_n (i := .iastore) (len := 1) (by decide +kernel) (if_pos ⟨h0, h1⟩)
theorem x45_52 : Ze d 45 52 [aR r, l1, l2] st s = Ze d 45 53 [aR r, l1, l2] (aR r :: st) s := Ze_n (i := (.aload_n 0)) (len := 1) (by decide +kernel) rfl
theorem x45_53 (h : obC r = 0) : Ze d 45 53 [l0, l1, l2] (aR r :: st) s = Ze d 45 56 [l0, l1, l2] (aR (fcn r 22) :: st) s := Ze_gf (len := 3) (idx := 56) (by decide +kernel) rfl h rfl
theorem x45_56 : Ze d 45 56 [l0, l1, aI z] st s = Ze d 45 57 [l0, l1, aI z] (aI z :: st) s := Ze_n (i := (.iload_n 2)) (len := 1) (by decide +kernel) rfl
theorem x45_57 : Ze d 45 57 [aR r, l1, l2] st s = Ze d 45 58 [aR r, l1, l2] (aR r :: st) s := Ze_n (i := (.aload_n 0)) (len := 1) (by decide +kernel) rfl
theorem x45_58 (h : obC r = 0) : Ze d 45 58 [l0, l1, l2] (aR r :: st) s = Ze d 45 61 [l0, l1, l2] (aR (fcn r 22) :: st) s := Ze_gf (len := 3) (idx := 56) (by decide +kernel) rfl h rfl
theorem x45_61 : Ze d 45 61 [l0, aI z, l2] st s = Ze d 45 62 [l0, aI z, l2] (aI z :: st) s := Ze_n (i := (.iload_n 1)) (len := 1) (by decide +kernel) rfl
theorem x45_62 (h0 : 0 ≤ i) (h1 : i < aN1 r) : Ze d 45 62 [l0, l1, l2] (aI i :: aR r :: st) s = Ze d 45 63 [l0, l1, l2] (aI (s r i.toNat) :: st) s := Ze_n (i := .iaload) (len := 1) (by decide +kernel) (if_pos ⟨h0, h1⟩)
theorem x45_63 (h0 : 0 ≤ i) (h1 : i < aN1 r) : Ze d 45 63 [l0, l1, l2] (aI z :: aI i :: aR r :: st) s = Ze d 45 64 [l0, l1, l2] st (mu s r i.toNat z) := Ze_n (i := .iastore) (len := 1) (by decide +kernel) (if_pos ⟨h0, h1⟩)
theorem x45_64 : Ze d 45 64 [aR r, l1, l2] st s = Ze d 45 65 [aR r, l1, l2] (aR r :: st) s := Ze_n (i := (.aload_n 0)) (len := 1) (by decide +kernel) rfl
theorem x45_65 (h : obC r = 0) : Ze d 45 65 [l0, l1, l2] (aR r :: st) s = Ze d 45 68 [l0, l1, l2] (aR (fcn r 23) :: st) s := Ze_gf (len := 3) (idx := 59) (by decide +kernel) rfl h rfl
theorem x45_68 : Ze d 45 68 [l0, l1, aI z] st s = Ze d 45 69 [l0, l1, aI z] (aI z :: st) s := Ze_n (i := (.iload_n 2)) (len := 1) (by decide +kernel) rfl
theorem x45_69 : Ze d 45 69 [aR r, l1, l2] st s = Ze d 45 70 [aR r, l1, l2] (aR r :: st) s := Ze_n (i := (.aload_n 0)) (len := 1) (by decide +kernel) rfl
theorem x45_70 (h : obC r = 0) : Ze d 45 70 [l0, l1, l2] (aR r :: st) s = Ze d 45 73 [l0, l1, l2] (aR (fcn r 23) :: st) s := Ze_gf (len := 3) (idx := 59) (by decide +kernel) rfl h rfl
theorem x45_73 : Ze d 45 73 [l0, aI z, l2] st s = Ze d 45 74 [l0, aI z, l2] (aI z :: st) s := Ze_n (i := (.iload_n 1)) (len := 1) (by decide +kernel) rfl
theorem x45_74 (h0 : 0 ≤ i) (h1 : i < aN1 r) : Ze d 45 74 [l0, l1, l2] (aI i :: aR r :: st) s = Ze d 45 75 [l0, l1, l2] (aI (s r i.toNat) :: st) s := Ze_n (i := .iaload) (len := 1) (by decide +kernel) (if_pos ⟨h0, h1⟩)
theorem x45_75 (h0 : 0 ≤ i) (h1 : i < aN1 r) : Ze d 45 75 [l0, l1, l2] (aI z :: aI i :: aR r :: st) s = Ze d 45 76 [l0, l1, l2] st (mu s r i.toNat z) := Ze_n (i := .iastore) (len := 1) (by decide +kernel) (if_pos ⟨h0, h1⟩)
theorem x45_76 : Ze d 45 76 [aR r, l1, l2] st s = Ze d 45 77 [aR r, l1, l2] (aR r :: st) s := Ze_n (i := (.aload_n 0)) (len := 1) (by decide +kernel) rfl
theorem x45_77 (h : obC r = 0) : Ze d 45 77 [l0, l1, l2] (aR r :: st) s = Ze d 45 80 [l0, l1, l2] (aR (fcn r 24) :: st) s := Ze_gf (len := 3) (idx := 62) (by decide +kernel) rfl h rfl
theorem x45_80 : Ze d 45 80 [l0, l1, aI z] st s = Ze d 45 81 [l0, l1, aI z] (aI z :: st) s := Ze_n (i := (.iload_n 2)) (len := 1) (by decide +kernel) rfl
theorem x45_81 : Ze d 45 81 [aR r, l1, l2] st s = Ze d 45 82 [aR r, l1, l2] (aR r :: st) s := Ze_n (i := (.aload_n 0)) (len := 1) (by decide +kernel) rfl
theorem x45_82 (h : obC r = 0) : Ze d 45 82 [l0, l1, l2] (aR r :: st) s = Ze d 45 85 [l0, l1, l2] (aR (fcn r 24) :: st) s := Ze_gf (len := 3) (idx := 62) (by decide +kernel) rfl h rfl
theorem x45_85 : Ze d 45 85 [l0, aI z, l2] st s = Ze d 45 86 [l0, aI z, l2] (aI z :: st) s := Ze_n (i := (.iload_n 1)) (len := 1) (by decide +kernel) rfl
theorem x45_86 (h0 : 0 ≤ i) (h1 : i < aN1 r) : Ze d 45 86 [l0, l1, l2] (aI i :: aR r :: st) s = Ze d 45 87 [l0, l1, l2] (aI (s r i.toNat) :: st) s := Ze_n (i := .iaload) (len := 1) (by decide +kernel) (if_pos ⟨h0, h1⟩)
theorem x45_87 (h0 : 0 ≤ i) (h1 : i < aN1 r) : Ze d 45 87 [l0, l1, l2] (aI z :: aI i :: aR r :: st) s = Ze d 45 88 [l0, l1, l2] st (mu s r i.toNat z) := Ze_n (i := .iastore) (len := 1) (by decide +kernel) (if_pos ⟨h0, h1⟩)
theorem x45_88 : Ze d 45 88 [aR r, l1, l2] st s = Ze d 45 89 [aR r, l1, l2] (aR r :: st) s := Ze_n (i := (.aload_n 0)) (len := 1) (by decide +kernel) rfl
theorem x45_89 (h : obC r = 0) : Ze d 45 89 [l0, l1, l2] (aR r :: st) s = Ze d 45 92 [l0, l1, l2] (aR (fcn r 25) :: st) s := Ze_gf (len := 3) (idx := 65) (by decide +kernel) rfl h rfl
theorem x45_92 : Ze d 45 92 [l0, l1, aI z] st s = Ze d 45 93 [l0, l1, aI z] (aI z :: st) s := Ze_n (i := (.iload_n 2)) (len := 1) (by decide +kernel) rfl
theorem x45_93 : Ze d 45 93 [aR r, l1, l2] st s = Ze d 45 94 [aR r, l1, l2] (aR r :: st) s := Ze_n (i := (.aload_n 0)) (len := 1) (by decide +kernel) rfl
theorem x45_94 (h : obC r = 0) : Ze d 45 94 [l0, l1, l2] (aR r :: st) s = Ze d 45 97 [l0, l1, l2] (aR (fcn r 25) :: st) s := Ze_gf (len := 3) (idx := 65) (by decide +kernel) rfl h rfl
theorem x45_97 : Ze d 45 97 [l0, aI z, l2] st s = Ze d 45 98 [l0, aI z, l2] (aI z :: st) s := Ze_n (i := (.iload_n 1)) (len := 1) (by decide +kernel) rfl
theorem x45_98 (h0 : 0 ≤ i) (h1 : i < aN1 r) : Ze d 45 98 [l0, l1, l2] (aI i :: aR r :: st) s = Ze d 45 99 [l0, l1, l2] (aI (s r i.toNat) :: st) s := Ze_n (i := .iaload) (len := 1) (by decide +kernel) (if_pos ⟨h0, h1⟩)
theorem x45_99 (h0 : 0 ≤ i) (h1 : i < aN1 r) : Ze d 45 99 [l0, l1, l2] (aI z :: aI i :: aR r :: st) s = Ze d 45 100 [l0, l1, l2] st (mu s r i.toNat z) := Ze_n (i := .iastore) (len := 1) (by decide +kernel) (if_pos ⟨h0, h1⟩)
theorem x45_100 : Ze d 45 100 [aR r, l1, l2] st s = Ze d 45 101 [aR r, l1, l2] (aR r :: st) s := Ze_n (i := (.aload_n 0)) (len := 1) (by decide +kernel) rfl
theorem x45_101 (h : obC r = 0) : Ze d 45 101 [l0, l1, l2] (aR r :: st) s = Ze d 45 104 [l0, l1, l2] (aR (fcn r 26) :: st) s := Ze_gf (len := 3) (idx := 68) (by decide +kernel) rfl h rfl
theorem x45_104 : Ze d 45 104 [l0, l1, aI z] st s = Ze d 45 105 [l0, l1, aI z] (aI z :: st) s := Ze_n (i := (.iload_n 2)) (len := 1) (by decide +kernel) rfl
theorem x45_105 : Ze d 45 105 [aR r, l1, l2] st s = Ze d 45 106 [aR r, l1, l2] (aR r :: st) s := Ze_n (i := (.aload_n 0)) (len := 1) (by decide +kernel) rfl
theorem x45_106 (h : obC r = 0) : Ze d 45 106 [l0, l1, l2] (aR r :: st) s = Ze d 45 109 [l0, l1, l2] (aR (fcn r 26) :: st) s := Ze_gf (len := 3) (idx := 68) (by decide +kernel) rfl h rfl
theorem x45_109 : Ze d 45 109 [l0, aI z, l2] st s = Ze d 45 110 [l0, aI z, l2] (aI z :: st) s := Ze_n (i := (.iload_n 1)) (len := 1) (by decide +kernel) rfl
theorem x45_110 (h0 : 0 ≤ i) (h1 : i < aN1 r) : Ze d 45 110 [l0, l1, l2] (aI i :: aR r :: st) s = Ze d 45 111 [l0, l1, l2] (aI (s r i.toNat) :: st) s := Ze_n (i := .iaload) (len := 1) (by decide +kernel) (if_pos ⟨h0, h1⟩)
theorem x45_111 (h0 : 0 ≤ i) (h1 : i < aN1 r) : Ze d 45 111 [l0, l1, l2] (aI z :: aI i :: aR r :: st) s = Ze d 45 112 [l0, l1, l2] st (mu s r i.toNat z) := Ze_n (i := .iastore) (len := 1) (by decide +kernel) (if_pos ⟨h0, h1⟩)
theorem x45_112 : Ze d 45 112 [l0, aI z, l2] st s = Ze d 45 115 [l0, aI (wrap (z + 1)), l2] st s := Ze_n (i := (.iinc 1 1)) (len := 3) (by decide +kernel) rfl
theorem x45_115 : Ze d 45 115 [l0, l1, l2] st s = Ze d 45 2 [l0, l1, l2] st s := Ze_n (i := (.goto (-113))) (len := 3) (by decide +kernel) rfl
theorem x45_118 : Ze d 45 118 [l0, l1, l2] st s = Ze d 45 119 [l0, l1, l2] (aI 0 :: st) s := Ze_n (i := (.iconst 0)) (len := 1) (by decide +kernel) rfl
theorem x45_119 : Ze d 45 119 [l0, l1, l2] (aI z :: st) s = Ze d 45 120 [l0, aI z, l2] st s := Ze_n (i := (.istore_n 1)) (len := 1) (by decide +kernel) rfl
theorem x45_120 : Ze d 45 120 [l0, aI z, l2] st s = Ze d 45 121 [l0, aI z, l2] (aI z :: st) s := Ze_n (i := (.iload_n 1)) (len := 1) (by decide +kernel) rfl
theorem x45_121 : Ze d 45 121 [aR r, l1, l2] st s = Ze d 45 122 [aR r, l1, l2] (aR r :: st) s := Ze_n (i := (.aload_n 0)) (len := 1) (by decide +kernel) rfl
theorem x45_122 (h : obC r = 0) : Ze d 45 122 [l0, l1, l2] (aR r :: st) s = Ze d 45 125 [l0, l1, l2] (aI (s r 50) :: st) s := Ze_gf (len := 3) (idx := 303) (by decide +kernel) rfl h rfl
theorem x45_125 : Ze d 45 125 [l0, l1, l2] (aI b :: aI a :: st) s = if a < b then Ze d 45 128 [l0, l1, l2] st s else Ze d 45 246 [l0, l1, l2] st s := Ze_b (i := (.if_icmp .ge 121)) (len := 3) (by decide +kernel) rfl
theorem x45_128 : Ze d 45 128 [l0, l1, l2] st s = Ze d 45 130 [l0, l1, l2] (aI 24 :: st) s := Ze_n (i := (.bipush 24)) (len := 2) (by decide +kernel) rfl
theorem x45_130 : Ze d 45 130 [l0, aI z, l2] st s = Ze d 45 131 [l0, aI z, l2] (aI z :: st) s := Ze_n (i := (.iload_n 1)) (len := 1) (by decide +kernel) rfl
theorem x45_131 : Ze d 45 131 [l0, l1, l2] (aI b :: aI a :: st) s = Ze d 45 132 [l0, l1, l2] (aI (wrap (a + b)) :: st) s := Ze_n (i := .iadd) (len := 1) (by decide +kernel) rfl
theorem x45_132 : Ze d 45 132 [l0, l1, l2] (aI z :: st) s = Ze d 45 133 [l0, l1, aI z] st s := Ze_n (i := (.istore_n 2)) (len := 1) (by decide +kernel) rfl
theorem x45_133 : Ze d 45 133 [aR r, l1, l2] st s = Ze d 45 134 [aR r, l1, l2] (aR r :: st) s := Ze_n (i := (.aload_n 0)) (len := 1) (by decide +kernel) rfl
theorem x45_134 (h : obC r = 0) : Ze d 45 134 [l0, l1, l2] (aR r :: st) s = Ze d 45 137 [l0, l1, l2] (aR (fcn r 44) :: st) s := Ze_gf (len := 3) (idx := 116) (by decide +kernel) rfl h rfl
theorem x45_137 : Ze d 45 137 [l0, l1, aI z] st s = Ze d 45 138 [l0, l1, aI z] (aI z :: st) s := Ze_n (i := (.iload_n 2)) (len := 1) (by decide +kernel) rfl
theorem x45_138 : Ze d 45 138 [aR r, l1, l2] st s = Ze d 45 139 [aR r, l1, l2] (aR r :: st) s := Ze_n (i := (.aload_n 0)) (len := 1) (by decide +kernel) rfl
theorem x45_139 (h : obC r = 0) : Ze d 45 139 [l0, l1, l2] (aR r :: st) s = Ze d 45 142 [l0, l1, l2] (aR (fcn r 44) :: st) s := Ze_gf (len := 3) (idx := 116) (by decide +kernel) rfl h rfl
theorem x45_142 : Ze d 45 142 [l0, aI z, l2] st s = Ze d 45 143 [l0, aI z, l2] (aI z :: st) s := Ze_n (i := (.iload_n 1)) (len := 1) (by decide +kernel) rfl
theorem x45_143 (h0 : 0 ≤ i) (h1 : i < aN1 r) : Ze d 45 143 [l0, l1, l2] (aI i :: aR r :: st) s = Ze d 45 144 [l0, l1, l2] (aI (s r i.toNat) :: st) s := Ze_n (i := .iaload) (len := 1) (by decide +kernel) (if_pos ⟨h0, h1⟩)
theorem x45_144 (h0 : 0 ≤ i) (h1 : i < aN1 r) : Ze d 45 144 [l0, l1, l2] (aI z :: aI i :: aR r :: st) s = Ze d 45 145 [l0, l1, l2] st (mu s r i.toNat z) := Ze_n (i := .iastore) (len := 1) (by decide +kernel) (if_pos ⟨h0, h1⟩)
theorem x45_145 : Ze d 45 145 [aR r, l1, l2] st s = Ze d 45 146 [aR r, l1, l2] (aR r :: st) s := Ze_n (i := (.aload_n 0)) (len := 1) (by decide +kernel) rfl
theorem x45_146 (h : obC r = 0) : Ze d 45 146 [l0, l1, l2] (aR r :: st) s = Ze d 45 149 [l0, l1, l2] (aR (fcn r 45) :: st) s := Ze_gf (len := 3) (idx := 119) (by decide +kernel) rfl h rfl
theorem x45_149 : Ze d 45 149 [l0, l1, aI z] st s = Ze d 45 150 [l0, l1, aI z] (aI z :: st) s := Ze_n (i := (.iload_n 2)) (len := 1) (by decide +kernel) rfl
theorem x45_150 : Ze d 45 150 [aR r, l1, l2] st s = Ze d 45 151 [aR r, l1, l2] (aR r :: st) s := Ze_n (i := (.aload_n 0)) (len := 1) (by decide +kernel) rfl
theorem x45_151 (h : obC r = 0) : Ze d 45 151 [l0, l1, l2] (aR r :: st) s = Ze d 45 154 [l0, l1, l2] (aR (fcn r 45) :: st) s := Ze_gf (len := 3) (idx := 119) (by decide +kernel) rfl h rfl
theorem x45_154 : Ze d 45 154 [l0, aI z, l2] st s = Ze d 45 155 [l0, aI z, l2] (aI z :: st) s := Ze_n (i := (.iload_n 1)) (len := 1) (by decide +kernel) rfl
theorem x45_155 (h0 : 0 ≤ i) (h1 : i < aN1 r) : Ze d 45 155 [l0, l1, l2] (aI i :: aR r :: st) s = Ze d 45 156 [l0, l1, l2] (aI (s r i.toNat) :: st) s := Ze_n (i := .iaload) (len := 1) (by decide +kernel) (if_pos ⟨h0, h1⟩)
theorem x45_156 (h0 : 0 ≤ i) (h1 : i < aN1 r) : Ze d 45 156 [l0, l1, l2] (aI z :: aI i :: aR r :: st) s = Ze d 45 157 [l0, l1, l2] st (mu s r i.toNat z) := Ze_n (i := .iastore) (len := 1) (by decide +kernel) (if_pos ⟨h0, h1⟩)
theorem x45_157 : Ze d 45 157 [aR r, l1, l2] st s = Ze d 45 158 [aR r, l1, l2] (aR r :: st) s := Ze_n (i := (.aload_n 0)) (len := 1) (by decide +kernel) rfl
theorem x45_158 (h : obC r = 0) : Ze d 45 158 [l0, l1, l2] (aR r :: st) s = Ze d 45 161 [l0, l1, l2] (aR (fcn r 46) :: st) s := Ze_gf (len := 3) (idx := 122) (by decide +kernel) rfl h rfl
theorem x45_161 : Ze d 45 161 [l0, l1, aI z] st s = Ze d 45 162 [l0, l1, aI z] (aI z :: st) s := Ze_n (i := (.iload_n 2)) (len := 1) (by decide +kernel) rfl
theorem x45_162 : Ze d 45 162 [aR r, l1, l2] st s = Ze d 45 163 [aR r, l1, l2] (aR r :: st) s := Ze_n (i := (.aload_n 0)) (len := 1) (by decide +kernel) rfl
theorem x45_163 : Ze d 45 163 [l0, aI z, l2] st s = Ze d 45 164 [l0, aI z, l2] (aI z :: st) s := Ze_n (i := (.iload_n 1)) (len := 1) (by decide +kernel) rfl
theorem x45_164 (h : obC r = 0) (h6 : st.length ≤ 4) : Ze d 45 164 [l0, l1, l2] (aI a1 :: aR r :: st) s = zcI (Zc d 32 [aR r, aI a1] s) d 45 167 [l0, l1, l2] st := Ze_cvI (idx := 316) (len := 3) (as := [aI a1]) (by decide +kernel) rfl (by decide +kernel) rfl h h6
theorem x45_167 : Ze d 45 167 [l0, l1, l2] (aI a :: st) s = if a = 0 then Ze d 45 174 [l0, l1, l2] st s else Ze d 45 170 [l0, l1, l2] st s := Ze_b (i := (.ifCond .eq 7)) (len := 3) (by decide +kernel) rfl
theorem x45_170 : Ze d 45 170 [l0, l1, l2] st s = Ze d 45 171 [l0, l1, l2] (aI 1 :: st) s := Ze_n (i := (.iconst 1)) (len := 1) (by decide +kernel) rfl
theorem x45_171 : Ze d 45 171 [l0, l1, l2] st s = Ze d 45 175 [l0, l1, l2] st s := Ze_n (i := (.goto 4)) (len := 3) (by decide +kernel) rfl
theorem x45_174 : Ze d 45 174 [l0, l1, l2] st s = Ze d 45 175 [l0, l1, l2] (aI 0 :: st) s := Ze_n (i := (.iconst 0)) (len := 1) (by decide +kernel) rfl
theorem x45_175 (h0 : 0 ≤ i) (h1 : i < aN1 r) : Ze d 45 175 [l0, l1, l2] (aI z :: aI i :: aR r :: st) s = Ze d 45 176 [l0, l1, l2] st (mu s r i.toNat z) := Ze_n (i := .iastore) (len := 1) (by decide +kernel) (if_pos ⟨h0, h1⟩)
theorem x45_176 : Ze d 45 176 [aR r, l1, l2] st s = Ze d 45 177 [aR r, l1, l2] (aR r :: st) s := Ze_n (i := (.aload_n 0)) (len := 1) (by decide +kernel) rfl
theorem x45_177 (h : obC r = 0) : Ze d 45 177 [l0, l1, l2] (aR r :: st) s = Ze d 45 180 [l0, l1, l2] (aR (fcn r 47) :: st) s := Ze_gf (len := 3) (idx := 125) (by decide +kernel) rfl h rfl
theorem x45_180 : Ze d 45 180 [l0, l1, aI z] st s = Ze d 45 181 [l0, l1, aI z] (aI z :: st) s := Ze_n (i := (.iload_n 2)) (len := 1) (by decide +kernel) rfl
theorem x45_181 : Ze d 45 181 [aR r, l1, l2] st s = Ze d 45 182 [aR r, l1, l2] (aR r :: st) s := Ze_n (i := (.aload_n 0)) (len := 1) (by decide +kernel) rfl
theorem x45_182 (h : obC r = 0) : Ze d 45 182 [l0, l1, l2] (aR r :: st) s = Ze d 45 185 [l0, l1, l2] (aR (fcn r 47) :: st) s := Ze_gf (len := 3) (idx := 125) (by decide +kernel) rfl h rfl
theorem x45_185 : Ze d 45 185 [l0, aI z, l2] st s = Ze d 45 186 [l0, aI z, l2] (aI z :: st) s := Ze_n (i := (.iload_n 1)) (len := 1) (by decide +kernel) rfl
theorem x45_186 (h0 : 0 ≤ i) (h1 : i < aN1 r) : Ze d 45 186 [l0, l1, l2] (aI i :: aR r :: st) s = Ze d 45 187 [l0, l1, l2] (aI (s r i.toNat) :: st) s := Ze_n (i := .iaload) (len := 1) (by decide +kernel) (if_pos ⟨h0, h1⟩)
theorem x45_187 (h0 : 0 ≤ i) (h1 : i < aN1 r) : Ze d 45 187 [l0, l1, l2] (aI z :: aI i :: aR r :: st) s = Ze d 45 188 [l0, l1, l2] st (mu s r i.toNat z) := Ze_n (i := .iastore) (len := 1) (by decide +kernel) (if_pos ⟨h0, h1⟩)
theorem x45_188 : Ze d 45 188 [aR r, l1, l2] st s = Ze d 45 189 [aR r, l1, l2] (aR r :: st) s := Ze_n (i := (.aload_n 0)) (len := 1) (by decide +kernel) rfl
theorem x45_189 (h : obC r = 0) : Ze d 45 189 [l0, l1, l2] (aR r :: st) s = Ze d 45 192 [l0, l1, l2] (aR (fcn r 48) :: st) s := Ze_gf (len := 3) (idx := 128) (by decide +kernel) rfl h rfl
theorem x45_192 : Ze d 45 192 [l0, l1, aI z] st s = Ze d 45 193 [l0, l1, aI z] (aI z :: st) s := Ze_n (i := (.iload_n 2)) (len := 1) (by decide +kernel) rfl
theorem x45_193 : Ze d 45 193 [aR r, l1, l2] st s = Ze d 45 194 [aR r, l1, l2] (aR r :: st) s := Ze_n (i := (.aload_n 0)) (len := 1) (by decide +kernel) rfl
theorem x45_194 (h : obC r = 0) : Ze d 45 194 [l0, l1, l2] (aR r :: st) s = Ze d 45 197 [l0, l1, l2] (aR (fcn r 48) :: st) s := Ze_gf (len := 3) (idx := 128) (by decide +kernel) rfl h rfl
theorem x45_197 : Ze d 45 197 [l0, aI z, l2] st s = Ze d 45 198 [l0, aI z, l2] (aI z :: st) s := Ze_n (i := (.iload_n 1)) (len := 1) (by decide +kernel) rfl
theorem x45_198 (h0 : 0 ≤ i) (h1 : i < aN1 r) : Ze d 45 198 [l0, l1, l2] (aI i :: aR r :: st) s = Ze d 45 199 [l0, l1, l2] (aI (s r i.toNat) :: st) s := Ze_n (i := .iaload) (len := 1) (by decide +kernel) (if_pos ⟨h0, h1⟩)
theorem x45_199 (h0 : 0 ≤ i) (h1 : i < aN1 r) : Ze d 45 199 [l0, l1, l2] (aI z :: aI i :: aR r :: st) s = Ze d 45 200 [l0, l1, l2] st (mu s r i.toNat z) := Ze_n (i := .iastore) (len := 1) (by decide +kernel) (if_pos ⟨h0, h1⟩)
theorem x45_200 : Ze d 45 200 [aR r, l1, l2] st s = Ze d 45 201 [aR r, l1, l2] (aR r :: st) s := Ze_n (i := (.aload_n 0)) (len := 1) (by decide +kernel) rfl
theorem x45_201 (h : obC r = 0) : Ze d 45 201 [l0, l1, l2] (aR r :: st) s = Ze d 45 204 [l0, l1, l2] (aR (fcn r 49) :: st) s := Ze_gf (len := 3) (idx := 131) (by decide +kernel) rfl h rfl
theorem x45_204 : Ze d 45 204 [l0, l1, aI z] st s = Ze d 45 205 [l0, l1, aI z] (aI z :: st) s := Ze_n (i := (.iload_n 2)) (len := 1) (by decide +kernel) rfl
theorem x45_205 : Ze d 45 205 [aR r, l1, l2] st s = Ze d 45 206 [aR r, l1, l2] (aR r :: st) s := Ze_n (i := (.aload_n 0)) (len := 1) (by decide +kernel) rfl
theorem x45_206 (h : obC r = 0) : Ze d 45 206 [l0, l1, l2] (aR r :: st) s = Ze d 45 209 [l0, l1, l2] (aR (fcn r 49) :: st) s := Ze_gf (len := 3) (idx := 131) (by decide +kernel) rfl h rfl
theorem x45_209 : Ze d 45 209 [l0, aI z, l2] st s = Ze d 45 210 [l0, aI z, l2] (aI z :: st) s := Ze_n (i := (.iload_n 1)) (len := 1) (by decide +kernel) rfl
theorem x45_210 (h0 : 0 ≤ i) (h1 : i < aN1 r) : Ze d 45 210 [l0, l1, l2] (aI i :: aR r :: st) s = Ze d 45 211 [l0, l1, l2] (aI (s r i.toNat) :: st) s := Ze_n (i := .iaload) (len := 1) (by decide +kernel) (if_pos ⟨h0, h1⟩)
theorem x45_211 (h0 : 0 ≤ i) (h1 : i < aN1 r) : Ze d 45 211 [l0, l1, l2] (aI z :: aI i :: aR r :: st) s = Ze d 45 212 [l0, l1, l2] st (mu s r i.toNat z) := Ze_n (i := .iastore) (len := 1) (by decide +kernel) (if_pos ⟨h0, h1⟩)
theorem x45_212 : Ze d 45 212 [aR r, l1, l2] st s = Ze d 45 213 [aR r, l1, l2] (aR r :: st) s := Ze_n (i := (.aload_n 0)) (len := 1) (by decide +kernel) rfl
theorem x45_213 (h : obC r = 0) : Ze d 45 213 [l0, l1, l2] (aR r :: st) s = Ze d 45 216 [l0, l1, l2] (aR (fcn r 59) :: st) s := Ze_gf (len := 3) (idx := 143) (by decide +kernel) rfl h rfl
theorem x45_216 : Ze d 45 216 [l0, aI z, l2] st s = Ze d 45 217 [l0, aI z, l2] (aI z :: st) s := Ze_n (i := (.iload_n 1)) (len := 1) (by decide +kernel) rfl
theorem x45_217 : Ze d 45 217 [l0, l1, l2] st s = Ze d 45 218 [l0, l1, l2] (aI 0 :: st) s := Ze_n (i := (.iconst 0)) (len := 1) (by decide +kernel) rfl
theorem x45_218 (h0 : 0 ≤ i) (h1 : i < aN1 r) : Ze d 45 218 [l0, l1, l2] (aI z :: aI i :: aR r :: st) s = Ze d 45 219 [l0, l1, l2] st (mu s r i.toNat z) := Ze_n (i := .iastore) (len := 1) (by decide +kernel) (if_pos ⟨h0, h1⟩)
theorem x45_219 : Ze d 45 219 [aR r, l1, l2] st s = Ze d 45 220 [aR r, l1, l2] (aR r :: st) s := Ze_n (i := (.aload_n 0)) (len := 1) (by decide +kernel) rfl
theorem x45_220 (h : obC r = 0) : Ze d 45 220 [l0, l1, l2] (aR r :: st) s = Ze d 45 223 [l0, l1, l2] (aR (fcn r 60) :: st) s := Ze_gf (len := 3) (idx := 146) (by decide +kernel) rfl h rfl
theorem x45_223 : Ze d 45 223 [l0, aI z, l2] st s = Ze d 45 224 [l0, aI z, l2] (aI z :: st) s := Ze_n (i := (.iload_n 1)) (len := 1) (by decide +kernel) rfl
theorem x45_224 : Ze d 45 224 [l0, l1, l2] st s = Ze d 45 225 [l0, l1, l2] (aI 0 :: st) s := Ze_n (i := (.iconst 0)) (len := 1) (by decide +kernel) rfl
theorem x45_225 (h0 : 0 ≤ i) (h1 : i < aN1 r) : Ze d 45 225 [l0, l1, l2] (aI z :: aI i :: aR r :: st) s = Ze d 45 226 [l0, l1, l2] st (mu s r i.toNat z) := Ze_n (i := .iastore) (len := 1) (by decide +kernel) (if_pos ⟨h0, h1⟩)
theorem x45_226 : Ze d 45 226 [aR r, l1, l2] st s = Ze d 45 227 [aR r, l1, l2] (aR r :: st) s := Ze_n (i := (.aload_n 0)) (len := 1) (by decide +kernel) rfl
theorem x45_227 (h : obC r = 0) : Ze d 45 227 [l0, l1, l2] (aR r :: st) s = Ze d 45 230 [l0, l1, l2] (aR (fcn r 61) :: st) s := Ze_gf (len := 3) (idx := 149) (by decide +kernel) rfl h rfl
theorem x45_230 : Ze d 45 230 [l0, aI z, l2] st s = Ze d 45 231 [l0, aI z, l2] (aI z :: st) s := Ze_n (i := (.iload_n 1)) (len := 1) (by decide +kernel) rfl
theorem x45_231 : Ze d 45 231 [l0, l1, l2] st s = Ze d 45 232 [l0, l1, l2] (aI 0 :: st) s := Ze_n (i := (.iconst 0)) (len := 1) (by decide +kernel) rfl
theorem x45_232 (h0 : 0 ≤ i) (h1 : i < aN1 r) : Ze d 45 232 [l0, l1, l2] (aI z :: aI i :: aR r :: st) s = Ze d 45 233 [l0, l1, l2] st (mu s r i.toNat z) := Ze_n (i := .iastore) (len := 1) (by decide +kernel) (if_pos ⟨h0, h1⟩)
theorem x45_233 : Ze d 45 233 [aR r, l1, l2] st s = Ze d 45 234 [aR r, l1, l2] (aR r :: st) s := Ze_n (i := (.aload_n 0)) (len := 1) (by decide +kernel) rfl
theorem x45_234 (h : obC r = 0) : Ze d 45 234 [l0, l1, l2] (aR r :: st) s = Ze d 45 237 [l0, l1, l2] (aR (fcn r 62) :: st) s := Ze_gf (len := 3) (idx := 152) (by decide +kernel) rfl h rfl
theorem x45_237 : Ze d 45 237 [l0, aI z, l2] st s = Ze d 45 238 [l0, aI z, l2] (aI z :: st) s := Ze_n (i := (.iload_n 1)) (len := 1) (by decide +kernel) rfl
theorem x45_238 : Ze d 45 238 [l0, l1, l2] st s = Ze d 45 239 [l0, l1, l2] (aI 0 :: st) s := Ze_n (i := (.iconst 0)) (len := 1) (by decide +kernel) rfl
theorem x45_239 (h0 : 0 ≤ i) (h1 : i < aN1 r) : Ze d 45 239 [l0, l1, l2] (aI z :: aI i :: aR r :: st) s = Ze d 45 240 [l0, l1, l2] st (mu s r i.toNat z) := Ze_n (i := .iastore) (len := 1) (by decide +kernel) (if_pos ⟨h0, h1⟩)
theorem x45_240 : Ze d 45 240 [l0, aI z, l2] st s = Ze d 45 243 [l0, aI (wrap (z + 1)), l2] st s := Ze_n (i := (.iinc 1 1)) (len := 3) (by decide +kernel) rfl
theorem x45_243 : Ze d 45 243 [l0, l1, l2] st s = Ze d 45 120 [l0, l1, l2] st s := Ze_n (i := (.goto (-123))) (len := 3) (by decide +kernel) rfl
theorem x45_246 : Ze d 45 246 [l0, l1, l2] st s = Ze d 45 247 [l0, l1, l2] (aI 0 :: st) s := Ze_n (i := (.iconst 0)) (len := 1) (by decide +kernel) rfl
theorem x45_247 : Ze d 45 247 [l0, l1, l2] (aI z :: st) s = Ze d 45 248 [l0, aI z, l2] st s := Ze_n (i := (.istore_n 1)) (len := 1) (by decide +kernel) rfl
theorem x45_248 : Ze d 45 248 [l0, aI z, l2] st s = Ze d 45 249 [l0, aI z, l2] (aI z :: st) s := Ze_n (i := (.iload_n 1)) (len := 1) (by decide +kernel) rfl
theorem x45_249 : Ze d 45 249 [aR r, l1, l2] st s = Ze d 45 250 [aR r, l1, l2] (aR r :: st) s := Ze_n (i := (.aload_n 0)) (len := 1) (by decide +kernel) rfl
theorem x45_250 (h : obC r = 0) : Ze d 45 250 [l0, l1, l2] (aR r :: st) s = Ze d 45 253 [l0, l1, l2] (aI (s r 57) :: st) s := Ze_gf (len := 3) (idx := 313) (by decide +kernel) rfl h rfl
theorem x45_253 : Ze d 45 253 [l0, l1, l2] (aI b :: aI a :: st) s = if a < b then Ze d 45 256 [l0, l1, l2] st s else Ze d 45 310 [l0, l1, l2] st s := Ze_b (i := (.if_icmp .ge 57)) (len := 3) (by decide +kernel) rfl
theorem x45_256 : Ze d 45 256 [aR r, l1, l2] st s = Ze d 45 257 [aR r, l1, l2] (aR r :: st) s := Ze_n (i := (.aload_n 0)) (len := 1) (by decide +kernel) rfl
theorem x45_257 (h : obC r = 0) : Ze d 45 257 [l0, l1, l2] (aR r :: st) s = Ze d 45 260 [l0, l1, l2] (aR (fcn r 54) :: st) s := Ze_gf (len := 3) (idx := 134) (by decide +kernel) rfl h rfl
theorem x45_260 : Ze d 45 260 [l0, l1, l2] st s = Ze d 45 263 [l0, l1, l2] (aI 1100 :: st) s := Ze_n (i := (.sipush 1100)) (len := 3) (by decide +kernel) rfl
theorem x45_263 : Ze d 45 263 [l0, aI z, l2] st s = Ze d 45 264 [l0, aI z, l2] (aI z :: st) s := Ze_n (i := (.iload_n 1)) (len := 1) (by decide +kernel) rfl
theorem x45_264 : Ze d 45 264 [l0, l1, l2] (aI b :: aI a :: st) s = Ze d 45 265 [l0, l1, l2] (aI (wrap (a + b)) :: st) s := Ze_n (i := .iadd) (len := 1) (by decide +kernel) rfl
theorem x45_265 : Ze d 45 265 [aR r, l1, l2] st s = Ze d 45 266 [aR r, l1, l2] (aR r :: st) s := Ze_n (i := (.aload_n 0)) (len := 1) (by decide +kernel) rfl
theorem x45_266 (h : obC r = 0) : Ze d 45 266 [l0, l1, l2] (aR r :: st) s = Ze d 45 269 [l0, l1, l2] (aR (fcn r 54) :: st) s := Ze_gf (len := 3) (idx := 134) (by decide +kernel) rfl h rfl
theorem x45_269 : Ze d 45 269 [l0, aI z, l2] st s = Ze d 45 270 [l0, aI z, l2] (aI z :: st) s := Ze_n (i := (.iload_n 1)) (len := 1) (by decide +kernel) rfl
theorem x45_270 (h0 : 0 ≤ i) (h1 : i < aN1 r) : Ze d 45 270 [l0, l1, l2] (aI i :: aR r :: st) s = Ze d 45 271 [l0, l1, l2] (aI (s r i.toNat) :: st) s := Ze_n (i := .iaload) (len := 1) (by decide +kernel) (if_pos ⟨h0, h1⟩)
theorem x45_271 (h0 : 0 ≤ i) (h1 : i < aN1 r) : Ze d 45 271 [l0, l1, l2] (aI z :: aI i :: aR r :: st) s = Ze d 45 272 [l0, l1, l2] st (mu s r i.toNat z) := Ze_n (i := .iastore) (len := 1) (by decide +kernel) (if_pos ⟨h0, h1⟩)
theorem x45_272 : Ze d 45 272 [aR r, l1, l2] st s = Ze d 45 273 [aR r, l1, l2] (aR r :: st) s := Ze_n (i := (.aload_n 0)) (len := 1) (by decide +kernel) rfl
theorem x45_273 (h : obC r = 0) : Ze d 45 273 [l0, l1, l2] (aR r :: st) s = Ze d 45 276 [l0, l1, l2] (aR (fcn r 55) :: st) s := Ze_gf (len := 3) (idx := 137) (by decide +kernel) rfl h rfl
theorem x45_276 : Ze d 45 276 [l0, l1, l2] st s = Ze d 45 279 [l0, l1, l2] (aI 1100 :: st) s := Ze_n (i := (.sipush 1100)) (len := 3) (by decide +kernel) rfl
theorem x45_279 : Ze d 45 279 [l0, aI z, l2] st s = Ze d 45 280 [l0, aI z, l2] (aI z :: st) s := Ze_n (i := (.iload_n 1)) (len := 1) (by decide +kernel) rfl
theorem x45_280 : Ze d 45 280 [l0, l1, l2] (aI b :: aI a :: st) s = Ze d 45 281 [l0, l1, l2] (aI (wrap (a + b)) :: st) s := Ze_n (i := .iadd) (len := 1) (by decide +kernel) rfl
theorem x45_281 : Ze d 45 281 [aR r, l1, l2] st s = Ze d 45 282 [aR r, l1, l2] (aR r :: st) s := Ze_n (i := (.aload_n 0)) (len := 1) (by decide +kernel) rfl
theorem x45_282 (h : obC r = 0) : Ze d 45 282 [l0, l1, l2] (aR r :: st) s = Ze d 45 285 [l0, l1, l2] (aR (fcn r 55) :: st) s := Ze_gf (len := 3) (idx := 137) (by decide +kernel) rfl h rfl
theorem x45_285 : Ze d 45 285 [l0, aI z, l2] st s = Ze d 45 286 [l0, aI z, l2] (aI z :: st) s := Ze_n (i := (.iload_n 1)) (len := 1) (by decide +kernel) rfl
theorem x45_286 (h0 : 0 ≤ i) (h1 : i < aN1 r) : Ze d 45 286 [l0, l1, l2] (aI i :: aR r :: st) s = Ze d 45 287 [l0, l1, l2] (aI (s r i.toNat) :: st) s := Ze_n (i := .iaload) (len := 1) (by decide +kernel) (if_pos ⟨h0, h1⟩)
theorem x45_287 (h0 : 0 ≤ i) (h1 : i < aN1 r) : Ze d 45 287 [l0, l1, l2] (aI z :: aI i :: aR r :: st) s = Ze d 45 288 [l0, l1, l2] st (mu s r i.toNat z) := Ze_n (i := .iastore) (len := 1) (by decide +kernel) (if_pos ⟨h0, h1⟩)
theorem x45_288 : Ze d 45 288 [aR r, l1, l2] st s = Ze d 45 289 [aR r, l1, l2] (aR r :: st) s := Ze_n (i := (.aload_n 0)) (len := 1) (by decide +kernel) rfl
theorem x45_289 (h : obC r = 0) : Ze d 45 289 [l0, l1, l2] (aR r :: st) s = Ze d 45 292 [l0, l1, l2] (aR (fcn r 56) :: st) s := Ze_gf (len := 3) (idx := 140) (by decide +kernel) rfl h rfl
theorem x45_292 : Ze d 45 292 [l0, l1, l2] st s = Ze d 45 295 [l0, l1, l2] (aI 1100 :: st) s := Ze_n (i := (.sipush 1100)) (len := 3) (by decide +kernel) rfl
theorem x45_295 : Ze d 45 295 [l0, aI z, l2] st s = Ze d 45 296 [l0, aI z, l2] (aI z :: st) s := Ze_n (i := (.iload_n 1)) (len := 1) (by decide +kernel) rfl
theorem x45_296 : Ze d 45 296 [l0, l1, l2] (aI b :: aI a :: st) s = Ze d 45 297 [l0, l1, l2] (aI (wrap (a + b)) :: st) s := Ze_n (i := .iadd) (len := 1) (by decide +kernel) rfl
theorem x45_297 : Ze d 45 297 [aR r, l1, l2] st s = Ze d 45 298 [aR r, l1, l2] (aR r :: st) s := Ze_n (i := (.aload_n 0)) (len := 1) (by decide +kernel) rfl
theorem x45_298 (h : obC r = 0) : Ze d 45 298 [l0, l1, l2] (aR r :: st) s = Ze d 45 301 [l0, l1, l2] (aR (fcn r 56) :: st) s := Ze_gf (len := 3) (idx := 140) (by decide +kernel) rfl h rfl
theorem x45_301 : Ze d 45 301 [l0, aI z, l2] st s = Ze d 45 302 [l0, aI z, l2] (aI z :: st) s := Ze_n (i := (.iload_n 1)) (len := 1) (by decide +kernel) rfl
theorem x45_302 (h0 : 0 ≤ i) (h1 : i < aN1 r) : Ze d 45 302 [l0, l1, l2] (aI i :: aR r :: st) s = Ze d 45 303 [l0, l1, l2] (aI (s r i.toNat) :: st) s := Ze_n (i := .iaload) (len := 1) (by decide +kernel) (if_pos ⟨h0, h1⟩)
theorem x45_303 (h0 : 0 ≤ i) (h1 : i < aN1 r) : Ze d 45 303 [l0, l1, l2] (aI z :: aI i :: aR r :: st) s = Ze d 45 304 [l0, l1, l2] st (mu s r i.toNat z) := Ze_n (i := .iastore) (len := 1) (by decide +kernel) (if_pos ⟨h0, h1⟩)
theorem x45_304 : Ze d 45 304 [l0, aI z, l2] st s = Ze d 45 307 [l0, aI (wrap (z + 1)), l2] st s := Ze_n (i := (.iinc 1 1)) (len := 3) (by decide +kernel) rfl
theorem x45_307 : Ze d 45 307 [l0, l1, l2] st s = Ze d 45 248 [l0, l1, l2] st s := Ze_n (i := (.goto (-59))) (len := 3) (by decide +kernel) rfl
theorem x45_310 : Ze d 45 310 [aR r, l1, l2] st s = Ze d 45 311 [aR r, l1, l2] (aR r :: st) s := Ze_n (i := (.aload_n 0)) (len := 1) (by decide +kernel) rfl
theorem x45_311 : Ze d 45 311 [aR r, l1, l2] st s = Ze d 45 312 [aR r, l1, l2] (aR r :: st) s := Ze_n (i := (.aload_n 0)) (len := 1) (by decide +kernel) rfl
theorem x45_312 (h : obC r = 0) : Ze d 45 312 [l0, l1, l2] (aR r :: st) s = Ze d 45 315 [l0, l1, l2] (aI (s r 50) :: st) s := Ze_gf (len := 3) (idx := 303) (by decide +kernel) rfl h rfl
theorem x45_315 (h : obC r = 0) : Ze d 45 315 [l0, l1, l2] (aI z :: aR r :: st) s = Ze d 45 318 [l0, l1, l2] st (mu s r 71 z) := Ze_n (i := .putfield 347) (len := 3) (by decide +kernel) (if_pos h)
theorem x45_318 : Ze d 45 318 [aR r, l1, l2] st s = Ze d 45 319 [aR r, l1, l2] (aR r :: st) s := Ze_n (i := (.aload_n 0)) (len := 1) (by decide +kernel) rfl
theorem x45_319 : Ze d 45 319 [aR r, l1, l2] st s = Ze d 45 320 [aR r, l1, l2] (aR r :: st) s := Ze_n (i := (.aload_n 0)) (len := 1) (by decide +kernel) rfl
theorem x45_320 (h : obC r = 0) : Ze d 45 320 [l0, l1, l2] (aR r :: st) s = Ze d 45 323 [l0, l1, l2] (aI (s r 57) :: st) s := Ze_gf (len := 3) (idx := 313) (by decide +kernel) rfl h rfl
theorem x45_323 (h : obC r = 0) : Ze d 45 323 [l0, l1, l2] (aI z :: aR r :: st) s = Ze d 45 326 [l0, l1, l2] st (mu s r 72 z) := Ze_n (i := .putfield 350) (len := 3) (by decide +kernel) (if_pos h)
theorem x45_326 : Ze d 45 326 [aR r, l1, l2] st s = Ze d 45 327 [aR r, l1, l2] (aR r :: st) s := Ze_n (i := (.aload_n 0)) (len := 1) (by decide +kernel) rfl
theorem x45_327 : Ze d 45 327 [aR r, l1, l2] st s = Ze d 45 328 [aR r, l1, l2] (aR r :: st) s := Ze_n (i := (.aload_n 0)) (len := 1) (by decide +kernel) rfl
theorem x45_328 (h : obC r = 0) : Ze d 45 328 [l0, l1, l2] (aR r :: st) s = Ze d 45 331 [l0, l1, l2] (aI (s r 58) :: st) s := Ze_gf (len := 3) (idx := 322) (by decide +kernel) rfl h rfl
theorem x45_331 (h : obC r = 0) : Ze d 45 331 [l0, l1, l2] (aI z :: aR r :: st) s = Ze d 45 334 [l0, l1, l2] st (mu s r 73 z) := Ze_n (i := .putfield 353) (len := 3) (by decide +kernel) (if_pos h)
theorem x45_334 : Ze d 45 334 [aR r, l1, l2] st s = Ze d 45 335 [aR r, l1, l2] (aR r :: st) s := Ze_n (i := (.aload_n 0)) (len := 1) (by decide +kernel) rfl
theorem x45_335 : Ze d 45 335 [l0, l1, l2] st s = Ze d 45 336 [l0, l1, l2] (aI 0 :: st) s := Ze_n (i := (.iconst 0)) (len := 1) (by decide +kernel) rfl
theorem x45_336 (h : obC r = 0) : Ze d 45 336 [l0, l1, l2] (aI z :: aR r :: st) s = Ze d 45 339 [l0, l1, l2] st (mu s r 74 z) := Ze_n (i := .putfield 356) (len := 3) (by decide +kernel) (if_pos h)
theorem x45_339 : Ze d 45 339 [aR r, l1, l2] st s = Ze d 45 340 [aR r, l1, l2] (aR r :: st) s := Ze_n (i := (.aload_n 0)) (len := 1) (by decide +kernel) rfl
theorem x45_340 : Ze d 45 340 [l0, l1, l2] st s = Ze d 45 341 [l0, l1, l2] (aI 1 :: st) s := Ze_n (i := (.iconst 1)) (len := 1) (by decide +kernel) rfl
theorem x45_341 (h : obC r = 0) (h2 : z = 0 ∨ z = 1) : Ze d 45 341 [l0, l1, l2] (aI z :: aR r :: st) s = Ze d 45 344 [l0, l1, l2] st (mu s r 75 z) := Ze_n (i := .putfield 359) (len := 3) (by decide +kernel) (if_pos ⟨h, h2⟩)
theorem x45_344 : Ze d 45 344 [l0, l1, l2] [] s = rV s := Ze_v (by decide +kernel) rfl
theorem en45 : Zc (d + 1) 45 [aR r] s = Ze d 45 0 [aR r, aU, aU] [] s := rfl
theorem x46_0 : Ze d 46 0 [aR r, l1, l2, l3, l4] st s = Ze d 46 1 [aR r, l1, l2, l3, l4] (aR r :: st) s := Ze_n (i := (.aload_n 0)) (len := 1) (by decide +kernel) rfl
theorem x46_1 : Ze d 46 1 [l0, l1, l2, l3, l4] st s = Ze d 46 3 [l0, l1, l2, l3, l4] (aI (-2) :: st) s := Ze_n (i := (.bipush (-2))) (len := 2) (by decide +kernel) rfl
theorem x46_3 (h : obC r = 0) : Ze d 46 3 [l0, l1, l2, l3, l4] (aI z :: aR r :: st) s = Ze d 46 6 [l0, l1, l2, l3, l4] st (mu s r 3 z) := Ze_n (i := .putfield 13) (len := 3) (by decide +kernel) (if_pos h)
theorem x46_6 : Ze d 46 6 [aR r, l1, l2, l3, l4] st s = Ze d 46 7 [aR r, l1, l2, l3, l4] (aR r :: st) s := Ze_n (i := (.aload_n 0)) (len := 1) (by decide +kernel) rfl
theorem x46_7 (h : obC r = 0) (h6 : st.length ≤ 4) : Ze d 46 7 [l0, l1, l2, l3, l4] (aR r :: st) s = zcV (Zc d 26 [aR r] s) d 46 10 [l0, l1, l2, l3, l4] st := Ze_cvV (idx := 362) (len := 3) (as := []) (by decide +kernel) rfl (by decide +kernel) rfl h h6
theorem x46_10 : Ze d 46 10 [aR r, l1, l2, l3, l4] st s = Ze d 46 11 [aR r, l1, l2, l3, l4] (aR r :: st) s := Ze_n (i := (.aload_n 0)) (len := 1) (by decide +kernel) rfl
theorem x46_11 (h : obC r = 0) : Ze d 46 11 [l0, l1, l2, l3, l4] (aR r :: st) s = Ze d 46 14 [l0, l1, l2, l3, l4] (aI (s r 5) :: st) s := Ze_gf (len := 3) (idx := 194) (by decide +kernel) rfl h rfl
theorem x46_14 : Ze d 46 14 [l0, l1, l2, l3, l4] (aI a :: st) s = if a = 0 then Ze d 46 23 [l0, l1, l2, l3, l4] st s else Ze d 46 17 [l0, l1, l2, l3, l4] st s := Ze_b (i := (.ifCond .eq 9)) (len := 3) (by decide +kernel) rfl
theorem x46_17 : Ze d 46 17 [aR r, l1, l2, l3, l4] st s = Ze d 46 18 [aR r, l1, l2, l3, l4] (aR r :: st) s := Ze_n (i := (.aload_n 0)) (len := 1) (by decide +kernel) rfl
theorem x46_18 : Ze d 46 18 [l0, l1, l2, l3, l4] st s = Ze d 46 19 [l0, l1, l2, l3, l4] (aI 1 :: st) s := Ze_n (i := (.iconst 1)) (len := 1) (by decide +kernel) rfl
theorem x46_19 (h : obC r = 0) (h6 : st.length ≤ 4) : Ze d 46 19 [l0, l1, l2, l3, l4] (aI a1 :: aR r :: st) s = zcI (Zc d 2 [aR r, aI a1] s) d 46 22 [l0, l1, l2, l3, l4] st := Ze_cvI (idx := 187) (len := 3) (as := [aI a1]) (by decide +kernel) rfl (by decide +kernel) rfl h h6
theorem x46_22 : Ze d 46 22 [l0, l1, l2, l3, l4] [aI z] s = rI z s := Ze_i1 (by decide +kernel) rfl
theorem x46_23 : Ze d 46 23 [aR r, l1, l2, l3, l4] st s = Ze d 46 24 [aR r, l1, l2, l3, l4] (aR r :: st) s := Ze_n (i := (.aload_n 0)) (len := 1) (by decide +kernel) rfl
theorem x46_24 (h : obC r = 0) (h6 : st.length ≤ 4) : Ze d 46 24 [l0, l1, l2, l3, l4] (aR r :: st) s = zcI (Zc d 36 [aR r] s) d 46 27 [l0, l1, l2, l3, l4] st := Ze_cvI (idx := 365) (len := 3) (as := []) (by decide +kernel) rfl (by decide +kernel) rfl h h6
theorem x46_27 : Ze d 46 27 [l0, l1, l2, l3, l4] (aI z :: st) s = Ze d 46 28 [l0, aI z, l2, l3, l4] st s := Ze_n (i := (.istore_n 1)) (len := 1) (by decide +kernel) rfl
theorem x46_28 : Ze d 46 28 [l0, aI z, l2, l3, l4] st s = Ze d 46 29 [l0, aI z, l2, l3, l4] (aI z :: st) s := Ze_n (i := (.iload_n 1)) (len := 1) (by decide +kernel) rfl
theorem x46_29 : Ze d 46 29 [l0, l1, l2, l3, l4] (aI a :: st) s = if a < 0 then Ze d 46 43 [l0, l1, l2, l3, l4] st s else Ze d 46 32 [l0, l1, l2, l3, l4] st s := Ze_b (i := (.ifCond .lt 14)) (len := 3) (by decide +kernel) rfl
theorem x46_32 : Ze d 46 32 [aR r, l1, l2, l3, l4] st s = Ze d 46 33 [aR r, l1, l2, l3, l4] (aR r :: st) s := Ze_n (i := (.aload_n 0)) (len := 1) (by decide +kernel) rfl
theorem x46_33 : Ze d 46 33 [l0, aI z, l2, l3, l4] st s = Ze d 46 34 [l0, aI z, l2, l3, l4] (aI z :: st) s := Ze_n (i := (.iload_n 1)) (len := 1) (by decide +kernel) rfl
theorem x46_34 (h : obC r = 0) : Ze d 46 34 [l0, l1, l2, l3, l4] (aI z :: aR r :: st) s = Ze d 46 37 [l0, l1, l2, l3, l4] st (mu s r 3 z) := Ze_n (i := .putfield 13) (len := 3) (by decide +kernel) (if_pos h)
theorem x46_37 : Ze d 46 37 [aR r, l1, l2, l3, l4] st s = Ze d 46 38 [aR r, l1, l2, l3, l4] (aR r :: st) s := Ze_n (i := (.aload_n 0)) (len := 1) (by decide +kernel) rfl
theorem x46_38 : Ze d 46 38 [l0, l1, l2, l3, l4] st s = Ze d 46 39 [l0, l1, l2, l3, l4] (aI 2 :: st) s := Ze_n (i := (.iconst 2)) (len := 1) (by decide +kernel) rfl
theorem x46_39 (h : obC r = 0) (h6 : st.length ≤ 4) : Ze d 46 39 [l0, l1, l2, l3, l4] (aI a1 :: aR r :: st) s = zcI (Zc d 2 [aR r, aI a1] s) d 46 42 [l0, l1, l2, l3, l4] st := Ze_cvI (idx := 187) (len := 3) (as := [aI a1]) (by decide +kernel) rfl (by decide +kernel) rfl h h6
theorem x46_42 : Ze d 46 42 [l0, l1, l2, l3, l4] [aI z] s = rI z s := Ze_i1 (by decide +kernel) rfl
theorem x46_43 : Ze d 46 43 [aR r, l1, l2, l3, l4] st s = Ze d 46 44 [aR r, l1, l2, l3, l4] (aR r :: st) s := Ze_n (i := (.aload_n 0)) (len := 1) (by decide +kernel) rfl
theorem x46_44 (h : obC r = 0) (h6 : st.length ≤ 4) : Ze d 46 44 [l0, l1, l2, l3, l4] (aR r :: st) s = zcI (Zc d 40 [aR r] s) d 46 47 [l0, l1, l2, l3, l4] st := Ze_cvI (idx := 368) (len := 3) (as := []) (by decide +kernel) rfl (by decide +kernel) rfl h h6
theorem x46_47 : Ze d 46 47 [l0, l1, l2, l3, l4] (aI z :: st) s = Ze d 46 48 [l0, l1, aI z, l3, l4] st s := Ze_n (i := (.istore_n 2)) (len := 1) (by decide +kernel) rfl
theorem x46_48 : Ze d 46 48 [l0, l1, aI z, l3, l4] st s = Ze d 46 49 [l0, l1, aI z, l3, l4] (aI z :: st) s := Ze_n (i := (.iload_n 2)) (len := 1) (by decide +kernel) rfl
theorem x46_49 : Ze d 46 49 [l0, l1, l2, l3, l4] (aI a :: st) s = if a = 0 then Ze d 46 52 [l0, l1, l2, l3, l4] st s else Ze d 46 63 [l0, l1, l2, l3, l4] st s := Ze_b (i := (.ifCond .ne 14)) (len := 3) (by decide +kernel) rfl
theorem x46_52 : Ze d 46 52 [aR r, l1, l2, l3, l4] st s = Ze d 46 53 [aR r, l1, l2, l3, l4] (aR r :: st) s := Ze_n (i := (.aload_n 0)) (len := 1) (by decide +kernel) rfl
theorem x46_53 : Ze d 46 53 [l0, l1, l2, l3, l4] st s = Ze d 46 54 [l0, l1, l2, l3, l4] (aI (-1) :: st) s := Ze_n (i := (.iconst (-1))) (len := 1) (by decide +kernel) rfl
theorem x46_54 (h : obC r = 0) : Ze d 46 54 [l0, l1, l2, l3, l4] (aI z :: aR r :: st) s = Ze d 46 57 [l0, l1, l2, l3, l4] st (mu s r 3 z) := Ze_n (i := .putfield 13) (len := 3) (by decide +kernel) (if_pos h)
theorem x46_57 : Ze d 46 57 [aR r, l1, l2, l3, l4] st s = Ze d 46 58 [aR r, l1, l2, l3, l4] (aR r :: st) s := Ze_n (i := (.aload_n 0)) (len := 1) (by decide +kernel) rfl
theorem x46_58 : Ze d 46 58 [l0, l1, l2, l3, l4] st s = Ze d 46 59 [l0, l1, l2, l3, l4] (aI 3 :: st) s := Ze_n (i := (.iconst 3)) (len := 1) (by decide +kernel) rfl
theorem x46_59 (h : obC r = 0) (h6 : st.length ≤ 4) : Ze d 46 59 [l0, l1, l2, l3, l4] (aI a1 :: aR r :: st) s = zcI (Zc d 2 [aR r, aI a1] s) d 46 62 [l0, l1, l2, l3, l4] st := Ze_cvI (idx := 187) (len := 3) (as := [aI a1]) (by decide +kernel) rfl (by decide +kernel) rfl h h6
theorem x46_62 : Ze d 46 62 [l0, l1, l2, l3, l4] [aI z] s = rI z s := Ze_i1 (by decide +kernel) rfl
theorem x46_63 : Ze d 46 63 [l0, l1, l2, l3, l4] st s = Ze d 46 64 [l0, l1, l2, l3, l4] (aI 0 :: st) s := Ze_n (i := (.iconst 0)) (len := 1) (by decide +kernel) rfl
theorem x46_64 : Ze d 46 64 [l0, l1, l2, l3, l4] (aI z :: st) s = Ze d 46 65 [l0, l1, l2, aI z, l4] st s := Ze_n (i := (.istore_n 3)) (len := 1) (by decide +kernel) rfl
theorem x46_65 : Ze d 46 65 [l0, l1, l2, aI z, l4] st s = Ze d 46 66 [l0, l1, l2, aI z, l4] (aI z :: st) s := Ze_n (i := (.iload_n 3)) (len := 1) (by decide +kernel) rfl
theorem x46_66 : Ze d 46 66 [aR r, l1, l2, l3, l4] st s = Ze d 46 67 [aR r, l1, l2, l3, l4] (aR r :: st) s := Ze_n (i := (.aload_n 0)) (len := 1) (by decide +kernel) rfl
theorem x46_67 (h : obC r = 0) : Ze d 46 67 [l0, l1, l2, l3, l4] (aR r :: st) s = Ze d 46 70 [l0, l1, l2, l3, l4] (aI (s r 50) :: st) s := Ze_gf (len := 3) (idx := 303) (by decide +kernel) rfl h rfl
theorem x46_70 : Ze d 46 70 [l0, l1, l2, l3, l4] (aI b :: aI a :: st) s = if a < b then Ze d 46 73 [l0, l1, l2, l3, l4] st s else Ze d 46 131 [l0, l1, l2, l3, l4] st s := Ze_b (i := (.if_icmp .ge 61)) (len := 3) (by decide +kernel) rfl
theorem x46_73 : Ze d 46 73 [aR r, l1, l2, l3, l4] st s = Ze d 46 74 [aR r, l1, l2, l3, l4] (aR r :: st) s := Ze_n (i := (.aload_n 0)) (len := 1) (by decide +kernel) rfl
theorem x46_74 : Ze d 46 74 [l0, l1, l2, aI z, l4] st s = Ze d 46 75 [l0, l1, l2, aI z, l4] (aI z :: st) s := Ze_n (i := (.iload_n 3)) (len := 1) (by decide +kernel) rfl
theorem x46_75 (h : obC r = 0) (h6 : st.length ≤ 4) : Ze d 46 75 [l0, l1, l2, l3, l4] (aI a1 :: aR r :: st) s = zcI (Zc d 32 [aR r, aI a1] s) d 46 78 [l0, l1, l2, l3, l4] st := Ze_cvI (idx := 316) (len := 3) (as := [aI a1]) (by decide +kernel) rfl (by decide +kernel) rfl h h6
theorem x46_78 : Ze d 46 78 [l0, l1, l2, l3, l4] (aI a :: st) s = if a = 0 then Ze d 46 99 [l0, l1, l2, l3, l4] st s else Ze d 46 81 [l0, l1, l2, l3, l4] st s := Ze_b (i := (.ifCond .eq 21)) (len := 3) (by decide +kernel) rfl
theorem x46_81 : Ze d 46 81 [aR r, l1, l2, l3, l4] st s = Ze d 46 82 [aR r, l1, l2, l3, l4] (aR r :: st) s := Ze_n (i := (.aload_n 0)) (len := 1) (by decide +kernel) rfl
theorem x46_82 (h : obC r = 0) : Ze d 46 82 [l0, l1, l2, l3, l4] (aR r :: st) s = Ze d 46 85 [l0, l1, l2, l3, l4] (aR (fcn r 44) :: st) s := Ze_gf (len := 3) (idx := 116) (by decide +kernel) rfl h rfl
theorem x46_85 : Ze d 46 85 [l0, l1, l2, aI z, l4] st s = Ze d 46 86 [l0, l1, l2, aI z, l4] (aI z :: st) s := Ze_n (i := (.iload_n 3)) (len := 1) (by decide +kernel) rfl
theorem x46_86 (h0 : 0 ≤ i) (h1 : i < aN1 r) : Ze d 46 86 [l0, l1, l2, l3, l4] (aI i :: aR r :: st) s = Ze d 46 87 [l0, l1, l2, l3, l4] (aI (s r i.toNat) :: st) s := Ze_n (i := .iaload) (len := 1) (by decide +kernel) (if_pos ⟨h0, h1⟩)
theorem x46_87 : Ze d 46 87 [l0, l1, l2, l3, l4] st s = Ze d 46 88 [l0, l1, l2, l3, l4] (aI 3 :: st) s := Ze_n (i := (.iconst 3)) (len := 1) (by decide +kernel) rfl
theorem x46_88 : Ze d 46 88 [l0, l1, l2, l3, l4] (aI b :: aI a :: st) s = if a = b then Ze d 46 99 [l0, l1, l2, l3, l4] st s else Ze d 46 91 [l0, l1, l2, l3, l4] st s := Ze_b (i := (.if_icmp .eq 11)) (len := 3) (by decide +kernel) rfl
theorem x46_91 : Ze d 46 91 [aR r, l1, l2, l3, l4] st s = Ze d 46 92 [aR r, l1, l2, l3, l4] (aR r :: st) s := Ze_n (i := (.aload_n 0)) (len := 1) (by decide +kernel) rfl
theorem x46_92 : Ze d 46 92 [l0, l1, l2, aI z, l4] st s = Ze d 46 93 [l0, l1, l2, aI z, l4] (aI z :: st) s := Ze_n (i := (.iload_n 3)) (len := 1) (by decide +kernel) rfl
theorem x46_93 (h : obC r = 0) (h6 : st.length ≤ 4) : Ze d 46 93 [l0, l1, l2, l3, l4] (aI a1 :: aR r :: st) s = zcI (Zc d 41 [aR r, aI a1] s) d 46 96 [l0, l1, l2, l3, l4] st := Ze_cvI (idx := 371) (len := 3) (as := [aI a1]) (by decide +kernel) rfl (by decide +kernel) rfl h h6
theorem x46_96 : Ze d 46 96 [l0, l1, l2, l3, l4] (aI a :: st) s = if a = 0 then Ze d 46 103 [l0, l1, l2, l3, l4] st s else Ze d 46 99 [l0, l1, l2, l3, l4] st s := Ze_b (i := (.ifCond .eq 7)) (len := 3) (by decide +kernel) rfl
theorem x46_99 : Ze d 46 99 [l0, l1, l2, l3, l4] st s = Ze d 46 100 [l0, l1, l2, l3, l4] (aI 1 :: st) s := Ze_n (i := (.iconst 1)) (len := 1) (by decide +kernel) rfl
theorem x46_100 : Ze d 46 100 [l0, l1, l2, l3, l4] st s = Ze d 46 104 [l0, l1, l2, l3, l4] st s := Ze_n (i := (.goto 4)) (len := 3) (by decide +kernel) rfl
theorem x46_103 : Ze d 46 103 [l0, l1, l2, l3, l4] st s = Ze d 46 104 [l0, l1, l2, l3, l4] (aI 0 :: st) s := Ze_n (i := (.iconst 0)) (len := 1) (by decide +kernel) rfl
theorem x46_104 : Ze d 46 104 [l0, l1, l2, l3, l4] (aI z :: st) s = Ze d 46 106 [l0, l1, l2, l3, aI z] st s := Ze_n (i := (.istore 4)) (len := 2) (by decide +kernel) rfl
theorem x46_106 : Ze d 46 106 [l0, l1, l2, l3, aI z] st s = Ze d 46 108 [l0, l1, l2, l3, aI z] (aI z :: st) s := Ze_n (i := (.iload 4)) (len := 2) (by decide +kernel) rfl
theorem x46_108 : Ze d 46 108 [l0, l1, l2, l3, l4] (aI a :: st) s = if a = 0 then Ze d 46 114 [l0, l1, l2, l3, l4] st s else Ze d 46 111 [l0, l1, l2, l3, l4] st s := Ze_b (i := (.ifCond .eq 6)) (len := 3) (by decide +kernel) rfl
theorem x46_111 : Ze d 46 111 [l0, l1, l2, l3, l4] st s = Ze d 46 125 [l0, l1, l2, l3, l4] st s := Ze_n (i := (.goto 14)) (len := 3) (by decide +kernel) rfl
theorem x46_114 : Ze d 46 114 [aR r, l1, l2, l3, l4] st s = Ze d 46 115 [aR r, l1, l2, l3, l4] (aR r :: st) s := Ze_n (i := (.aload_n 0)) (len := 1) (by decide +kernel) rfl
theorem x46_115 : Ze d 46 115 [l0, l1, l2, aI z, l4] st s = Ze d 46 116 [l0, l1, l2, aI z, l4] (aI z :: st) s := Ze_n (i := (.iload_n 3)) (len := 1) (by decide +kernel) rfl
theorem x46_116 (h : obC r = 0) : Ze d 46 116 [l0, l1, l2, l3, l4] (aI z :: aR r :: st) s = Ze d 46 119 [l0, l1, l2, l3, l4] st (mu s r 3 z) := Ze_n (i := .putfield 13) (len := 3) (by decide +kernel) (if_pos h)
theorem x46_119 : Ze d 46 119 [aR r, l1, l2, l3, l4] st s = Ze d 46 120 [aR r, l1, l2, l3, l4] (aR r :: st) s := Ze_n (i := (.aload_n 0)) (len := 1) (by decide +kernel) rfl
theorem x46_120 : Ze d 46 120 [l0, l1, l2, l3, l4] st s = Ze d 46 121 [l0, l1, l2, l3, l4] (aI 4 :: st) s := Ze_n (i := (.iconst 4)) (len := 1) (by decide +kernel) rfl
theorem x46_121 (h : obC r = 0) (h6 : st.length ≤ 4) : Ze d 46 121 [l0, l1, l2, l3, l4] (aI a1 :: aR r :: st) s = zcI (Zc d 2 [aR r, aI a1] s) d 46 124 [l0, l1, l2, l3, l4] st := Ze_cvI (idx := 187) (len := 3) (as := [aI a1]) (by decide +kernel) rfl (by decide +kernel) rfl h h6
theorem x46_124 : Ze d 46 124 [l0, l1, l2, l3, l4] [aI z] s = rI z s := Ze_i1 (by decide +kernel) rfl
theorem x46_125 : Ze d 46 125 [l0, l1, l2, aI z, l4] st s = Ze d 46 128 [l0, l1, l2, aI (wrap (z + 1)), l4] st s := Ze_n (i := (.iinc 3 1)) (len := 3) (by decide +kernel) rfl
theorem x46_128 : Ze d 46 128 [l0, l1, l2, l3, l4] st s = Ze d 46 65 [l0, l1, l2, l3, l4] st s := Ze_n (i := (.goto (-63))) (len := 3) (by decide +kernel) rfl
theorem x46_131 : Ze d 46 131 [l0, l1, l2, l3, l4] st s = Ze d 46 132 [l0, l1, l2, l3, l4] (aI 0 :: st) s := Ze_n (i := (.iconst 0)) (len := 1) (by decide +kernel) rfl
theorem x46_132 : Ze d 46 132 [l0, l1, l2, l3, l4] (aI z :: st) s = Ze d 46 133 [l0, l1, l2, aI z, l4] st s := Ze_n (i := (.istore_n 3)) (len := 1) (by decide +kernel) rfl
theorem x46_133 : Ze d 46 133 [l0, l1, l2, aI z, l4] st s = Ze d 46 134 [l0, l1, l2, aI z, l4] (aI z :: st) s := Ze_n (i := (.iload_n 3)) (len := 1) (by decide +kernel) rfl
theorem x46_134 : Ze d 46 134 [aR r, l1, l2, l3, l4] st s = Ze d 46 135 [aR r, l1, l2, l3, l4] (aR r :: st) s := Ze_n (i := (.aload_n 0)) (len := 1) (by decide +kernel) rfl
theorem x46_135 (h : obC r = 0) : Ze d 46 135 [l0, l1, l2, l3, l4] (aR r :: st) s = Ze d 46 138 [l0, l1, l2, l3, l4] (aI (s r 50) :: st) s := Ze_gf (len := 3) (idx := 303) (by decide +kernel) rfl h rfl
theorem x46_138 : Ze d 46 138 [l0, l1, l2, l3, l4] (aI b :: aI a :: st) s = if a < b then Ze d 46 141 [l0, l1, l2, l3, l4] st s else Ze d 46 180 [l0, l1, l2, l3, l4] st s := Ze_b (i := (.if_icmp .ge 42)) (len := 3) (by decide +kernel) rfl
theorem x46_141 : Ze d 46 141 [aR r, l1, l2, l3, l4] st s = Ze d 46 142 [aR r, l1, l2, l3, l4] (aR r :: st) s := Ze_n (i := (.aload_n 0)) (len := 1) (by decide +kernel) rfl
theorem x46_142 (h : obC r = 0) : Ze d 46 142 [l0, l1, l2, l3, l4] (aR r :: st) s = Ze d 46 145 [l0, l1, l2, l3, l4] (aR (fcn r 49) :: st) s := Ze_gf (len := 3) (idx := 131) (by decide +kernel) rfl h rfl
theorem x46_145 : Ze d 46 145 [l0, l1, l2, aI z, l4] st s = Ze d 46 146 [l0, l1, l2, aI z, l4] (aI z :: st) s := Ze_n (i := (.iload_n 3)) (len := 1) (by decide +kernel) rfl
theorem x46_146 : Ze d 46 146 [aR r, l1, l2, l3, l4] st s = Ze d 46 147 [aR r, l1, l2, l3, l4] (aR r :: st) s := Ze_n (i := (.aload_n 0)) (len := 1) (by decide +kernel) rfl
theorem x46_147 : Ze d 46 147 [l0, l1, l2, aI z, l4] st s = Ze d 46 148 [l0, l1, l2, aI z, l4] (aI z :: st) s := Ze_n (i := (.iload_n 3)) (len := 1) (by decide +kernel) rfl
theorem x46_148 (h : obC r = 0) (h6 : st.length ≤ 4) : Ze d 46 148 [l0, l1, l2, l3, l4] (aI a1 :: aR r :: st) s = zcI (Zc d 32 [aR r, aI a1] s) d 46 151 [l0, l1, l2, l3, l4] st := Ze_cvI (idx := 316) (len := 3) (as := [aI a1]) (by decide +kernel) rfl (by decide +kernel) rfl h h6
theorem x46_151 : Ze d 46 151 [l0, l1, l2, l3, l4] (aI a :: st) s = if a = 0 then Ze d 46 154 [l0, l1, l2, l3, l4] st s else Ze d 46 164 [l0, l1, l2, l3, l4] st s := Ze_b (i := (.ifCond .ne 13)) (len := 3) (by decide +kernel) rfl
theorem x46_154 : Ze d 46 154 [aR r, l1, l2, l3, l4] st s = Ze d 46 155 [aR r, l1, l2, l3, l4] (aR r :: st) s := Ze_n (i := (.aload_n 0)) (len := 1) (by decide +kernel) rfl
theorem x46_155 (h : obC r = 0) : Ze d 46 155 [l0, l1, l2, l3, l4] (aR r :: st) s = Ze d 46 158 [l0, l1, l2, l3, l4] (aR (fcn r 44) :: st) s := Ze_gf (len := 3) (idx := 116) (by decide +kernel) rfl h rfl
theorem x46_158 : Ze d 46 158 [l0, l1, l2, aI z, l4] st s = Ze d 46 159 [l0, l1, l2, aI z, l4] (aI z :: st) s := Ze_n (i := (.iload_n 3)) (len := 1) (by decide +kernel) rfl
theorem x46_159 (h0 : 0 ≤ i) (h1 : i < aN1 r) : Ze d 46 159 [l0, l1, l2, l3, l4] (aI i :: aR r :: st) s = Ze d 46 160 [l0, l1, l2, l3, l4] (aI (s r i.toNat) :: st) s := Ze_n (i := .iaload) (len := 1) (by decide +kernel) (if_pos ⟨h0, h1⟩)
theorem x46_160 : Ze d 46 160 [l0, l1, l2, l3, l4] st s = Ze d 46 161 [l0, l1, l2, l3, l4] (aI 4 :: st) s := Ze_n (i := (.iconst 4)) (len := 1) (by decide +kernel) rfl
theorem x46_161 : Ze d 46 161 [l0, l1, l2, l3, l4] (aI b :: aI a :: st) s = if a = b then Ze d 46 164 [l0, l1, l2, l3, l4] st s else Ze d 46 172 [l0, l1, l2, l3, l4] st s := Ze_b (i := (.if_icmp .ne 11)) (len := 3) (by decide +kernel) rfl
theorem x46_164 : Ze d 46 164 [aR r, l1, l2, l3, l4] st s = Ze d 46 165 [aR r, l1, l2, l3, l4] (aR r :: st) s := Ze_n (i := (.aload_n 0)) (len := 1) (by decide +kernel) rfl
theorem x46_165 : Ze d 46 165 [l0, l1, l2, aI z, l4] st s = Ze d 46 166 [l0, l1, l2, aI z, l4] (aI z :: st) s := Ze_n (i := (.iload_n 3)) (len := 1) (by decide +kernel) rfl
theorem x46_166 (h : obC r = 0) (h6 : st.length ≤ 4) : Ze d 46 166 [l0, l1, l2, l3, l4] (aI a1 :: aR r :: st) s = zcI (Zc d 43 [aR r, aI a1] s) d 46 169 [l0, l1, l2, l3, l4] st := Ze_cvI (idx := 374) (len := 3) (as := [aI a1]) (by decide +kernel) rfl (by decide +kernel) rfl h h6
theorem x46_169 : Ze d 46 169 [l0, l1, l2, l3, l4] st s = Ze d 46 173 [l0, l1, l2, l3, l4] st s := Ze_n (i := (.goto 4)) (len := 3) (by decide +kernel) rfl
theorem x46_172 : Ze d 46 172 [l0, l1, l2, l3, l4] st s = Ze d 46 173 [l0, l1, l2, l3, l4] (aI 0 :: st) s := Ze_n (i := (.iconst 0)) (len := 1) (by decide +kernel) rfl
theorem x46_173 (h0 : 0 ≤ i) (h1 : i < aN1 r) : Ze d 46 173 [l0, l1, l2, l3, l4] (aI z :: aI i :: aR r :: st) s = Ze d 46 174 [l0, l1, l2, l3, l4] st (mu s r i.toNat z) := Ze_n (i := .iastore) (len := 1) (by decide +kernel) (if_pos ⟨h0, h1⟩)
theorem x46_174 : Ze d 46 174 [l0, l1, l2, aI z, l4] st s = Ze d 46 177 [l0, l1, l2, aI (wrap (z + 1)), l4] st s := Ze_n (i := (.iinc 3 1)) (len := 3) (by decide +kernel) rfl
theorem x46_177 : Ze d 46 177 [l0, l1, l2, l3, l4] st s = Ze d 46 133 [l0, l1, l2, l3, l4] st s := Ze_n (i := (.goto (-44))) (len := 3) (by decide +kernel) rfl
theorem x46_180 : Ze d 46 180 [aR r, l1, l2, l3, l4] st s = Ze d 46 181 [aR r, l1, l2, l3, l4] (aR r :: st) s := Ze_n (i := (.aload_n 0)) (len := 1) (by decide +kernel) rfl
theorem x46_181 (h : obC r = 0) (h6 : st.length ≤ 4) : Ze d 46 181 [l0, l1, l2, l3, l4] (aR r :: st) s = zcI (Zc d 44 [aR r] s) d 46 184 [l0, l1, l2, l3, l4] st := Ze_cvI (idx := 377) (len := 3) (as := []) (by decide +kernel) rfl (by decide +kernel) rfl h h6
theorem x46_184 : Ze d 46 184 [l0, l1, l2, l3, l4] (aI z :: st) s = Ze d 46 185 [l0, aI z, l2, l3, l4] st s := Ze_n (i := (.istore_n 1)) (len := 1) (by decide +kernel) rfl
theorem x46_185 : Ze d 46 185 [l0, aI z, l2, l3, l4] st s = Ze d 46 186 [l0, aI z, l2, l3, l4] (aI z :: st) s := Ze_n (i := (.iload_n 1)) (len := 1) (by decide +kernel) rfl
theorem x46_186 : Ze d 46 186 [l0, l1, l2, l3, l4] (aI a :: st) s = if a < 0 then Ze d 46 200 [l0, l1, l2, l3, l4] st s else Ze d 46 189 [l0, l1, l2, l3, l4] st s := Ze_b (i := (.ifCond .lt 14)) (len := 3) (by decide +kernel) rfl
theorem x46_189 : Ze d 46 189 [aR r, l1, l2, l3, l4] st s = Ze d 46 190 [aR r, l1, l2, l3, l4] (aR r :: st) s := Ze_n (i := (.aload_n 0)) (len := 1) (by decide +kernel) rfl
theorem x46_190 : Ze d 46 190 [l0, aI z, l2, l3, l4] st s = Ze d 46 191 [l0, aI z, l2, l3, l4] (aI z :: st) s := Ze_n (i := (.iload_n 1)) (len := 1) (by decide +kernel) rfl
theorem x46_191 (h : obC r = 0) : Ze d 46 191 [l0, l1, l2, l3, l4] (aI z :: aR r :: st) s = Ze d 46 194 [l0, l1, l2, l3, l4] st (mu s r 3 z) := Ze_n (i := .putfield 13) (len := 3) (by decide +kernel) (if_pos h)
theorem x46_194 : Ze d 46 194 [aR r, l1, l2, l3, l4] st s = Ze d 46 195 [aR r, l1, l2, l3, l4] (aR r :: st) s := Ze_n (i := (.aload_n 0)) (len := 1) (by decide +kernel) rfl
theorem x46_195 : Ze d 46 195 [l0, l1, l2, l3, l4] st s = Ze d 46 196 [l0, l1, l2, l3, l4] (aI 5 :: st) s := Ze_n (i := (.iconst 5)) (len := 1) (by decide +kernel) rfl
theorem x46_196 (h : obC r = 0) (h6 : st.length ≤ 4) : Ze d 46 196 [l0, l1, l2, l3, l4] (aI a1 :: aR r :: st) s = zcI (Zc d 2 [aR r, aI a1] s) d 46 199 [l0, l1, l2, l3, l4] st := Ze_cvI (idx := 187) (len := 3) (as := [aI a1]) (by decide +kernel) rfl (by decide +kernel) rfl h h6
theorem x46_199 : Ze d 46 199 [l0, l1, l2, l3, l4] [aI z] s = rI z s := Ze_i1 (by decide +kernel) rfl
theorem x46_200 : Ze d 46 200 [aR r, l1, l2, l3, l4] st s = Ze d 46 201 [aR r, l1, l2, l3, l4] (aR r :: st) s := Ze_n (i := (.aload_n 0)) (len := 1) (by decide +kernel) rfl
theorem x46_201 : Ze d 46 201 [l0, l1, l2, l3, l4] st s = Ze d 46 202 [l0, l1, l2, l3, l4] (aI 0 :: st) s := Ze_n (i := (.iconst 0)) (len := 1) (by decide +kernel) rfl
theorem x46_202 (h : obC r = 0) : Ze d 46 202 [l0, l1, l2, l3, l4] (aI z :: aR r :: st) s = Ze d 46 205 [l0, l1, l2, l3, l4] st (mu s r 4 z) := Ze_n (i := .putfield 180) (len := 3) (by decide +kernel) (if_pos h)
theorem x46_205 : Ze d 46 205 [aR r, l1, l2, l3, l4] st s = Ze d 46 206 [aR r, l1, l2, l3, l4] (aR r :: st) s := Ze_n (i := (.aload_n 0)) (len := 1) (by decide +kernel) rfl
theorem x46_206 (h : obC r = 0) (h6 : st.length ≤ 4) : Ze d 46 206 [l0, l1, l2, l3, l4] (aR r :: st) s = zcV (Zc d 45 [aR r] s) d 46 209 [l0, l1, l2, l3, l4] st := Ze_cvV (idx := 380) (len := 3) (as := []) (by decide +kernel) rfl (by decide +kernel) rfl h h6
theorem x46_209 : Ze d 46 209 [aR r, l1, l2, l3, l4] st s = Ze d 46 210 [aR r, l1, l2, l3, l4] (aR r :: st) s := Ze_n (i := (.aload_n 0)) (len := 1) (by decide +kernel) rfl
theorem x46_210 (h : obC r = 0) (h6 : st.length ≤ 4) : Ze d 46 210 [l0, l1, l2, l3, l4] (aR r :: st) s = zcV (Zc d 51 [aR r] s) d 46 213 [l0, l1, l2, l3, l4] st := Ze_cvV (idx := 383) (len := 3) (as := []) (by decide +kernel) rfl (by decide +kernel) rfl h h6
theorem x46_213 : Ze d 46 213 [aR r, l1, l2, l3, l4] st s = Ze d 46 214 [aR r, l1, l2, l3, l4] (aR r :: st) s := Ze_n (i := (.aload_n 0)) (len := 1) (by decide +kernel) rfl
theorem x46_214 (h : obC r = 0) : Ze d 46 214 [l0, l1, l2, l3, l4] (aR r :: st) s = Ze d 46 217 [l0, l1, l2, l3, l4] (aI (s r 50) :: st) s := Ze_gf (len := 3) (idx := 303) (by decide +kernel) rfl h rfl
theorem x46_217 : Ze d 46 217 [l0, l1, l2, l3, l4] [aI z] s = rI z s := Ze_i1 (by decide +kernel) rfl
theorem en46 : Zc (d + 1) 46 [aR r] s = Ze d 46 0 [aR r, aU, aU, aU, aU] [] s := rfl
theorem x47_0 : Ze d 47 0 [aR r] st s = Ze d 47 1 [aR r] (aR r :: st) s := Ze_n (i := (.aload_n 0)) (len := 1) (by decide +kernel) rfl
theorem x47_1 : Ze d 47 1 [l0] st s = Ze d 47 2 [l0] (aI 0 :: st) s := Ze_n (i := (.iconst 0)) (len := 1) (by decide +kernel) rfl
theorem x47_2 (h : obC r = 0) : Ze d 47 2 [l0] (aI z :: aR r :: st) s = Ze d 47 5 [l0] st (mu s r 4 z) := Ze_n (i := .putfield 180) (len := 3) (by decide +kernel) (if_pos h)
theorem x47_5 : Ze d 47 5 [aR r] st s = Ze d 47 6 [aR r] (aR r :: st) s := Ze_n (i := (.aload_n 0)) (len := 1) (by decide +kernel) rfl
theorem x47_6 (h : obC r = 0) : Ze d 47 6 [l0] (aR r :: st) s = Ze d 47 9 [l0] (aI (s r 3) :: st) s := Ze_gf (len := 3) (idx := 13) (by decide +kernel) rfl h rfl
theorem x47_9 : Ze d 47 9 [l0] [aI z] s = rI z s := Ze_i1 (by decide +kernel) rfl
theorem en47 : Zc (d + 1) 47 [aR r] s = Ze d 47 0 [aR r] [] s := rfl
theorem x48_0 : Ze d 48 0 [l0] st s = Ze d 48 1 [l0] (aI 1 :: st) s := Ze_n (i := (.iconst 1)) (len := 1) (by decide +kernel) rfl
theorem x48_1 : Ze d 48 1 [aI z] st s = Ze d 48 2 [aI z] (aI z :: st) s := Ze_n (i := (.iload_n 0)) (len := 1) (by decide +kernel) rfl
theorem x48_2 : Ze d 48 2 [l0] (aI b :: aI a :: st) s = Ze d 48 3 [l0] (aI (ishl a b) :: st) s := Ze_n (i := .ishl) (len := 1) (by decide +kernel) rfl
theorem x48_3 : Ze d 48 3 [l0] st s = Ze d 48 4 [l0] (aI 1 :: st) s := Ze_n (i := (.iconst 1)) (len := 1) (by decide +kernel) rfl
theorem x48_4 : Ze d 48 4 [l0] (aI b :: aI a :: st) s = Ze d 48 5 [l0] (aI (wrap (a - b)) :: st) s := Ze_n (i := .isub) (len := 1) (by decide +kernel) rfl
theorem x48_5 : Ze d 48 5 [l0] [aI z] s = rI z s := Ze_i1 (by decide +kernel) rfl
theorem en48 : Zc (d + 1) 48 [aI a0] s = Ze d 48 0 [aI a0] [] s := rfl
