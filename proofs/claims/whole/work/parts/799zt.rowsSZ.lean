variable {d r q : Nat} {l0 l1 l2 l3 l4 l5 l6 l7 l8 l9 l10 l11 l12 l13 l14 l15 : AV} {st : List AV} {s : Mem} {a b z i n dp sp a0 a1 a2 a3 a4 a5 a6 : Int} {r0 r1 r2 r3 r4 : Nat}
theorem x117_0 : Ze d 117 0 [l0, l1, l2] st s = Ze d 117 2 [l0, l1, l2] (aI 25 :: st) s := Ze_n (i := (.bipush 25)) (len := 2) (by decide +kernel) rfl
theorem x117_2 : Ze d 117 2 [l0, l1, l2] (aI z :: st) s = Ze d 117 3 [l0, l1, aI z] st s := Ze_n (i := (.istore_n 2)) (len := 1) (by decide +kernel) rfl
theorem x117_3 : Ze d 117 3 [l0, l1, aI z] st s = Ze d 117 4 [l0, l1, aI z] (aI z :: st) s := Ze_n (i := (.iload_n 2)) (len := 1) (by decide +kernel) rfl
theorem x117_4 : Ze d 117 4 [aR r, l1, l2] st s = Ze d 117 5 [aR r, l1, l2] (aR r :: st) s := Ze_n (i := (.aload_n 0)) (len := 1) (by decide +kernel) rfl
theorem x117_5 (h : obC r = 6) : Ze d 117 5 [l0, l1, l2] (aR r :: st) s = Ze d 117 8 [l0, l1, l2] (aI (s r 7) :: st) s := Ze_gf (len := 3) (idx := 33) (by decide +kernel) rfl h rfl
theorem x117_8 : Ze d 117 8 [l0, l1, l2] (aI b :: aI a :: st) s = if a < b then Ze d 117 11 [l0, l1, l2] st s else Ze d 117 42 [l0, l1, l2] st s := Ze_b (i := (.if_icmp .ge 34)) (len := 3) (by decide +kernel) rfl
theorem x117_11 : Ze d 117 11 [aR r, l1, l2] st s = Ze d 117 12 [aR r, l1, l2] (aR r :: st) s := Ze_n (i := (.aload_n 0)) (len := 1) (by decide +kernel) rfl
theorem x117_12 (h : obC r = 6) : Ze d 117 12 [l0, l1, l2] (aR r :: st) s = Ze d 117 15 [l0, l1, l2] (aR (fcn r 5) :: st) s := Ze_gf (len := 3) (idx := 27) (by decide +kernel) rfl h rfl
theorem x117_15 : Ze d 117 15 [l0, l1, aI z] st s = Ze d 117 16 [l0, l1, aI z] (aI z :: st) s := Ze_n (i := (.iload_n 2)) (len := 1) (by decide +kernel) rfl
theorem x117_16 : Ze d 117 16 [aR r, l1, l2] st s = Ze d 117 17 [aR r, l1, l2] (aR r :: st) s := Ze_n (i := (.aload_n 0)) (len := 1) (by decide +kernel) rfl
theorem x117_17 : Ze d 117 17 [l0, l1, aI z] st s = Ze d 117 18 [l0, l1, aI z] (aI z :: st) s := Ze_n (i := (.iload_n 2)) (len := 1) (by decide +kernel) rfl
theorem x117_18 : Ze d 117 18 [l0, aR r, l2] st s = Ze d 117 19 [l0, aR r, l2] (aR r :: st) s := Ze_n (i := (.aload_n 1)) (len := 1) (by decide +kernel) rfl
theorem x117_19 (h : obC r = 6) (h6 : st.length ≤ 4) : Ze d 117 19 [l0, l1, l2] (aR r2 :: aI a1 :: aR r :: st) s = zcI (Zc d 118 [aR r, aI a1, aR r2] s) d 117 22 [l0, l1, l2] st := Ze_cvI (idx := 41) (len := 3) (as := [aI a1, aR r2]) (by decide +kernel) rfl (by decide +kernel) rfl h h6
theorem x117_22 (h0 : 0 ≤ i) (h1 : i < aN1 r) : Ze d 117 22 [l0, l1, l2] (aI z :: aI i :: aR r :: st) s = Ze d 117 23 [l0, l1, l2] st (mu s r i.toNat z) := Ze_n (i := .iastore) (len := 1) (by decide +kernel) (if_pos ⟨h0, h1⟩)
theorem x117_23 : Ze d 117 23 [aR r, l1, l2] st s = Ze d 117 24 [aR r, l1, l2] (aR r :: st) s := Ze_n (i := (.aload_n 0)) (len := 1) (by decide +kernel) rfl
theorem x117_24 (h : obC r = 6) : Ze d 117 24 [l0, l1, l2] (aR r :: st) s = Ze d 117 27 [l0, l1, l2] (aR (fcn r 5) :: st) s := Ze_gf (len := 3) (idx := 27) (by decide +kernel) rfl h rfl
theorem x117_27 : Ze d 117 27 [l0, l1, aI z] st s = Ze d 117 28 [l0, l1, aI z] (aI z :: st) s := Ze_n (i := (.iload_n 2)) (len := 1) (by decide +kernel) rfl
theorem x117_28 (h0 : 0 ≤ i) (h1 : i < aN1 r) : Ze d 117 28 [l0, l1, l2] (aI i :: aR r :: st) s = Ze d 117 29 [l0, l1, l2] (aI (s r i.toNat) :: st) s := Ze_n (i := .iaload) (len := 1) (by decide +kernel) (if_pos ⟨h0, h1⟩)
theorem x117_29 : Ze d 117 29 [l0, l1, l2] st s = Ze d 117 31 [l0, l1, l2] (aI 16 :: st) s := Ze_n (i := (.bipush 16)) (len := 2) (by decide +kernel) rfl
theorem x117_31 : Ze d 117 31 [l0, l1, l2] (aI b :: aI a :: st) s = if b < a then Ze d 117 34 [l0, l1, l2] st s else Ze d 117 36 [l0, l1, l2] st s := Ze_b (i := (.if_icmp .le 5)) (len := 3) (by decide +kernel) rfl
theorem x117_34 : Ze d 117 34 [l0, l1, l2] st s = Ze d 117 35 [l0, l1, l2] (aI 0 :: st) s := Ze_n (i := (.iconst 0)) (len := 1) (by decide +kernel) rfl
theorem x117_35 (h : z = 0 ∨ z = 1) : Ze d 117 35 [l0, l1, l2] [aI z] s = rI z s := Ze_i2 (by decide +kernel) rfl h
theorem x117_36 : Ze d 117 36 [l0, l1, aI z] st s = Ze d 117 39 [l0, l1, aI (wrap (z + 1))] st s := Ze_n (i := (.iinc 2 1)) (len := 3) (by decide +kernel) rfl
theorem x117_39 : Ze d 117 39 [l0, l1, l2] st s = Ze d 117 3 [l0, l1, l2] st s := Ze_n (i := (.goto (-36))) (len := 3) (by decide +kernel) rfl
theorem x117_42 : Ze d 117 42 [l0, l1, l2] st s = Ze d 117 43 [l0, l1, l2] (aI 1 :: st) s := Ze_n (i := (.iconst 1)) (len := 1) (by decide +kernel) rfl
theorem x117_43 (h : z = 0 ∨ z = 1) : Ze d 117 43 [l0, l1, l2] [aI z] s = rI z s := Ze_i2 (by decide +kernel) rfl h
theorem en117 : Zc (d + 1) 117 [aR r, aR r1] s = Ze d 117 0 [aR r, aR r1, aU] [] s := rfl
theorem x118_0 : Ze d 118 0 [aR r, l1, l2] st s = Ze d 118 1 [aR r, l1, l2] (aR r :: st) s := Ze_n (i := (.aload_n 0)) (len := 1) (by decide +kernel) rfl
theorem x118_1 (h : obC r = 6) : Ze d 118 1 [l0, l1, l2] (aR r :: st) s = Ze d 118 4 [l0, l1, l2] (aR (fcn r 0) :: st) s := Ze_gf (len := 3) (idx := 9) (by decide +kernel) rfl h rfl
theorem x118_4 : Ze d 118 4 [l0, aI z, l2] st s = Ze d 118 5 [l0, aI z, l2] (aI z :: st) s := Ze_n (i := (.iload_n 1)) (len := 1) (by decide +kernel) rfl
theorem x118_5 (h0 : 0 ≤ i) (h1 : i < aN1 r) : Ze d 118 5 [l0, l1, l2] (aI i :: aR r :: st) s = Ze d 118 6 [l0, l1, l2] (aI (s r i.toNat) :: st) s := Ze_n (i := .iaload) (len := 1) (by decide +kernel) (if_pos ⟨h0, h1⟩)
theorem x118_6 : Ze d 118 6 [l0, l1, l2] (aI a :: st) s = if a = 2 then Ze d 118 88 [l0, l1, l2] st s else if a = 5 then Ze d 118 98 [l0, l1, l2] st s else if a = 33 then Ze d 118 123 [l0, l1, l2] st s else if a = 35 then Ze d 118 137 [l0, l1, l2] st s else if a = 43 then Ze d 118 161 [l0, l1, l2] st s else if a = 60 then Ze d 118 135 [l0, l1, l2] st s else if a = 61 then Ze d 118 135 [l0, l1, l2] st s else if a = 77 then Ze d 118 189 [l0, l1, l2] st s else if a = 84 then Ze d 118 107 [l0, l1, l2] st s else Ze d 118 215 [l0, l1, l2] st s :=
  Ze_lk (dflt := 209) (ps := #[(2, 82), (5, 92), (33, 117), (35, 131), (43, 155), (60, 129), (61, 129), (77, 183), (84, 101)]) (len := 82) (ks := [(2, 88), (5, 98), (33, 123), (35, 137), (43, 161), (60, 135), (61, 135), (77, 189), (84, 107)]) (df := 215) (by decide +kernel) (by decide +kernel) (by decide +kernel)
theorem x118_88 : Ze d 118 88 [aR r, l1, l2] st s = Ze d 118 89 [aR r, l1, l2] (aR r :: st) s := Ze_n (i := (.aload_n 0)) (len := 1) (by decide +kernel) rfl
theorem x118_89 (h : obC r = 6) : Ze d 118 89 [l0, l1, l2] (aR r :: st) s = Ze d 118 92 [l0, l1, l2] (aR (fcn r 1) :: st) s := Ze_gf (len := 3) (idx := 15) (by decide +kernel) rfl h rfl
theorem x118_92 : Ze d 118 92 [l0, aI z, l2] st s = Ze d 118 93 [l0, aI z, l2] (aI z :: st) s := Ze_n (i := (.iload_n 1)) (len := 1) (by decide +kernel) rfl
theorem x118_93 (h0 : 0 ≤ i) (h1 : i < aN1 r) : Ze d 118 93 [l0, l1, l2] (aI i :: aR r :: st) s = Ze d 118 94 [l0, l1, l2] (aI (s r i.toNat) :: st) s := Ze_n (i := .iaload) (len := 1) (by decide +kernel) (if_pos ⟨h0, h1⟩)
theorem x118_94 (h6 : st.length ≤ 4) : Ze d 118 94 [l0, l1, l2] (aI a0 :: st) s = zcI (Zc d 119 [aI a0] s) d 118 97 [l0, l1, l2] st := Ze_csI (idx := 45) (len := 3) (as := [aI a0]) (by decide +kernel) rfl rfl (by decide +kernel) rfl h6
theorem x118_97 : Ze d 118 97 [l0, l1, l2] [aI z] s = rI z s := Ze_i1 (by decide +kernel) rfl
theorem x118_98 : Ze d 118 98 [l0, l1, aR r] st s = Ze d 118 99 [l0, l1, aR r] (aR r :: st) s := Ze_n (i := (.aload_n 2)) (len := 1) (by decide +kernel) rfl
theorem x118_99 : Ze d 118 99 [aR r, l1, l2] st s = Ze d 118 100 [aR r, l1, l2] (aR r :: st) s := Ze_n (i := (.aload_n 0)) (len := 1) (by decide +kernel) rfl
theorem x118_100 (h : obC r = 6) : Ze d 118 100 [l0, l1, l2] (aR r :: st) s = Ze d 118 103 [l0, l1, l2] (aR (fcn r 1) :: st) s := Ze_gf (len := 3) (idx := 15) (by decide +kernel) rfl h rfl
theorem x118_103 : Ze d 118 103 [l0, aI z, l2] st s = Ze d 118 104 [l0, aI z, l2] (aI z :: st) s := Ze_n (i := (.iload_n 1)) (len := 1) (by decide +kernel) rfl
theorem x118_104 (h0 : 0 ≤ i) (h1 : i < aN1 r) : Ze d 118 104 [l0, l1, l2] (aI i :: aR r :: st) s = Ze d 118 105 [l0, l1, l2] (aI (s r i.toNat) :: st) s := Ze_n (i := .iaload) (len := 1) (by decide +kernel) (if_pos ⟨h0, h1⟩)
theorem x118_105 (h0 : 0 ≤ i) (h1 : i < aN1 r) : Ze d 118 105 [l0, l1, l2] (aI i :: aR r :: st) s = Ze d 118 106 [l0, l1, l2] (aI (s r i.toNat) :: st) s := Ze_n (i := .iaload) (len := 1) (by decide +kernel) (if_pos ⟨h0, h1⟩)
theorem x118_106 : Ze d 118 106 [l0, l1, l2] [aI z] s = rI z s := Ze_i1 (by decide +kernel) rfl
theorem x118_107 : Ze d 118 107 [aR r, l1, l2] st s = Ze d 118 108 [aR r, l1, l2] (aR r :: st) s := Ze_n (i := (.aload_n 0)) (len := 1) (by decide +kernel) rfl
theorem x118_108 (h : obC r = 6) : Ze d 118 108 [l0, l1, l2] (aR r :: st) s = Ze d 118 111 [l0, l1, l2] (aR (fcn r 2) :: st) s := Ze_gf (len := 3) (idx := 18) (by decide +kernel) rfl h rfl
theorem x118_111 : Ze d 118 111 [l0, aI z, l2] st s = Ze d 118 112 [l0, aI z, l2] (aI z :: st) s := Ze_n (i := (.iload_n 1)) (len := 1) (by decide +kernel) rfl
theorem x118_112 (h0 : 0 ≤ i) (h1 : i < aN1 r) : Ze d 118 112 [l0, l1, l2] (aI i :: aR r :: st) s = Ze d 118 113 [l0, l1, l2] (aI (s r i.toNat) :: st) s := Ze_n (i := .iaload) (len := 1) (by decide +kernel) (if_pos ⟨h0, h1⟩)
theorem x118_113 : Ze d 118 113 [aR r, l1, l2] st s = Ze d 118 114 [aR r, l1, l2] (aR r :: st) s := Ze_n (i := (.aload_n 0)) (len := 1) (by decide +kernel) rfl
theorem x118_114 (h : obC r = 6) : Ze d 118 114 [l0, l1, l2] (aR r :: st) s = Ze d 118 117 [l0, l1, l2] (aR (fcn r 3) :: st) s := Ze_gf (len := 3) (idx := 21) (by decide +kernel) rfl h rfl
theorem x118_117 : Ze d 118 117 [l0, aI z, l2] st s = Ze d 118 118 [l0, aI z, l2] (aI z :: st) s := Ze_n (i := (.iload_n 1)) (len := 1) (by decide +kernel) rfl
theorem x118_118 (h0 : 0 ≤ i) (h1 : i < aN1 r) : Ze d 118 118 [l0, l1, l2] (aI i :: aR r :: st) s = Ze d 118 119 [l0, l1, l2] (aI (s r i.toNat) :: st) s := Ze_n (i := .iaload) (len := 1) (by decide +kernel) (if_pos ⟨h0, h1⟩)
theorem x118_119 : Ze d 118 119 [l0, l1, l2] (aI b :: aI a :: st) s = Ze d 118 120 [l0, l1, l2] (aI (wrap (a - b)) :: st) s := Ze_n (i := .isub) (len := 1) (by decide +kernel) rfl
theorem x118_120 : Ze d 118 120 [l0, l1, l2] st s = Ze d 118 121 [l0, l1, l2] (aI 1 :: st) s := Ze_n (i := (.iconst 1)) (len := 1) (by decide +kernel) rfl
theorem x118_121 : Ze d 118 121 [l0, l1, l2] (aI b :: aI a :: st) s = Ze d 118 122 [l0, l1, l2] (aI (wrap (a + b)) :: st) s := Ze_n (i := .iadd) (len := 1) (by decide +kernel) rfl
theorem x118_122 : Ze d 118 122 [l0, l1, l2] [aI z] s = rI z s := Ze_i1 (by decide +kernel) rfl
theorem x118_123 : Ze d 118 123 [aR r, l1, l2] st s = Ze d 118 124 [aR r, l1, l2] (aR r :: st) s := Ze_n (i := (.aload_n 0)) (len := 1) (by decide +kernel) rfl
theorem x118_124 (h : obC r = 6) : Ze d 118 124 [l0, l1, l2] (aR r :: st) s = Ze d 118 127 [l0, l1, l2] (aR (fcn r 5) :: st) s := Ze_gf (len := 3) (idx := 27) (by decide +kernel) rfl h rfl
theorem x118_127 : Ze d 118 127 [aR r, l1, l2] st s = Ze d 118 128 [aR r, l1, l2] (aR r :: st) s := Ze_n (i := (.aload_n 0)) (len := 1) (by decide +kernel) rfl
theorem x118_128 (h : obC r = 6) : Ze d 118 128 [l0, l1, l2] (aR r :: st) s = Ze d 118 131 [l0, l1, l2] (aR (fcn r 1) :: st) s := Ze_gf (len := 3) (idx := 15) (by decide +kernel) rfl h rfl
theorem x118_131 : Ze d 118 131 [l0, aI z, l2] st s = Ze d 118 132 [l0, aI z, l2] (aI z :: st) s := Ze_n (i := (.iload_n 1)) (len := 1) (by decide +kernel) rfl
theorem x118_132 (h0 : 0 ≤ i) (h1 : i < aN1 r) : Ze d 118 132 [l0, l1, l2] (aI i :: aR r :: st) s = Ze d 118 133 [l0, l1, l2] (aI (s r i.toNat) :: st) s := Ze_n (i := .iaload) (len := 1) (by decide +kernel) (if_pos ⟨h0, h1⟩)
theorem x118_133 (h0 : 0 ≤ i) (h1 : i < aN1 r) : Ze d 118 133 [l0, l1, l2] (aI i :: aR r :: st) s = Ze d 118 134 [l0, l1, l2] (aI (s r i.toNat) :: st) s := Ze_n (i := .iaload) (len := 1) (by decide +kernel) (if_pos ⟨h0, h1⟩)
theorem x118_134 : Ze d 118 134 [l0, l1, l2] [aI z] s = rI z s := Ze_i1 (by decide +kernel) rfl
theorem x118_135 : Ze d 118 135 [l0, l1, l2] st s = Ze d 118 136 [l0, l1, l2] (aI 1 :: st) s := Ze_n (i := (.iconst 1)) (len := 1) (by decide +kernel) rfl
theorem x118_136 : Ze d 118 136 [l0, l1, l2] [aI z] s = rI z s := Ze_i1 (by decide +kernel) rfl
theorem x118_137 : Ze d 118 137 [aR r, l1, l2] st s = Ze d 118 138 [aR r, l1, l2] (aR r :: st) s := Ze_n (i := (.aload_n 0)) (len := 1) (by decide +kernel) rfl
theorem x118_138 (h : obC r = 6) : Ze d 118 138 [l0, l1, l2] (aR r :: st) s = Ze d 118 141 [l0, l1, l2] (aR (fcn r 5) :: st) s := Ze_gf (len := 3) (idx := 27) (by decide +kernel) rfl h rfl
theorem x118_141 : Ze d 118 141 [aR r, l1, l2] st s = Ze d 118 142 [aR r, l1, l2] (aR r :: st) s := Ze_n (i := (.aload_n 0)) (len := 1) (by decide +kernel) rfl
theorem x118_142 (h : obC r = 6) : Ze d 118 142 [l0, l1, l2] (aR r :: st) s = Ze d 118 145 [l0, l1, l2] (aR (fcn r 1) :: st) s := Ze_gf (len := 3) (idx := 15) (by decide +kernel) rfl h rfl
theorem x118_145 : Ze d 118 145 [l0, aI z, l2] st s = Ze d 118 146 [l0, aI z, l2] (aI z :: st) s := Ze_n (i := (.iload_n 1)) (len := 1) (by decide +kernel) rfl
theorem x118_146 (h0 : 0 ≤ i) (h1 : i < aN1 r) : Ze d 118 146 [l0, l1, l2] (aI i :: aR r :: st) s = Ze d 118 147 [l0, l1, l2] (aI (s r i.toNat) :: st) s := Ze_n (i := .iaload) (len := 1) (by decide +kernel) (if_pos ⟨h0, h1⟩)
theorem x118_147 (h0 : 0 ≤ i) (h1 : i < aN1 r) : Ze d 118 147 [l0, l1, l2] (aI i :: aR r :: st) s = Ze d 118 148 [l0, l1, l2] (aI (s r i.toNat) :: st) s := Ze_n (i := .iaload) (len := 1) (by decide +kernel) (if_pos ⟨h0, h1⟩)
theorem x118_148 : Ze d 118 148 [aR r, l1, l2] st s = Ze d 118 149 [aR r, l1, l2] (aR r :: st) s := Ze_n (i := (.aload_n 0)) (len := 1) (by decide +kernel) rfl
theorem x118_149 (h : obC r = 6) : Ze d 118 149 [l0, l1, l2] (aR r :: st) s = Ze d 118 152 [l0, l1, l2] (aR (fcn r 5) :: st) s := Ze_gf (len := 3) (idx := 27) (by decide +kernel) rfl h rfl
theorem x118_152 : Ze d 118 152 [aR r, l1, l2] st s = Ze d 118 153 [aR r, l1, l2] (aR r :: st) s := Ze_n (i := (.aload_n 0)) (len := 1) (by decide +kernel) rfl
theorem x118_153 (h : obC r = 6) : Ze d 118 153 [l0, l1, l2] (aR r :: st) s = Ze d 118 156 [l0, l1, l2] (aR (fcn r 2) :: st) s := Ze_gf (len := 3) (idx := 18) (by decide +kernel) rfl h rfl
theorem x118_156 : Ze d 118 156 [l0, aI z, l2] st s = Ze d 118 157 [l0, aI z, l2] (aI z :: st) s := Ze_n (i := (.iload_n 1)) (len := 1) (by decide +kernel) rfl
theorem x118_157 (h0 : 0 ≤ i) (h1 : i < aN1 r) : Ze d 118 157 [l0, l1, l2] (aI i :: aR r :: st) s = Ze d 118 158 [l0, l1, l2] (aI (s r i.toNat) :: st) s := Ze_n (i := .iaload) (len := 1) (by decide +kernel) (if_pos ⟨h0, h1⟩)
theorem x118_158 (h0 : 0 ≤ i) (h1 : i < aN1 r) : Ze d 118 158 [l0, l1, l2] (aI i :: aR r :: st) s = Ze d 118 159 [l0, l1, l2] (aI (s r i.toNat) :: st) s := Ze_n (i := .iaload) (len := 1) (by decide +kernel) (if_pos ⟨h0, h1⟩)
theorem x118_159 : Ze d 118 159 [l0, l1, l2] (aI b :: aI a :: st) s = Ze d 118 160 [l0, l1, l2] (aI (wrap (a + b)) :: st) s := Ze_n (i := .iadd) (len := 1) (by decide +kernel) rfl
theorem x118_160 : Ze d 118 160 [l0, l1, l2] [aI z] s = rI z s := Ze_i1 (by decide +kernel) rfl
theorem x118_161 : Ze d 118 161 [aR r, l1, l2] st s = Ze d 118 162 [aR r, l1, l2] (aR r :: st) s := Ze_n (i := (.aload_n 0)) (len := 1) (by decide +kernel) rfl
theorem x118_162 (h : obC r = 6) : Ze d 118 162 [l0, l1, l2] (aR r :: st) s = Ze d 118 165 [l0, l1, l2] (aR (fcn r 5) :: st) s := Ze_gf (len := 3) (idx := 27) (by decide +kernel) rfl h rfl
theorem x118_165 : Ze d 118 165 [aR r, l1, l2] st s = Ze d 118 166 [aR r, l1, l2] (aR r :: st) s := Ze_n (i := (.aload_n 0)) (len := 1) (by decide +kernel) rfl
theorem x118_166 (h : obC r = 6) : Ze d 118 166 [l0, l1, l2] (aR r :: st) s = Ze d 118 169 [l0, l1, l2] (aR (fcn r 1) :: st) s := Ze_gf (len := 3) (idx := 15) (by decide +kernel) rfl h rfl
theorem x118_169 : Ze d 118 169 [l0, aI z, l2] st s = Ze d 118 170 [l0, aI z, l2] (aI z :: st) s := Ze_n (i := (.iload_n 1)) (len := 1) (by decide +kernel) rfl
theorem x118_170 (h0 : 0 ≤ i) (h1 : i < aN1 r) : Ze d 118 170 [l0, l1, l2] (aI i :: aR r :: st) s = Ze d 118 171 [l0, l1, l2] (aI (s r i.toNat) :: st) s := Ze_n (i := .iaload) (len := 1) (by decide +kernel) (if_pos ⟨h0, h1⟩)
theorem x118_171 (h0 : 0 ≤ i) (h1 : i < aN1 r) : Ze d 118 171 [l0, l1, l2] (aI i :: aR r :: st) s = Ze d 118 172 [l0, l1, l2] (aI (s r i.toNat) :: st) s := Ze_n (i := .iaload) (len := 1) (by decide +kernel) (if_pos ⟨h0, h1⟩)
theorem x118_172 : Ze d 118 172 [aR r, l1, l2] st s = Ze d 118 173 [aR r, l1, l2] (aR r :: st) s := Ze_n (i := (.aload_n 0)) (len := 1) (by decide +kernel) rfl
theorem x118_173 (h : obC r = 6) : Ze d 118 173 [l0, l1, l2] (aR r :: st) s = Ze d 118 176 [l0, l1, l2] (aR (fcn r 5) :: st) s := Ze_gf (len := 3) (idx := 27) (by decide +kernel) rfl h rfl
theorem x118_176 : Ze d 118 176 [aR r, l1, l2] st s = Ze d 118 177 [aR r, l1, l2] (aR r :: st) s := Ze_n (i := (.aload_n 0)) (len := 1) (by decide +kernel) rfl
theorem x118_177 (h : obC r = 6) : Ze d 118 177 [l0, l1, l2] (aR r :: st) s = Ze d 118 180 [l0, l1, l2] (aR (fcn r 2) :: st) s := Ze_gf (len := 3) (idx := 18) (by decide +kernel) rfl h rfl
theorem x118_180 : Ze d 118 180 [l0, aI z, l2] st s = Ze d 118 181 [l0, aI z, l2] (aI z :: st) s := Ze_n (i := (.iload_n 1)) (len := 1) (by decide +kernel) rfl
theorem x118_181 (h0 : 0 ≤ i) (h1 : i < aN1 r) : Ze d 118 181 [l0, l1, l2] (aI i :: aR r :: st) s = Ze d 118 182 [l0, l1, l2] (aI (s r i.toNat) :: st) s := Ze_n (i := .iaload) (len := 1) (by decide +kernel) (if_pos ⟨h0, h1⟩)
theorem x118_182 (h0 : 0 ≤ i) (h1 : i < aN1 r) : Ze d 118 182 [l0, l1, l2] (aI i :: aR r :: st) s = Ze d 118 183 [l0, l1, l2] (aI (s r i.toNat) :: st) s := Ze_n (i := .iaload) (len := 1) (by decide +kernel) (if_pos ⟨h0, h1⟩)
theorem x118_183 (h6 : st.length ≤ 4) : Ze d 118 183 [l0, l1, l2] (aI b :: aI a :: st) s = Ze d 118 186 [l0, l1, l2] (aI (max a b) :: st) s := Ze_n (i := (.invokestatic 49)) (len := 3) (by decide +kernel) (if_pos h6)
theorem x118_186 : Ze d 118 186 [l0, l1, l2] st s = Ze d 118 187 [l0, l1, l2] (aI 1 :: st) s := Ze_n (i := (.iconst 1)) (len := 1) (by decide +kernel) rfl
theorem x118_187 : Ze d 118 187 [l0, l1, l2] (aI b :: aI a :: st) s = Ze d 118 188 [l0, l1, l2] (aI (wrap (a + b)) :: st) s := Ze_n (i := .iadd) (len := 1) (by decide +kernel) rfl
theorem x118_188 : Ze d 118 188 [l0, l1, l2] [aI z] s = rI z s := Ze_i1 (by decide +kernel) rfl
theorem x118_189 : Ze d 118 189 [aR r, l1, l2] st s = Ze d 118 190 [aR r, l1, l2] (aR r :: st) s := Ze_n (i := (.aload_n 0)) (len := 1) (by decide +kernel) rfl
theorem x118_190 (h : obC r = 6) : Ze d 118 190 [l0, l1, l2] (aR r :: st) s = Ze d 118 193 [l0, l1, l2] (aR (fcn r 5) :: st) s := Ze_gf (len := 3) (idx := 27) (by decide +kernel) rfl h rfl
theorem x118_193 : Ze d 118 193 [aR r, l1, l2] st s = Ze d 118 194 [aR r, l1, l2] (aR r :: st) s := Ze_n (i := (.aload_n 0)) (len := 1) (by decide +kernel) rfl
theorem x118_194 (h : obC r = 6) : Ze d 118 194 [l0, l1, l2] (aR r :: st) s = Ze d 118 197 [l0, l1, l2] (aR (fcn r 2) :: st) s := Ze_gf (len := 3) (idx := 18) (by decide +kernel) rfl h rfl
theorem x118_197 : Ze d 118 197 [l0, aI z, l2] st s = Ze d 118 198 [l0, aI z, l2] (aI z :: st) s := Ze_n (i := (.iload_n 1)) (len := 1) (by decide +kernel) rfl
theorem x118_198 (h0 : 0 ≤ i) (h1 : i < aN1 r) : Ze d 118 198 [l0, l1, l2] (aI i :: aR r :: st) s = Ze d 118 199 [l0, l1, l2] (aI (s r i.toNat) :: st) s := Ze_n (i := .iaload) (len := 1) (by decide +kernel) (if_pos ⟨h0, h1⟩)
theorem x118_199 (h0 : 0 ≤ i) (h1 : i < aN1 r) : Ze d 118 199 [l0, l1, l2] (aI i :: aR r :: st) s = Ze d 118 200 [l0, l1, l2] (aI (s r i.toNat) :: st) s := Ze_n (i := .iaload) (len := 1) (by decide +kernel) (if_pos ⟨h0, h1⟩)
theorem x118_200 : Ze d 118 200 [aR r, l1, l2] st s = Ze d 118 201 [aR r, l1, l2] (aR r :: st) s := Ze_n (i := (.aload_n 0)) (len := 1) (by decide +kernel) rfl
theorem x118_201 (h : obC r = 6) : Ze d 118 201 [l0, l1, l2] (aR r :: st) s = Ze d 118 204 [l0, l1, l2] (aR (fcn r 5) :: st) s := Ze_gf (len := 3) (idx := 27) (by decide +kernel) rfl h rfl
theorem x118_204 : Ze d 118 204 [aR r, l1, l2] st s = Ze d 118 205 [aR r, l1, l2] (aR r :: st) s := Ze_n (i := (.aload_n 0)) (len := 1) (by decide +kernel) rfl
theorem x118_205 (h : obC r = 6) : Ze d 118 205 [l0, l1, l2] (aR r :: st) s = Ze d 118 208 [l0, l1, l2] (aR (fcn r 3) :: st) s := Ze_gf (len := 3) (idx := 21) (by decide +kernel) rfl h rfl
theorem x118_208 : Ze d 118 208 [l0, aI z, l2] st s = Ze d 118 209 [l0, aI z, l2] (aI z :: st) s := Ze_n (i := (.iload_n 1)) (len := 1) (by decide +kernel) rfl
theorem x118_209 (h0 : 0 ≤ i) (h1 : i < aN1 r) : Ze d 118 209 [l0, l1, l2] (aI i :: aR r :: st) s = Ze d 118 210 [l0, l1, l2] (aI (s r i.toNat) :: st) s := Ze_n (i := .iaload) (len := 1) (by decide +kernel) (if_pos ⟨h0, h1⟩)
theorem x118_210 (h0 : 0 ≤ i) (h1 : i < aN1 r) : Ze d 118 210 [l0, l1, l2] (aI i :: aR r :: st) s = Ze d 118 211 [l0, l1, l2] (aI (s r i.toNat) :: st) s := Ze_n (i := .iaload) (len := 1) (by decide +kernel) (if_pos ⟨h0, h1⟩)
theorem x118_211 (h6 : st.length ≤ 4) : Ze d 118 211 [l0, l1, l2] (aI b :: aI a :: st) s = Ze d 118 214 [l0, l1, l2] (aI (max a b) :: st) s := Ze_n (i := (.invokestatic 49)) (len := 3) (by decide +kernel) (if_pos h6)
theorem x118_214 : Ze d 118 214 [l0, l1, l2] [aI z] s = rI z s := Ze_i1 (by decide +kernel) rfl
theorem x118_215 : Ze d 118 215 [aR r, l1, l2] st s = Ze d 118 216 [aR r, l1, l2] (aR r :: st) s := Ze_n (i := (.aload_n 0)) (len := 1) (by decide +kernel) rfl
theorem x118_216 (h : obC r = 6) : Ze d 118 216 [l0, l1, l2] (aR r :: st) s = Ze d 118 219 [l0, l1, l2] (aR (fcn r 5) :: st) s := Ze_gf (len := 3) (idx := 27) (by decide +kernel) rfl h rfl
theorem x118_219 : Ze d 118 219 [aR r, l1, l2] st s = Ze d 118 220 [aR r, l1, l2] (aR r :: st) s := Ze_n (i := (.aload_n 0)) (len := 1) (by decide +kernel) rfl
theorem x118_220 (h : obC r = 6) : Ze d 118 220 [l0, l1, l2] (aR r :: st) s = Ze d 118 223 [l0, l1, l2] (aR (fcn r 1) :: st) s := Ze_gf (len := 3) (idx := 15) (by decide +kernel) rfl h rfl
theorem x118_223 : Ze d 118 223 [l0, aI z, l2] st s = Ze d 118 224 [l0, aI z, l2] (aI z :: st) s := Ze_n (i := (.iload_n 1)) (len := 1) (by decide +kernel) rfl
theorem x118_224 (h0 : 0 ≤ i) (h1 : i < aN1 r) : Ze d 118 224 [l0, l1, l2] (aI i :: aR r :: st) s = Ze d 118 225 [l0, l1, l2] (aI (s r i.toNat) :: st) s := Ze_n (i := .iaload) (len := 1) (by decide +kernel) (if_pos ⟨h0, h1⟩)
theorem x118_225 (h0 : 0 ≤ i) (h1 : i < aN1 r) : Ze d 118 225 [l0, l1, l2] (aI i :: aR r :: st) s = Ze d 118 226 [l0, l1, l2] (aI (s r i.toNat) :: st) s := Ze_n (i := .iaload) (len := 1) (by decide +kernel) (if_pos ⟨h0, h1⟩)
theorem x118_226 : Ze d 118 226 [aR r, l1, l2] st s = Ze d 118 227 [aR r, l1, l2] (aR r :: st) s := Ze_n (i := (.aload_n 0)) (len := 1) (by decide +kernel) rfl
theorem x118_227 (h : obC r = 6) : Ze d 118 227 [l0, l1, l2] (aR r :: st) s = Ze d 118 230 [l0, l1, l2] (aR (fcn r 5) :: st) s := Ze_gf (len := 3) (idx := 27) (by decide +kernel) rfl h rfl
theorem x118_230 : Ze d 118 230 [aR r, l1, l2] st s = Ze d 118 231 [aR r, l1, l2] (aR r :: st) s := Ze_n (i := (.aload_n 0)) (len := 1) (by decide +kernel) rfl
theorem x118_231 (h : obC r = 6) : Ze d 118 231 [l0, l1, l2] (aR r :: st) s = Ze d 118 234 [l0, l1, l2] (aR (fcn r 2) :: st) s := Ze_gf (len := 3) (idx := 18) (by decide +kernel) rfl h rfl
theorem x118_234 : Ze d 118 234 [l0, aI z, l2] st s = Ze d 118 235 [l0, aI z, l2] (aI z :: st) s := Ze_n (i := (.iload_n 1)) (len := 1) (by decide +kernel) rfl
theorem x118_235 (h0 : 0 ≤ i) (h1 : i < aN1 r) : Ze d 118 235 [l0, l1, l2] (aI i :: aR r :: st) s = Ze d 118 236 [l0, l1, l2] (aI (s r i.toNat) :: st) s := Ze_n (i := .iaload) (len := 1) (by decide +kernel) (if_pos ⟨h0, h1⟩)
theorem x118_236 (h0 : 0 ≤ i) (h1 : i < aN1 r) : Ze d 118 236 [l0, l1, l2] (aI i :: aR r :: st) s = Ze d 118 237 [l0, l1, l2] (aI (s r i.toNat) :: st) s := Ze_n (i := .iaload) (len := 1) (by decide +kernel) (if_pos ⟨h0, h1⟩)
theorem x118_237 (h6 : st.length ≤ 4) : Ze d 118 237 [l0, l1, l2] (aI b :: aI a :: st) s = Ze d 118 240 [l0, l1, l2] (aI (max a b) :: st) s := Ze_n (i := (.invokestatic 49)) (len := 3) (by decide +kernel) (if_pos h6)
theorem x118_240 : Ze d 118 240 [l0, l1, l2] [aI z] s = rI z s := Ze_i1 (by decide +kernel) rfl
theorem en118 : Zc (d + 1) 118 [aR r, aI a1, aR r2] s = Ze d 118 0 [aR r, aI a1, aR r2] [] s := rfl
theorem x119_0 : Ze d 119 0 [l0, l1] st s = Ze d 119 1 [l0, l1] (aI 1 :: st) s := Ze_n (i := (.iconst 1)) (len := 1) (by decide +kernel) rfl
theorem x119_1 : Ze d 119 1 [l0, l1] (aI z :: st) s = Ze d 119 2 [l0, aI z] st s := Ze_n (i := (.istore_n 1)) (len := 1) (by decide +kernel) rfl
theorem x119_2 : Ze d 119 2 [l0, aI z] st s = Ze d 119 3 [l0, aI z] (aI z :: st) s := Ze_n (i := (.iload_n 1)) (len := 1) (by decide +kernel) rfl
theorem x119_3 : Ze d 119 3 [l0, l1] st s = Ze d 119 5 [l0, l1] (aI 16 :: st) s := Ze_n (i := (.bipush 16)) (len := 2) (by decide +kernel) rfl
theorem x119_5 : Ze d 119 5 [l0, l1] (aI b :: aI a :: st) s = if a < b then Ze d 119 8 [l0, l1] st s else Ze d 119 20 [l0, l1] st s := Ze_b (i := (.if_icmp .ge 15)) (len := 3) (by decide +kernel) rfl
theorem x119_8 : Ze d 119 8 [aI z, l1] st s = Ze d 119 9 [aI z, l1] (aI z :: st) s := Ze_n (i := (.iload_n 0)) (len := 1) (by decide +kernel) rfl
theorem x119_9 : Ze d 119 9 [l0, aI z] st s = Ze d 119 10 [l0, aI z] (aI z :: st) s := Ze_n (i := (.iload_n 1)) (len := 1) (by decide +kernel) rfl
theorem x119_10 : Ze d 119 10 [l0, l1] (aI b :: aI a :: st) s = Ze d 119 11 [l0, l1] (aI (ishr a b) :: st) s := Ze_n (i := .ishr) (len := 1) (by decide +kernel) rfl
theorem x119_11 : Ze d 119 11 [l0, l1] (aI a :: st) s = if a = 0 then Ze d 119 20 [l0, l1] st s else Ze d 119 14 [l0, l1] st s := Ze_b (i := (.ifCond .eq 9)) (len := 3) (by decide +kernel) rfl
theorem x119_14 : Ze d 119 14 [l0, aI z] st s = Ze d 119 17 [l0, aI (wrap (z + 1))] st s := Ze_n (i := (.iinc 1 1)) (len := 3) (by decide +kernel) rfl
theorem x119_17 : Ze d 119 17 [l0, l1] st s = Ze d 119 2 [l0, l1] st s := Ze_n (i := (.goto (-15))) (len := 3) (by decide +kernel) rfl
theorem x119_20 : Ze d 119 20 [l0, aI z] st s = Ze d 119 21 [l0, aI z] (aI z :: st) s := Ze_n (i := (.iload_n 1)) (len := 1) (by decide +kernel) rfl
theorem x119_21 : Ze d 119 21 [l0, l1] [aI z] s = rI z s := Ze_i1 (by decide +kernel) rfl
theorem en119 : Zc (d + 1) 119 [aI a0] s = Ze d 119 0 [aI a0, aU] [] s := rfl
theorem x149_0 : Ze d 149 0 [l0, aR r, l2, l3, l4] st s = Ze d 149 1 [l0, aR r, l2, l3, l4] (aR r :: st) s := Ze_n (i := (.aload_n 1)) (len := 1) (by decide +kernel) rfl
theorem x149_1 (h : obC r = 3) : Ze d 149 1 [l0, l1, l2, l3, l4] (aR r :: st) s = Ze d 149 4 [l0, l1, l2, l3, l4] (aR (fcn r 0) :: st) s := Ze_gf (len := 3) (idx := 19) (by decide +kernel) rfl h rfl
theorem x149_4 (h : obC r = 8) : Ze d 149 4 [l0, l1, l2, l3, l4] (aR r :: st) s = Ze d 149 7 [l0, l1, l2, l3, l4] (aR (fcn r 2) :: st) s := Ze_gf (len := 3) (idx := 25) (by decide +kernel) rfl h rfl
theorem x149_7 : Ze d 149 7 [l0, l1, l2, l3, l4] (aR r :: st) s = Ze d 149 8 [l0, l1, aR r, l3, l4] st s := Ze_n (i := (.astore_n 2)) (len := 1) (by decide +kernel) rfl
theorem x149_8 : Ze d 149 8 [l0, l1, l2, l3, l4] st s = Ze d 149 9 [l0, l1, l2, l3, l4] (aI 1 :: st) s := Ze_n (i := (.iconst 1)) (len := 1) (by decide +kernel) rfl
theorem x149_9 : Ze d 149 9 [l0, l1, l2, l3, l4] (aI z :: st) s = Ze d 149 10 [l0, l1, l2, aI z, l4] st s := Ze_n (i := (.istore_n 3)) (len := 1) (by decide +kernel) rfl
theorem x149_10 : Ze d 149 10 [l0, l1, l2, l3, l4] st s = Ze d 149 11 [l0, l1, l2, l3, l4] (aI 0 :: st) s := Ze_n (i := (.iconst 0)) (len := 1) (by decide +kernel) rfl
theorem x149_11 : Ze d 149 11 [l0, l1, l2, l3, l4] (aI z :: st) s = Ze d 149 13 [l0, l1, l2, l3, aI z] st s := Ze_n (i := (.istore 4)) (len := 2) (by decide +kernel) rfl
theorem x149_13 : Ze d 149 13 [l0, l1, l2, l3, aI z] st s = Ze d 149 15 [l0, l1, l2, l3, aI z] (aI z :: st) s := Ze_n (i := (.iload 4)) (len := 2) (by decide +kernel) rfl
theorem x149_15 : Ze d 149 15 [l0, l1, l2, l3, l4] st s = Ze d 149 18 [l0, l1, l2, l3, l4] (aI 385 :: st) s := Ze_n (i := (.sipush 385)) (len := 3) (by decide +kernel) rfl
theorem x149_18 : Ze d 149 18 [l0, l1, l2, l3, l4] (aI b :: aI a :: st) s = if a < b then Ze d 149 21 [l0, l1, l2, l3, l4] st s else Ze d 149 50 [l0, l1, l2, l3, l4] st s := Ze_b (i := (.if_icmp .ge 32)) (len := 3) (by decide +kernel) rfl
theorem x149_21 : Ze d 149 21 [l0, l1, l2, aI z, l4] st s = Ze d 149 22 [l0, l1, l2, aI z, l4] (aI z :: st) s := Ze_n (i := (.iload_n 3)) (len := 1) (by decide +kernel) rfl
theorem x149_22 : Ze d 149 22 [l0, l1, l2, l3, l4] (aI a :: st) s = if a = 0 then Ze d 149 50 [l0, l1, l2, l3, l4] st s else Ze d 149 25 [l0, l1, l2, l3, l4] st s := Ze_b (i := (.ifCond .eq 28)) (len := 3) (by decide +kernel) rfl
theorem x149_25 : Ze d 149 25 [l0, aR r, l2, l3, l4] st s = Ze d 149 26 [l0, aR r, l2, l3, l4] (aR r :: st) s := Ze_n (i := (.aload_n 1)) (len := 1) (by decide +kernel) rfl
theorem x149_26 (h : obC r = 3) : Ze d 149 26 [l0, l1, l2, l3, l4] (aR r :: st) s = Ze d 149 29 [l0, l1, l2, l3, l4] (aR (fcn r 1) :: st) s := Ze_gf (len := 3) (idx := 31) (by decide +kernel) rfl h rfl
theorem x149_29 : Ze d 149 29 [l0, l1, aR r, l3, l4] st s = Ze d 149 30 [l0, l1, aR r, l3, l4] (aR r :: st) s := Ze_n (i := (.aload_n 2)) (len := 1) (by decide +kernel) rfl
theorem x149_30 (h : obC r = 6) (h6 : st.length ≤ 4) : Ze d 149 30 [l0, l1, l2, l3, l4] (aR r1 :: aR r :: st) s = zcI (Zc d 117 [aR r, aR r1] s) d 149 33 [l0, l1, l2, l3, l4] st := Ze_cvI (idx := 35) (len := 3) (as := [aR r1]) (by decide +kernel) rfl (by decide +kernel) rfl h h6
theorem x149_33 : Ze d 149 33 [l0, l1, l2, l3, l4] (aI a :: st) s = if a = 0 then Ze d 149 36 [l0, l1, l2, l3, l4] st s else Ze d 149 38 [l0, l1, l2, l3, l4] st s := Ze_b (i := (.ifCond .ne 5)) (len := 3) (by decide +kernel) rfl
theorem x149_36 : Ze d 149 36 [l0, l1, l2, l3, l4] st s = Ze d 149 37 [l0, l1, l2, l3, l4] (aI 0 :: st) s := Ze_n (i := (.iconst 0)) (len := 1) (by decide +kernel) rfl
theorem x149_37 (h : z = 0 ∨ z = 1) : Ze d 149 37 [l0, l1, l2, l3, l4] [aI z] s = rI z s := Ze_i2 (by decide +kernel) rfl h
theorem x149_38 : Ze d 149 38 [aR r, l1, l2, l3, l4] st s = Ze d 149 39 [aR r, l1, l2, l3, l4] (aR r :: st) s := Ze_n (i := (.aload_n 0)) (len := 1) (by decide +kernel) rfl
theorem x149_39 : Ze d 149 39 [l0, aR r, l2, l3, l4] st s = Ze d 149 40 [l0, aR r, l2, l3, l4] (aR r :: st) s := Ze_n (i := (.aload_n 1)) (len := 1) (by decide +kernel) rfl
theorem x149_40 (h : obC r = 9) (h6 : st.length ≤ 4) : Ze d 149 40 [l0, l1, l2, l3, l4] (aR r1 :: aR r :: st) s = zcI (Zc d 150 [aR r, aR r1] s) d 149 43 [l0, l1, l2, l3, l4] st := Ze_cvI (idx := 41) (len := 3) (as := [aR r1]) (by decide +kernel) rfl (by decide +kernel) rfl h h6
theorem x149_43 : Ze d 149 43 [l0, l1, l2, l3, l4] (aI z :: st) s = Ze d 149 44 [l0, l1, l2, aI z, l4] st s := Ze_n (i := (.istore_n 3)) (len := 1) (by decide +kernel) rfl
theorem x149_44 : Ze d 149 44 [l0, l1, l2, l3, aI z] st s = Ze d 149 47 [l0, l1, l2, l3, aI (wrap (z + 1))] st s := Ze_n (i := (.iinc 4 1)) (len := 3) (by decide +kernel) rfl
theorem x149_47 : Ze d 149 47 [l0, l1, l2, l3, l4] st s = Ze d 149 13 [l0, l1, l2, l3, l4] st s := Ze_n (i := (.goto (-34))) (len := 3) (by decide +kernel) rfl
theorem x149_50 : Ze d 149 50 [l0, l1, l2, l3, l4] st s = Ze d 149 51 [l0, l1, l2, l3, l4] (aI 0 :: st) s := Ze_n (i := (.iconst 0)) (len := 1) (by decide +kernel) rfl
theorem x149_51 : Ze d 149 51 [l0, l1, l2, l3, l4] (aI z :: st) s = Ze d 149 53 [l0, l1, l2, l3, aI z] st s := Ze_n (i := (.istore 4)) (len := 2) (by decide +kernel) rfl
theorem x149_53 : Ze d 149 53 [l0, l1, l2, l3, aI z] st s = Ze d 149 55 [l0, l1, l2, l3, aI z] (aI z :: st) s := Ze_n (i := (.iload 4)) (len := 2) (by decide +kernel) rfl
theorem x149_55 : Ze d 149 55 [l0, aR r, l2, l3, l4] st s = Ze d 149 56 [l0, aR r, l2, l3, l4] (aR r :: st) s := Ze_n (i := (.aload_n 1)) (len := 1) (by decide +kernel) rfl
theorem x149_56 (h : obC r = 3) : Ze d 149 56 [l0, l1, l2, l3, l4] (aR r :: st) s = Ze d 149 59 [l0, l1, l2, l3, l4] (aR (fcn r 0) :: st) s := Ze_gf (len := 3) (idx := 19) (by decide +kernel) rfl h rfl
theorem x149_59 (h : obC r = 8) : Ze d 149 59 [l0, l1, l2, l3, l4] (aR r :: st) s = Ze d 149 62 [l0, l1, l2, l3, l4] (aI (s r 6) :: st) s := Ze_gf (len := 3) (idx := 45) (by decide +kernel) rfl h rfl
theorem x149_62 : Ze d 149 62 [l0, l1, l2, l3, l4] (aI b :: aI a :: st) s = if a < b then Ze d 149 65 [l0, l1, l2, l3, l4] st s else Ze d 149 80 [l0, l1, l2, l3, l4] st s := Ze_b (i := (.if_icmp .ge 18)) (len := 3) (by decide +kernel) rfl
theorem x149_65 : Ze d 149 65 [l0, l1, aR r, l3, l4] st s = Ze d 149 66 [l0, l1, aR r, l3, l4] (aR r :: st) s := Ze_n (i := (.aload_n 2)) (len := 1) (by decide +kernel) rfl
theorem x149_66 : Ze d 149 66 [l0, l1, l2, l3, aI z] st s = Ze d 149 68 [l0, l1, l2, l3, aI z] (aI z :: st) s := Ze_n (i := (.iload 4)) (len := 2) (by decide +kernel) rfl
theorem x149_68 (h0 : 0 ≤ i) (h1 : i < aN1 r) : Ze d 149 68 [l0, l1, l2, l3, l4] (aI i :: aR r :: st) s = Ze d 149 69 [l0, l1, l2, l3, l4] (aI (s r i.toNat) :: st) s := Ze_n (i := .iaload) (len := 1) (by decide +kernel) (if_pos ⟨h0, h1⟩)
theorem x149_69 : Ze d 149 69 [l0, l1, l2, l3, l4] (aI a :: st) s = if a = 0 then Ze d 149 72 [l0, l1, l2, l3, l4] st s else Ze d 149 74 [l0, l1, l2, l3, l4] st s := Ze_b (i := (.ifCond .ne 5)) (len := 3) (by decide +kernel) rfl
theorem x149_72 : Ze d 149 72 [l0, l1, l2, l3, l4] st s = Ze d 149 73 [l0, l1, l2, l3, l4] (aI 0 :: st) s := Ze_n (i := (.iconst 0)) (len := 1) (by decide +kernel) rfl
theorem x149_73 (h : z = 0 ∨ z = 1) : Ze d 149 73 [l0, l1, l2, l3, l4] [aI z] s = rI z s := Ze_i2 (by decide +kernel) rfl h
theorem x149_74 : Ze d 149 74 [l0, l1, l2, l3, aI z] st s = Ze d 149 77 [l0, l1, l2, l3, aI (wrap (z + 1))] st s := Ze_n (i := (.iinc 4 1)) (len := 3) (by decide +kernel) rfl
theorem x149_77 : Ze d 149 77 [l0, l1, l2, l3, l4] st s = Ze d 149 53 [l0, l1, l2, l3, l4] st s := Ze_n (i := (.goto (-24))) (len := 3) (by decide +kernel) rfl
theorem x149_80 : Ze d 149 80 [l0, l1, l2, l3, l4] st s = Ze d 149 81 [l0, l1, l2, l3, l4] (aI 1 :: st) s := Ze_n (i := (.iconst 1)) (len := 1) (by decide +kernel) rfl
theorem x149_81 (h : z = 0 ∨ z = 1) : Ze d 149 81 [l0, l1, l2, l3, l4] [aI z] s = rI z s := Ze_i2 (by decide +kernel) rfl h
theorem en149 : Zc (d + 1) 149 [aR r, aR r1] s = Ze d 149 0 [aR r, aR r1, aU, aU, aU] [] s := rfl
theorem x150_0 : Ze d 150 0 [l0, l1, l2, l3] st s = Ze d 150 1 [l0, l1, l2, l3] (aI 0 :: st) s := Ze_n (i := (.iconst 0)) (len := 1) (by decide +kernel) rfl
theorem x150_1 : Ze d 150 1 [l0, l1, l2, l3] (aI z :: st) s = Ze d 150 2 [l0, l1, aI z, l3] st s := Ze_n (i := (.istore_n 2)) (len := 1) (by decide +kernel) rfl
theorem x150_2 : Ze d 150 2 [l0, l1, l2, l3] st s = Ze d 150 3 [l0, l1, l2, l3] (aI 0 :: st) s := Ze_n (i := (.iconst 0)) (len := 1) (by decide +kernel) rfl
theorem x150_3 : Ze d 150 3 [l0, l1, l2, l3] (aI z :: st) s = Ze d 150 4 [l0, l1, l2, aI z] st s := Ze_n (i := (.istore_n 3)) (len := 1) (by decide +kernel) rfl
theorem x150_4 : Ze d 150 4 [l0, l1, l2, aI z] st s = Ze d 150 5 [l0, l1, l2, aI z] (aI z :: st) s := Ze_n (i := (.iload_n 3)) (len := 1) (by decide +kernel) rfl
theorem x150_5 : Ze d 150 5 [aR r, l1, l2, l3] st s = Ze d 150 6 [aR r, l1, l2, l3] (aR r :: st) s := Ze_n (i := (.aload_n 0)) (len := 1) (by decide +kernel) rfl
theorem x150_6 (h : obC r = 9) : Ze d 150 6 [l0, l1, l2, l3] (aR r :: st) s = Ze d 150 9 [l0, l1, l2, l3] (aR (fcn r 0) :: st) s := Ze_gf (len := 3) (idx := 9) (by decide +kernel) rfl h rfl
theorem x150_9 (h : obC r = 10) : Ze d 150 9 [l0, l1, l2, l3] (aR r :: st) s = Ze d 150 12 [l0, l1, l2, l3] (aI (s r 4) :: st) s := Ze_gf (len := 3) (idx := 49) (by decide +kernel) rfl h rfl
theorem x150_12 : Ze d 150 12 [l0, l1, l2, l3] (aI b :: aI a :: st) s = if a < b then Ze d 150 15 [l0, l1, l2, l3] st s else Ze d 150 85 [l0, l1, l2, l3] st s := Ze_b (i := (.if_icmp .ge 73)) (len := 3) (by decide +kernel) rfl
theorem x150_15 : Ze d 150 15 [aR r, l1, l2, l3] st s = Ze d 150 16 [aR r, l1, l2, l3] (aR r :: st) s := Ze_n (i := (.aload_n 0)) (len := 1) (by decide +kernel) rfl
theorem x150_16 (h : obC r = 9) : Ze d 150 16 [l0, l1, l2, l3] (aR r :: st) s = Ze d 150 19 [l0, l1, l2, l3] (aR (fcn r 0) :: st) s := Ze_gf (len := 3) (idx := 9) (by decide +kernel) rfl h rfl
theorem x150_19 (h : obC r = 10) : Ze d 150 19 [l0, l1, l2, l3] (aR r :: st) s = Ze d 150 22 [l0, l1, l2, l3] (aR (fcn r 0) :: st) s := Ze_gf (len := 3) (idx := 52) (by decide +kernel) rfl h rfl
theorem x150_22 : Ze d 150 22 [l0, l1, l2, aI z] st s = Ze d 150 23 [l0, l1, l2, aI z] (aI z :: st) s := Ze_n (i := (.iload_n 3)) (len := 1) (by decide +kernel) rfl
theorem x150_23 (h0 : 0 ≤ i) (h1 : i < aN1 r) : Ze d 150 23 [l0, l1, l2, l3] (aI i :: aR r :: st) s = Ze d 150 24 [l0, l1, l2, l3] (aI (s r i.toNat) :: st) s := Ze_n (i := .iaload) (len := 1) (by decide +kernel) (if_pos ⟨h0, h1⟩)
theorem x150_24 : Ze d 150 24 [l0, l1, l2, l3] st s = Ze d 150 26 [l0, l1, l2, l3] (aI 78 :: st) s := Ze_n (i := (.bipush 78)) (len := 2) (by decide +kernel) rfl
theorem x150_26 : Ze d 150 26 [l0, l1, l2, l3] (aI b :: aI a :: st) s = if a = b then Ze d 150 29 [l0, l1, l2, l3] st s else Ze d 150 57 [l0, l1, l2, l3] st s := Ze_b (i := (.if_icmp .ne 31)) (len := 3) (by decide +kernel) rfl
theorem x150_29 : Ze d 150 29 [l0, l1, aI z, l3] st s = Ze d 150 30 [l0, l1, aI z, l3] (aI z :: st) s := Ze_n (i := (.iload_n 2)) (len := 1) (by decide +kernel) rfl
theorem x150_30 : Ze d 150 30 [l0, aR r, l2, l3] st s = Ze d 150 31 [l0, aR r, l2, l3] (aR r :: st) s := Ze_n (i := (.aload_n 1)) (len := 1) (by decide +kernel) rfl
theorem x150_31 : Ze d 150 31 [aR r, l1, l2, l3] st s = Ze d 150 32 [aR r, l1, l2, l3] (aR r :: st) s := Ze_n (i := (.aload_n 0)) (len := 1) (by decide +kernel) rfl
theorem x150_32 (h : obC r = 9) : Ze d 150 32 [l0, l1, l2, l3] (aR r :: st) s = Ze d 150 35 [l0, l1, l2, l3] (aR (fcn r 0) :: st) s := Ze_gf (len := 3) (idx := 9) (by decide +kernel) rfl h rfl
theorem x150_35 (h : obC r = 10) : Ze d 150 35 [l0, l1, l2, l3] (aR r :: st) s = Ze d 150 38 [l0, l1, l2, l3] (aR (fcn r 2) :: st) s := Ze_gf (len := 3) (idx := 55) (by decide +kernel) rfl h rfl
theorem x150_38 : Ze d 150 38 [l0, l1, l2, aI z] st s = Ze d 150 39 [l0, l1, l2, aI z] (aI z :: st) s := Ze_n (i := (.iload_n 3)) (len := 1) (by decide +kernel) rfl
theorem x150_39 (h0 : 0 ≤ i) (h1 : i < aN1 r) : Ze d 150 39 [l0, l1, l2, l3] (aI i :: aR r :: st) s = Ze d 150 40 [l0, l1, l2, l3] (aI (s r i.toNat) :: st) s := Ze_n (i := .iaload) (len := 1) (by decide +kernel) (if_pos ⟨h0, h1⟩)
theorem x150_40 : Ze d 150 40 [aR r, l1, l2, l3] st s = Ze d 150 41 [aR r, l1, l2, l3] (aR r :: st) s := Ze_n (i := (.aload_n 0)) (len := 1) (by decide +kernel) rfl
theorem x150_41 (h : obC r = 9) : Ze d 150 41 [l0, l1, l2, l3] (aR r :: st) s = Ze d 150 44 [l0, l1, l2, l3] (aR (fcn r 0) :: st) s := Ze_gf (len := 3) (idx := 9) (by decide +kernel) rfl h rfl
theorem x150_44 (h : obC r = 10) : Ze d 150 44 [l0, l1, l2, l3] (aR r :: st) s = Ze d 150 47 [l0, l1, l2, l3] (aR (fcn r 3) :: st) s := Ze_gf (len := 3) (idx := 58) (by decide +kernel) rfl h rfl
theorem x150_47 : Ze d 150 47 [l0, l1, l2, aI z] st s = Ze d 150 48 [l0, l1, l2, aI z] (aI z :: st) s := Ze_n (i := (.iload_n 3)) (len := 1) (by decide +kernel) rfl
theorem x150_48 (h0 : 0 ≤ i) (h1 : i < aN1 r) : Ze d 150 48 [l0, l1, l2, l3] (aI i :: aR r :: st) s = Ze d 150 49 [l0, l1, l2, l3] (aI (s r i.toNat) :: st) s := Ze_n (i := .iaload) (len := 1) (by decide +kernel) (if_pos ⟨h0, h1⟩)
theorem x150_49 (h6 : st.length ≤ 4) : Ze d 150 49 [l0, l1, l2, l3] (aI a2 :: aI a1 :: aR r0 :: st) s = zcI (Zc d 152 [aR r0, aI a1, aI a2] s) d 150 52 [l0, l1, l2, l3] st := Ze_csI (idx := 61) (len := 3) (as := [aR r0, aI a1, aI a2]) (by decide +kernel) rfl rfl (by decide +kernel) rfl h6
theorem x150_52 : Ze d 150 52 [l0, l1, l2, l3] (aI b :: aI a :: st) s = Ze d 150 53 [l0, l1, l2, l3] (aI (ior a b) :: st) s := Ze_n (i := .ior) (len := 1) (by decide +kernel) rfl
theorem x150_53 : Ze d 150 53 [l0, l1, l2, l3] (aI z :: st) s = Ze d 150 54 [l0, l1, aI z, l3] st s := Ze_n (i := (.istore_n 2)) (len := 1) (by decide +kernel) rfl
theorem x150_54 : Ze d 150 54 [l0, l1, l2, l3] st s = Ze d 150 79 [l0, l1, l2, l3] st s := Ze_n (i := (.goto 25)) (len := 3) (by decide +kernel) rfl
theorem x150_57 : Ze d 150 57 [aR r, l1, l2, l3] st s = Ze d 150 58 [aR r, l1, l2, l3] (aR r :: st) s := Ze_n (i := (.aload_n 0)) (len := 1) (by decide +kernel) rfl
theorem x150_58 (h : obC r = 9) : Ze d 150 58 [l0, l1, l2, l3] (aR r :: st) s = Ze d 150 61 [l0, l1, l2, l3] (aR (fcn r 0) :: st) s := Ze_gf (len := 3) (idx := 9) (by decide +kernel) rfl h rfl
theorem x150_61 (h : obC r = 10) : Ze d 150 61 [l0, l1, l2, l3] (aR r :: st) s = Ze d 150 64 [l0, l1, l2, l3] (aR (fcn r 0) :: st) s := Ze_gf (len := 3) (idx := 52) (by decide +kernel) rfl h rfl
theorem x150_64 : Ze d 150 64 [l0, l1, l2, aI z] st s = Ze d 150 65 [l0, l1, l2, aI z] (aI z :: st) s := Ze_n (i := (.iload_n 3)) (len := 1) (by decide +kernel) rfl
theorem x150_65 (h0 : 0 ≤ i) (h1 : i < aN1 r) : Ze d 150 65 [l0, l1, l2, l3] (aI i :: aR r :: st) s = Ze d 150 66 [l0, l1, l2, l3] (aI (s r i.toNat) :: st) s := Ze_n (i := .iaload) (len := 1) (by decide +kernel) (if_pos ⟨h0, h1⟩)
theorem x150_66 : Ze d 150 66 [l0, l1, l2, l3] st s = Ze d 150 67 [l0, l1, l2, l3] (aI 3 :: st) s := Ze_n (i := (.iconst 3)) (len := 1) (by decide +kernel) rfl
theorem x150_67 : Ze d 150 67 [l0, l1, l2, l3] (aI b :: aI a :: st) s = if a = b then Ze d 150 70 [l0, l1, l2, l3] st s else Ze d 150 79 [l0, l1, l2, l3] st s := Ze_b (i := (.if_icmp .ne 12)) (len := 3) (by decide +kernel) rfl
theorem x150_70 : Ze d 150 70 [l0, l1, aI z, l3] st s = Ze d 150 71 [l0, l1, aI z, l3] (aI z :: st) s := Ze_n (i := (.iload_n 2)) (len := 1) (by decide +kernel) rfl
theorem x150_71 : Ze d 150 71 [aR r, l1, l2, l3] st s = Ze d 150 72 [aR r, l1, l2, l3] (aR r :: st) s := Ze_n (i := (.aload_n 0)) (len := 1) (by decide +kernel) rfl
theorem x150_72 : Ze d 150 72 [l0, aR r, l2, l3] st s = Ze d 150 73 [l0, aR r, l2, l3] (aR r :: st) s := Ze_n (i := (.aload_n 1)) (len := 1) (by decide +kernel) rfl
theorem x150_73 : Ze d 150 73 [l0, l1, l2, aI z] st s = Ze d 150 74 [l0, l1, l2, aI z] (aI z :: st) s := Ze_n (i := (.iload_n 3)) (len := 1) (by decide +kernel) rfl
theorem x150_74 (h : obC r = 9) (h6 : st.length ≤ 4) : Ze d 150 74 [l0, l1, l2, l3] (aI a2 :: aR r1 :: aR r :: st) s = zcI (Zc d 151 [aR r, aR r1, aI a2] s) d 150 77 [l0, l1, l2, l3] st := Ze_cvI (idx := 65) (len := 3) (as := [aR r1, aI a2]) (by decide +kernel) rfl (by decide +kernel) rfl h h6
theorem x150_77 : Ze d 150 77 [l0, l1, l2, l3] (aI b :: aI a :: st) s = Ze d 150 78 [l0, l1, l2, l3] (aI (ior a b) :: st) s := Ze_n (i := .ior) (len := 1) (by decide +kernel) rfl
theorem x150_78 : Ze d 150 78 [l0, l1, l2, l3] (aI z :: st) s = Ze d 150 79 [l0, l1, aI z, l3] st s := Ze_n (i := (.istore_n 2)) (len := 1) (by decide +kernel) rfl
theorem x150_79 : Ze d 150 79 [l0, l1, l2, aI z] st s = Ze d 150 82 [l0, l1, l2, aI (wrap (z + 1))] st s := Ze_n (i := (.iinc 3 1)) (len := 3) (by decide +kernel) rfl
theorem x150_82 : Ze d 150 82 [l0, l1, l2, l3] st s = Ze d 150 4 [l0, l1, l2, l3] st s := Ze_n (i := (.goto (-78))) (len := 3) (by decide +kernel) rfl
theorem x150_85 : Ze d 150 85 [l0, l1, aI z, l3] st s = Ze d 150 86 [l0, l1, aI z, l3] (aI z :: st) s := Ze_n (i := (.iload_n 2)) (len := 1) (by decide +kernel) rfl
theorem x150_86 (h : z = 0 ∨ z = 1) : Ze d 150 86 [l0, l1, l2, l3] [aI z] s = rI z s := Ze_i2 (by decide +kernel) rfl h
theorem en150 : Zc (d + 1) 150 [aR r, aR r1] s = Ze d 150 0 [aR r, aR r1, aU, aU] [] s := rfl
theorem x151_0 : Ze d 151 0 [l0, l1, l2, l3, l4, l5, l6] st s = Ze d 151 1 [l0, l1, l2, l3, l4, l5, l6] (aI 0 :: st) s := Ze_n (i := (.iconst 0)) (len := 1) (by decide +kernel) rfl
theorem x151_1 : Ze d 151 1 [l0, l1, l2, l3, l4, l5, l6] (aI z :: st) s = Ze d 151 2 [l0, l1, l2, aI z, l4, l5, l6] st s := Ze_n (i := (.istore_n 3)) (len := 1) (by decide +kernel) rfl
theorem x151_2 : Ze d 151 2 [aR r, l1, l2, l3, l4, l5, l6] st s = Ze d 151 3 [aR r, l1, l2, l3, l4, l5, l6] (aR r :: st) s := Ze_n (i := (.aload_n 0)) (len := 1) (by decide +kernel) rfl
theorem x151_3 (h : obC r = 9) : Ze d 151 3 [l0, l1, l2, l3, l4, l5, l6] (aR r :: st) s = Ze d 151 6 [l0, l1, l2, l3, l4, l5, l6] (aR (fcn r 1) :: st) s := Ze_gf (len := 3) (idx := 15) (by decide +kernel) rfl h rfl
theorem x151_6 : Ze d 151 6 [l0, aR r, l2, l3, l4, l5, l6] st s = Ze d 151 7 [l0, aR r, l2, l3, l4, l5, l6] (aR r :: st) s := Ze_n (i := (.aload_n 1)) (len := 1) (by decide +kernel) rfl
theorem x151_7 : Ze d 151 7 [l0, l1, aI z, l3, l4, l5, l6] st s = Ze d 151 8 [l0, l1, aI z, l3, l4, l5, l6] (aI z :: st) s := Ze_n (i := (.iload_n 2)) (len := 1) (by decide +kernel) rfl
theorem x151_8 (h : obC r = 4) (h6 : st.length ≤ 4) : Ze d 151 8 [l0, l1, l2, l3, l4, l5, l6] (aI a2 :: aR r1 :: aR r :: st) s = zcI (Zc d 98 [aR r, aR r1, aI a2] s) d 151 11 [l0, l1, l2, l3, l4, l5, l6] st := Ze_cvI (idx := 69) (len := 3) (as := [aR r1, aI a2]) (by decide +kernel) rfl (by decide +kernel) rfl h h6
theorem x151_11 : Ze d 151 11 [l0, l1, l2, l3, l4, l5, l6] (aI z :: st) s = Ze d 151 13 [l0, l1, l2, l3, aI z, l5, l6] st s := Ze_n (i := (.istore 4)) (len := 2) (by decide +kernel) rfl
theorem x151_13 : Ze d 151 13 [l0, l1, l2, l3, l4, l5, l6] st s = Ze d 151 14 [l0, l1, l2, l3, l4, l5, l6] (aI 0 :: st) s := Ze_n (i := (.iconst 0)) (len := 1) (by decide +kernel) rfl
theorem x151_14 : Ze d 151 14 [l0, l1, l2, l3, l4, l5, l6] (aI z :: st) s = Ze d 151 16 [l0, l1, l2, l3, l4, aI z, l6] st s := Ze_n (i := (.istore 5)) (len := 2) (by decide +kernel) rfl
theorem x151_16 : Ze d 151 16 [l0, l1, l2, l3, l4, aI z, l6] st s = Ze d 151 18 [l0, l1, l2, l3, l4, aI z, l6] (aI z :: st) s := Ze_n (i := (.iload 5)) (len := 2) (by decide +kernel) rfl
theorem x151_18 : Ze d 151 18 [l0, l1, l2, l3, aI z, l5, l6] st s = Ze d 151 20 [l0, l1, l2, l3, aI z, l5, l6] (aI z :: st) s := Ze_n (i := (.iload 4)) (len := 2) (by decide +kernel) rfl
theorem x151_20 : Ze d 151 20 [l0, l1, l2, l3, l4, l5, l6] (aI b :: aI a :: st) s = if a < b then Ze d 151 23 [l0, l1, l2, l3, l4, l5, l6] st s else Ze d 151 75 [l0, l1, l2, l3, l4, l5, l6] st s := Ze_b (i := (.if_icmp .ge 55)) (len := 3) (by decide +kernel) rfl
theorem x151_23 : Ze d 151 23 [aR r, l1, l2, l3, l4, l5, l6] st s = Ze d 151 24 [aR r, l1, l2, l3, l4, l5, l6] (aR r :: st) s := Ze_n (i := (.aload_n 0)) (len := 1) (by decide +kernel) rfl
theorem x151_24 (h : obC r = 9) : Ze d 151 24 [l0, l1, l2, l3, l4, l5, l6] (aR r :: st) s = Ze d 151 27 [l0, l1, l2, l3, l4, l5, l6] (aR (fcn r 1) :: st) s := Ze_gf (len := 3) (idx := 15) (by decide +kernel) rfl h rfl
theorem x151_27 : Ze d 151 27 [l0, aR r, l2, l3, l4, l5, l6] st s = Ze d 151 28 [l0, aR r, l2, l3, l4, l5, l6] (aR r :: st) s := Ze_n (i := (.aload_n 1)) (len := 1) (by decide +kernel) rfl
theorem x151_28 : Ze d 151 28 [l0, l1, aI z, l3, l4, l5, l6] st s = Ze d 151 29 [l0, l1, aI z, l3, l4, l5, l6] (aI z :: st) s := Ze_n (i := (.iload_n 2)) (len := 1) (by decide +kernel) rfl
theorem x151_29 : Ze d 151 29 [l0, l1, l2, l3, l4, aI z, l6] st s = Ze d 151 31 [l0, l1, l2, l3, l4, aI z, l6] (aI z :: st) s := Ze_n (i := (.iload 5)) (len := 2) (by decide +kernel) rfl
theorem x151_31 (h : obC r = 4) (h6 : st.length ≤ 4) : Ze d 151 31 [l0, l1, l2, l3, l4, l5, l6] (aI a3 :: aI a2 :: aR r1 :: aR r :: st) s = zcI (Zc d 99 [aR r, aR r1, aI a2, aI a3] s) d 151 34 [l0, l1, l2, l3, l4, l5, l6] st := Ze_cvI (idx := 75) (len := 3) (as := [aR r1, aI a2, aI a3]) (by decide +kernel) rfl (by decide +kernel) rfl h h6
theorem x151_34 : Ze d 151 34 [l0, l1, l2, l3, l4, l5, l6] (aI z :: st) s = Ze d 151 36 [l0, l1, l2, l3, l4, l5, aI z] st s := Ze_n (i := (.istore 6)) (len := 2) (by decide +kernel) rfl
theorem x151_36 : Ze d 151 36 [l0, aR r, l2, l3, l4, l5, l6] st s = Ze d 151 37 [l0, aR r, l2, l3, l4, l5, l6] (aR r :: st) s := Ze_n (i := (.aload_n 1)) (len := 1) (by decide +kernel) rfl
theorem x151_37 (h : obC r = 3) : Ze d 151 37 [l0, l1, l2, l3, l4, l5, l6] (aR r :: st) s = Ze d 151 40 [l0, l1, l2, l3, l4, l5, l6] (aR (fcn r 0) :: st) s := Ze_gf (len := 3) (idx := 19) (by decide +kernel) rfl h rfl
theorem x151_40 (h : obC r = 8) : Ze d 151 40 [l0, l1, l2, l3, l4, l5, l6] (aR r :: st) s = Ze d 151 43 [l0, l1, l2, l3, l4, l5, l6] (aR (fcn r 5) :: st) s := Ze_gf (len := 3) (idx := 79) (by decide +kernel) rfl h rfl
theorem x151_43 : Ze d 151 43 [l0, l1, l2, l3, l4, l5, aI z] st s = Ze d 151 45 [l0, l1, l2, l3, l4, l5, aI z] (aI z :: st) s := Ze_n (i := (.iload 6)) (len := 2) (by decide +kernel) rfl
theorem x151_45 (h0 : 0 ≤ i) (h1 : i < aN2 r) : Ze d 151 45 [l0, l1, l2, l3, l4, l5, l6] (aI i :: aR r :: st) s = Ze d 151 46 [l0, l1, l2, l3, l4, l5, l6] (aI (s r i.toNat) :: st) s := Ze_n (i := .baload) (len := 1) (by decide +kernel) (if_pos ⟨h0, h1⟩)
theorem x151_46 : Ze d 151 46 [l0, l1, l2, l3, l4, l5, l6] (aI a :: st) s = if a = 0 then Ze d 151 69 [l0, l1, l2, l3, l4, l5, l6] st s else Ze d 151 49 [l0, l1, l2, l3, l4, l5, l6] st s := Ze_b (i := (.ifCond .eq 23)) (len := 3) (by decide +kernel) rfl
theorem x151_49 : Ze d 151 49 [l0, l1, l2, aI z, l4, l5, l6] st s = Ze d 151 50 [l0, l1, l2, aI z, l4, l5, l6] (aI z :: st) s := Ze_n (i := (.iload_n 3)) (len := 1) (by decide +kernel) rfl
theorem x151_50 : Ze d 151 50 [l0, aR r, l2, l3, l4, l5, l6] st s = Ze d 151 51 [l0, aR r, l2, l3, l4, l5, l6] (aR r :: st) s := Ze_n (i := (.aload_n 1)) (len := 1) (by decide +kernel) rfl
theorem x151_51 : Ze d 151 51 [l0, l1, l2, l3, l4, l5, aI z] st s = Ze d 151 53 [l0, l1, l2, l3, l4, l5, aI z] (aI z :: st) s := Ze_n (i := (.iload 6)) (len := 2) (by decide +kernel) rfl
theorem x151_53 : Ze d 151 53 [aR r, l1, l2, l3, l4, l5, l6] st s = Ze d 151 54 [aR r, l1, l2, l3, l4, l5, l6] (aR r :: st) s := Ze_n (i := (.aload_n 0)) (len := 1) (by decide +kernel) rfl
theorem x151_54 (h : obC r = 9) : Ze d 151 54 [l0, l1, l2, l3, l4, l5, l6] (aR r :: st) s = Ze d 151 57 [l0, l1, l2, l3, l4, l5, l6] (aR (fcn r 1) :: st) s := Ze_gf (len := 3) (idx := 15) (by decide +kernel) rfl h rfl
theorem x151_57 : Ze d 151 57 [l0, aR r, l2, l3, l4, l5, l6] st s = Ze d 151 58 [l0, aR r, l2, l3, l4, l5, l6] (aR r :: st) s := Ze_n (i := (.aload_n 1)) (len := 1) (by decide +kernel) rfl
theorem x151_58 : Ze d 151 58 [l0, l1, aI z, l3, l4, l5, l6] st s = Ze d 151 59 [l0, l1, aI z, l3, l4, l5, l6] (aI z :: st) s := Ze_n (i := (.iload_n 2)) (len := 1) (by decide +kernel) rfl
theorem x151_59 : Ze d 151 59 [l0, l1, l2, l3, l4, aI z, l6] st s = Ze d 151 61 [l0, l1, l2, l3, l4, aI z, l6] (aI z :: st) s := Ze_n (i := (.iload 5)) (len := 2) (by decide +kernel) rfl
theorem x151_61 (h : obC r = 4) (h6 : st.length ≤ 4) : Ze d 151 61 [l0, l1, l2, l3, l4, l5, l6] (aI a3 :: aI a2 :: aR r1 :: aR r :: st) s = zcI (Zc d 100 [aR r, aR r1, aI a2, aI a3] s) d 151 64 [l0, l1, l2, l3, l4, l5, l6] st := Ze_cvI (idx := 83) (len := 3) (as := [aR r1, aI a2, aI a3]) (by decide +kernel) rfl (by decide +kernel) rfl h h6
theorem x151_64 (h6 : st.length ≤ 4) : Ze d 151 64 [l0, l1, l2, l3, l4, l5, l6] (aI a2 :: aI a1 :: aR r0 :: st) s = zcI (Zc d 152 [aR r0, aI a1, aI a2] s) d 151 67 [l0, l1, l2, l3, l4, l5, l6] st := Ze_csI (idx := 61) (len := 3) (as := [aR r0, aI a1, aI a2]) (by decide +kernel) rfl rfl (by decide +kernel) rfl h6
theorem x151_67 : Ze d 151 67 [l0, l1, l2, l3, l4, l5, l6] (aI b :: aI a :: st) s = Ze d 151 68 [l0, l1, l2, l3, l4, l5, l6] (aI (ior a b) :: st) s := Ze_n (i := .ior) (len := 1) (by decide +kernel) rfl
theorem x151_68 : Ze d 151 68 [l0, l1, l2, l3, l4, l5, l6] (aI z :: st) s = Ze d 151 69 [l0, l1, l2, aI z, l4, l5, l6] st s := Ze_n (i := (.istore_n 3)) (len := 1) (by decide +kernel) rfl
theorem x151_69 : Ze d 151 69 [l0, l1, l2, l3, l4, aI z, l6] st s = Ze d 151 72 [l0, l1, l2, l3, l4, aI (wrap (z + 1)), l6] st s := Ze_n (i := (.iinc 5 1)) (len := 3) (by decide +kernel) rfl
theorem x151_72 : Ze d 151 72 [l0, l1, l2, l3, l4, l5, l6] st s = Ze d 151 16 [l0, l1, l2, l3, l4, l5, l6] st s := Ze_n (i := (.goto (-56))) (len := 3) (by decide +kernel) rfl
theorem x151_75 : Ze d 151 75 [l0, l1, l2, aI z, l4, l5, l6] st s = Ze d 151 76 [l0, l1, l2, aI z, l4, l5, l6] (aI z :: st) s := Ze_n (i := (.iload_n 3)) (len := 1) (by decide +kernel) rfl
theorem x151_76 (h : z = 0 ∨ z = 1) : Ze d 151 76 [l0, l1, l2, l3, l4, l5, l6] [aI z] s = rI z s := Ze_i2 (by decide +kernel) rfl h
theorem en151 : Zc (d + 1) 151 [aR r, aR r1, aI a2] s = Ze d 151 0 [aR r, aR r1, aI a2, aU, aU, aU, aU] [] s := rfl
theorem x152_0 : Ze d 152 0 [aR r, l1, l2, l3, l4] st s = Ze d 152 1 [aR r, l1, l2, l3, l4] (aR r :: st) s := Ze_n (i := (.aload_n 0)) (len := 1) (by decide +kernel) rfl
theorem x152_1 (h : obC r = 3) : Ze d 152 1 [l0, l1, l2, l3, l4] (aR r :: st) s = Ze d 152 4 [l0, l1, l2, l3, l4] (aR (fcn r 0) :: st) s := Ze_gf (len := 3) (idx := 19) (by decide +kernel) rfl h rfl
theorem x152_4 (h : obC r = 8) : Ze d 152 4 [l0, l1, l2, l3, l4] (aR r :: st) s = Ze d 152 7 [l0, l1, l2, l3, l4] (aR (fcn r 2) :: st) s := Ze_gf (len := 3) (idx := 25) (by decide +kernel) rfl h rfl
theorem x152_7 : Ze d 152 7 [l0, l1, l2, l3, l4] (aR r :: st) s = Ze d 152 8 [l0, l1, l2, aR r, l4] st s := Ze_n (i := (.astore_n 3)) (len := 1) (by decide +kernel) rfl
theorem x152_8 : Ze d 152 8 [l0, l1, aI z, l3, l4] st s = Ze d 152 9 [l0, l1, aI z, l3, l4] (aI z :: st) s := Ze_n (i := (.iload_n 2)) (len := 1) (by decide +kernel) rfl
theorem x152_9 : Ze d 152 9 [l0, l1, l2, l3, l4] st s = Ze d 152 11 [l0, l1, l2, l3, l4] (aI 24 :: st) s := Ze_n (i := (.bipush 24)) (len := 2) (by decide +kernel) rfl
theorem x152_11 : Ze d 152 11 [l0, l1, l2, l3, l4] (aI b :: aI a :: st) s = if a < b then Ze d 152 14 [l0, l1, l2, l3, l4] st s else Ze d 152 20 [l0, l1, l2, l3, l4] st s := Ze_b (i := (.if_icmp .ge 9)) (len := 3) (by decide +kernel) rfl
theorem x152_14 : Ze d 152 14 [l0, l1, l2, aR r, l4] st s = Ze d 152 15 [l0, l1, l2, aR r, l4] (aR r :: st) s := Ze_n (i := (.aload_n 3)) (len := 1) (by decide +kernel) rfl
theorem x152_15 : Ze d 152 15 [l0, l1, aI z, l3, l4] st s = Ze d 152 16 [l0, l1, aI z, l3, l4] (aI z :: st) s := Ze_n (i := (.iload_n 2)) (len := 1) (by decide +kernel) rfl
theorem x152_16 (h0 : 0 ≤ i) (h1 : i < aN1 r) : Ze d 152 16 [l0, l1, l2, l3, l4] (aI i :: aR r :: st) s = Ze d 152 17 [l0, l1, l2, l3, l4] (aI (s r i.toNat) :: st) s := Ze_n (i := .iaload) (len := 1) (by decide +kernel) (if_pos ⟨h0, h1⟩)
theorem x152_17 : Ze d 152 17 [l0, l1, l2, l3, l4] st s = Ze d 152 29 [l0, l1, l2, l3, l4] st s := Ze_n (i := (.goto 12)) (len := 3) (by decide +kernel) rfl
theorem x152_20 : Ze d 152 20 [aR r, l1, l2, l3, l4] st s = Ze d 152 21 [aR r, l1, l2, l3, l4] (aR r :: st) s := Ze_n (i := (.aload_n 0)) (len := 1) (by decide +kernel) rfl
theorem x152_21 (h : obC r = 3) : Ze d 152 21 [l0, l1, l2, l3, l4] (aR r :: st) s = Ze d 152 24 [l0, l1, l2, l3, l4] (aR (fcn r 1) :: st) s := Ze_gf (len := 3) (idx := 31) (by decide +kernel) rfl h rfl
theorem x152_24 (h : obC r = 6) : Ze d 152 24 [l0, l1, l2, l3, l4] (aR r :: st) s = Ze d 152 27 [l0, l1, l2, l3, l4] (aR (fcn r 5) :: st) s := Ze_gf (len := 3) (idx := 86) (by decide +kernel) rfl h rfl
theorem x152_27 : Ze d 152 27 [l0, l1, aI z, l3, l4] st s = Ze d 152 28 [l0, l1, aI z, l3, l4] (aI z :: st) s := Ze_n (i := (.iload_n 2)) (len := 1) (by decide +kernel) rfl
theorem x152_28 (h0 : 0 ≤ i) (h1 : i < aN1 r) : Ze d 152 28 [l0, l1, l2, l3, l4] (aI i :: aR r :: st) s = Ze d 152 29 [l0, l1, l2, l3, l4] (aI (s r i.toNat) :: st) s := Ze_n (i := .iaload) (len := 1) (by decide +kernel) (if_pos ⟨h0, h1⟩)
theorem x152_29 : Ze d 152 29 [l0, l1, l2, l3, l4] (aI z :: st) s = Ze d 152 31 [l0, l1, l2, l3, aI z] st s := Ze_n (i := (.istore 4)) (len := 2) (by decide +kernel) rfl
theorem x152_31 : Ze d 152 31 [l0, l1, l2, l3, aI z] st s = Ze d 152 33 [l0, l1, l2, l3, aI z] (aI z :: st) s := Ze_n (i := (.iload 4)) (len := 2) (by decide +kernel) rfl
theorem x152_33 : Ze d 152 33 [l0, l1, l2, aR r, l4] st s = Ze d 152 34 [l0, l1, l2, aR r, l4] (aR r :: st) s := Ze_n (i := (.aload_n 3)) (len := 1) (by decide +kernel) rfl
theorem x152_34 : Ze d 152 34 [l0, aI z, l2, l3, l4] st s = Ze d 152 35 [l0, aI z, l2, l3, l4] (aI z :: st) s := Ze_n (i := (.iload_n 1)) (len := 1) (by decide +kernel) rfl
theorem x152_35 (h0 : 0 ≤ i) (h1 : i < aN1 r) : Ze d 152 35 [l0, l1, l2, l3, l4] (aI i :: aR r :: st) s = Ze d 152 36 [l0, l1, l2, l3, l4] (aI (s r i.toNat) :: st) s := Ze_n (i := .iaload) (len := 1) (by decide +kernel) (if_pos ⟨h0, h1⟩)
theorem x152_36 : Ze d 152 36 [l0, l1, l2, l3, l4] (aI b :: aI a :: st) s = if b < a then Ze d 152 41 [l0, l1, l2, l3, l4] st s else Ze d 152 39 [l0, l1, l2, l3, l4] st s := Ze_b (i := (.if_icmp .gt 5)) (len := 3) (by decide +kernel) rfl
theorem x152_39 : Ze d 152 39 [l0, l1, l2, l3, l4] st s = Ze d 152 40 [l0, l1, l2, l3, l4] (aI 0 :: st) s := Ze_n (i := (.iconst 0)) (len := 1) (by decide +kernel) rfl
theorem x152_40 (h : z = 0 ∨ z = 1) : Ze d 152 40 [l0, l1, l2, l3, l4] [aI z] s = rI z s := Ze_i2 (by decide +kernel) rfl h
theorem x152_41 : Ze d 152 41 [l0, l1, l2, aR r, l4] st s = Ze d 152 42 [l0, l1, l2, aR r, l4] (aR r :: st) s := Ze_n (i := (.aload_n 3)) (len := 1) (by decide +kernel) rfl
theorem x152_42 : Ze d 152 42 [l0, aI z, l2, l3, l4] st s = Ze d 152 43 [l0, aI z, l2, l3, l4] (aI z :: st) s := Ze_n (i := (.iload_n 1)) (len := 1) (by decide +kernel) rfl
theorem x152_43 : Ze d 152 43 [l0, l1, l2, l3, aI z] st s = Ze d 152 45 [l0, l1, l2, l3, aI z] (aI z :: st) s := Ze_n (i := (.iload 4)) (len := 2) (by decide +kernel) rfl
theorem x152_45 (h0 : 0 ≤ i) (h1 : i < aN1 r) : Ze d 152 45 [l0, l1, l2, l3, l4] (aI z :: aI i :: aR r :: st) s = Ze d 152 46 [l0, l1, l2, l3, l4] st (mu s r i.toNat z) := Ze_n (i := .iastore) (len := 1) (by decide +kernel) (if_pos ⟨h0, h1⟩)
theorem x152_46 : Ze d 152 46 [l0, l1, l2, l3, l4] st s = Ze d 152 47 [l0, l1, l2, l3, l4] (aI 1 :: st) s := Ze_n (i := (.iconst 1)) (len := 1) (by decide +kernel) rfl
theorem x152_47 (h : z = 0 ∨ z = 1) : Ze d 152 47 [l0, l1, l2, l3, l4] [aI z] s = rI z s := Ze_i2 (by decide +kernel) rfl h
theorem en152 : Zc (d + 1) 152 [aR r0, aI a1, aI a2] s = Ze d 152 0 [aR r0, aI a1, aI a2, aU, aU] [] s := rfl
