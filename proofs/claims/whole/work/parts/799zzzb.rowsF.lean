variable {d r q : Nat} {l0 l1 l2 l3 l4 l5 l6 l7 l8 l9 l10 l11 l12 l13 l14 l15 : AV} {st : List AV} {s : Mem} {a b z i n dp sp a0 a1 a2 a3 a4 a5 a6 : Int} {r0 r1 r2 r3 r4 : Nat}
theorem x66_0 : Ze d 66 0 [aR r, l1] st s = Ze d 66 1 [aR r, l1] (aR r :: st) s := Ze_n (i := (.aload_n 0)) (len := 1) (by decide +kernel) rfl
theorem x66_1 (h : obC r = 1) : Ze d 66 1 [l0, l1] (aR r :: st) s = Ze d 66 4 [l0, l1] (aR (fcn r 6) :: st) s := Ze_gf (len := 3) (idx := 37) (by decide +kernel) rfl h rfl
theorem x66_4 : Ze d 66 4 [aR r, l1] st s = Ze d 66 5 [aR r, l1] (aR r :: st) s := Ze_n (i := (.aload_n 0)) (len := 1) (by decide +kernel) rfl
theorem x66_5 (h : obC r = 1) : Ze d 66 5 [l0, l1] (aR r :: st) s = Ze d 66 8 [l0, l1] (aR (fcn r 0) :: st) s := Ze_gf (len := 3) (idx := 9) (by decide +kernel) rfl h rfl
theorem x66_8 : Ze d 66 8 [aR r, l1] st s = Ze d 66 9 [aR r, l1] (aR r :: st) s := Ze_n (i := (.aload_n 0)) (len := 1) (by decide +kernel) rfl
theorem x66_9 (h : obC r = 1) : Ze d 66 9 [l0, l1] (aR r :: st) s = Ze d 66 12 [l0, l1] (aI (s r 1) :: st) s := Ze_gf (len := 3) (idx := 13) (by decide +kernel) rfl h rfl
theorem x66_12 (h : obC r = 11) (h6 : st.length ≤ 4) : Ze d 66 12 [l0, l1] (aI a2 :: aR r1 :: aR r :: st) s = zcV (Zc d 157 [aR r, aR r1, aI a2] s) d 66 15 [l0, l1] st := Ze_cvV (idx := 102) (len := 3) (as := [aR r1, aI a2]) (by decide +kernel) rfl (by decide +kernel) rfl h h6
theorem x66_15 : Ze d 66 15 [aR r, l1] st s = Ze d 66 16 [aR r, l1] (aR r :: st) s := Ze_n (i := (.aload_n 0)) (len := 1) (by decide +kernel) rfl
theorem x66_16 : Ze d 66 16 [aR r, l1] st s = Ze d 66 17 [aR r, l1] (aR r :: st) s := Ze_n (i := (.aload_n 0)) (len := 1) (by decide +kernel) rfl
theorem x66_17 (h : obC r = 1) : Ze d 66 17 [l0, l1] (aR r :: st) s = Ze d 66 20 [l0, l1] (aR (fcn r 7) :: st) s := Ze_gf (len := 3) (idx := 57) (by decide +kernel) rfl h rfl
theorem x66_20 : Ze d 66 20 [aR r, l1] st s = Ze d 66 21 [aR r, l1] (aR r :: st) s := Ze_n (i := (.aload_n 0)) (len := 1) (by decide +kernel) rfl
theorem x66_21 (h : obC r = 1) (h2 : 0 ≤ s r 5) : Ze d 66 21 [l0, l1] (aR r :: st) s = Ze d 66 24 [l0, l1] (aR (s r 5).toNat :: st) s := Ze_gf (len := 3) (idx := 31) (by decide +kernel) rfl h (fldV_dyn rfl h2)
theorem x66_24 (h : obC r = 3) : Ze d 66 24 [l0, l1] (aR r :: st) s = Ze d 66 27 [l0, l1] (aR (fcn r 1) :: st) s := Ze_gf (len := 3) (idx := 106) (by decide +kernel) rfl h rfl
theorem x66_27 (h : obC r = 7) (h6 : st.length ≤ 4) : Ze d 66 27 [l0, l1] (aR r1 :: aR r :: st) s = zcI (Zc d 123 [aR r, aR r1] s) d 66 30 [l0, l1] st := Ze_cvI (idx := 110) (len := 3) (as := [aR r1]) (by decide +kernel) rfl (by decide +kernel) rfl h h6
theorem x66_30 (h : obC r = 1) : Ze d 66 30 [l0, l1] (aI z :: aR r :: st) s = Ze d 66 33 [l0, l1] st (mu s r 2 z) := Ze_n (i := .putfield 17) (len := 3) (by decide +kernel) (if_pos h)
theorem x66_33 : Ze d 66 33 [aR r, l1] st s = Ze d 66 34 [aR r, l1] (aR r :: st) s := Ze_n (i := (.aload_n 0)) (len := 1) (by decide +kernel) rfl
theorem x66_34 (h : obC r = 1) : Ze d 66 34 [l0, l1] (aR r :: st) s = Ze d 66 37 [l0, l1] (aI (s r 2) :: st) s := Ze_gf (len := 3) (idx := 17) (by decide +kernel) rfl h rfl
theorem x66_37 : Ze d 66 37 [l0, l1] st s = Ze d 66 38 [l0, l1] (aI (-1) :: st) s := Ze_n (i := (.iconst (-1))) (len := 1) (by decide +kernel) rfl
theorem x66_38 : Ze d 66 38 [l0, l1] (aI b :: aI a :: st) s = if a = b then Ze d 66 51 [l0, l1] st s else Ze d 66 41 [l0, l1] st s := Ze_b (i := (.if_icmp .eq 13)) (len := 3) (by decide +kernel) rfl
theorem x66_41 : Ze d 66 41 [l0, l1] st s = rT 1 s := Ze_r (i := .new 90) (len := 3) (by decide +kernel) rfl
theorem x66_51 : Ze d 66 51 [aR r, l1] st s = Ze d 66 52 [aR r, l1] (aR r :: st) s := Ze_n (i := (.aload_n 0)) (len := 1) (by decide +kernel) rfl
theorem x66_52 : Ze d 66 52 [aR r, l1] st s = Ze d 66 53 [aR r, l1] (aR r :: st) s := Ze_n (i := (.aload_n 0)) (len := 1) (by decide +kernel) rfl
theorem x66_53 (h : obC r = 1) : Ze d 66 53 [l0, l1] (aR r :: st) s = Ze d 66 56 [l0, l1] (aR (fcn r 8) :: st) s := Ze_gf (len := 3) (idx := 66) (by decide +kernel) rfl h rfl
theorem x66_56 : Ze d 66 56 [aR r, l1] st s = Ze d 66 57 [aR r, l1] (aR r :: st) s := Ze_n (i := (.aload_n 0)) (len := 1) (by decide +kernel) rfl
theorem x66_57 (h : obC r = 1) (h2 : 0 ≤ s r 5) : Ze d 66 57 [l0, l1] (aR r :: st) s = Ze d 66 60 [l0, l1] (aR (s r 5).toNat :: st) s := Ze_gf (len := 3) (idx := 31) (by decide +kernel) rfl h (fldV_dyn rfl h2)
theorem x66_60 (h : obC r = 2) (h6 : st.length ≤ 4) : Ze d 66 60 [l0, l1] (aR r1 :: aR r :: st) s = zcI (Zc d 77 [aR r, aR r1] s) d 66 63 [l0, l1] st := Ze_cvI (idx := 116) (len := 3) (as := [aR r1]) (by decide +kernel) rfl (by decide +kernel) rfl h h6
theorem x66_63 (h : obC r = 1) : Ze d 66 63 [l0, l1] (aI z :: aR r :: st) s = Ze d 66 66 [l0, l1] st (mu s r 2 z) := Ze_n (i := .putfield 17) (len := 3) (by decide +kernel) (if_pos h)
theorem x66_66 : Ze d 66 66 [aR r, l1] st s = Ze d 66 67 [aR r, l1] (aR r :: st) s := Ze_n (i := (.aload_n 0)) (len := 1) (by decide +kernel) rfl
theorem x66_67 (h : obC r = 1) : Ze d 66 67 [l0, l1] (aR r :: st) s = Ze d 66 70 [l0, l1] (aI (s r 2) :: st) s := Ze_gf (len := 3) (idx := 17) (by decide +kernel) rfl h rfl
theorem x66_70 : Ze d 66 70 [l0, l1] st s = Ze d 66 71 [l0, l1] (aI (-1) :: st) s := Ze_n (i := (.iconst (-1))) (len := 1) (by decide +kernel) rfl
theorem x66_71 : Ze d 66 71 [l0, l1] (aI b :: aI a :: st) s = if a = b then Ze d 66 84 [l0, l1] st s else Ze d 66 74 [l0, l1] st s := Ze_b (i := (.if_icmp .eq 13)) (len := 3) (by decide +kernel) rfl
theorem x66_74 : Ze d 66 74 [l0, l1] st s = rT 2 s := Ze_r (i := .new 120) (len := 3) (by decide +kernel) rfl
theorem x66_84 : Ze d 66 84 [aR r, l1] st s = Ze d 66 85 [aR r, l1] (aR r :: st) s := Ze_n (i := (.aload_n 0)) (len := 1) (by decide +kernel) rfl
theorem x66_85 (h : obC r = 1) : Ze d 66 85 [l0, l1] (aR r :: st) s = Ze d 66 88 [l0, l1] (aR (fcn r 9) :: st) s := Ze_gf (len := 3) (idx := 75) (by decide +kernel) rfl h rfl
theorem x66_88 : Ze d 66 88 [aR r, l1] st s = Ze d 66 89 [aR r, l1] (aR r :: st) s := Ze_n (i := (.aload_n 0)) (len := 1) (by decide +kernel) rfl
theorem x66_89 (h : obC r = 1) (h2 : 0 ≤ s r 5) : Ze d 66 89 [l0, l1] (aR r :: st) s = Ze d 66 92 [l0, l1] (aR (s r 5).toNat :: st) s := Ze_gf (len := 3) (idx := 31) (by decide +kernel) rfl h (fldV_dyn rfl h2)
theorem x66_92 (h : obC r = 9) (h6 : st.length ≤ 4) : Ze d 66 92 [l0, l1] (aR r1 :: aR r :: st) s = zcI (Zc d 149 [aR r, aR r1] s) d 66 95 [l0, l1] st := Ze_cvI (idx := 125) (len := 3) (as := [aR r1]) (by decide +kernel) rfl (by decide +kernel) rfl h h6
theorem x66_95 : Ze d 66 95 [l0, l1] (aI a :: st) s = if a = 0 then Ze d 66 98 [l0, l1] st s else Ze d 66 108 [l0, l1] st s := Ze_b (i := (.ifCond .ne 13)) (len := 3) (by decide +kernel) rfl
theorem x66_98 : Ze d 66 98 [l0, l1] st s = rT 3 s := Ze_r (i := .new 97) (len := 3) (by decide +kernel) rfl
theorem x66_108 : Ze d 66 108 [aR r, l1] st s = Ze d 66 109 [aR r, l1] (aR r :: st) s := Ze_n (i := (.aload_n 0)) (len := 1) (by decide +kernel) rfl
theorem x66_109 (h : obC r = 1) : Ze d 66 109 [l0, l1] (aR r :: st) s = Ze d 66 112 [l0, l1] (aR (fcn r 10) :: st) s := Ze_gf (len := 3) (idx := 82) (by decide +kernel) rfl h rfl
theorem x66_112 : Ze d 66 112 [aR r, l1] st s = Ze d 66 113 [aR r, l1] (aR r :: st) s := Ze_n (i := (.aload_n 0)) (len := 1) (by decide +kernel) rfl
theorem x66_113 (h : obC r = 1) (h2 : 0 ≤ s r 5) : Ze d 66 113 [l0, l1] (aR r :: st) s = Ze d 66 116 [l0, l1] (aR (s r 5).toNat :: st) s := Ze_gf (len := 3) (idx := 31) (by decide +kernel) rfl h (fldV_dyn rfl h2)
theorem x66_116 (h : obC r = 5) (h6 : st.length ≤ 4) : Ze d 66 116 [l0, l1] (aR r1 :: aR r :: st) s = zcV (Zc d 102 [aR r, aR r1] s) d 66 119 [l0, l1] st := Ze_cvV (idx := 131) (len := 3) (as := [aR r1]) (by decide +kernel) rfl (by decide +kernel) rfl h h6
theorem x66_119 : Ze d 66 119 [aR r, l1] st s = Ze d 66 120 [aR r, l1] (aR r :: st) s := Ze_n (i := (.aload_n 0)) (len := 1) (by decide +kernel) rfl
theorem x66_120 : Ze d 66 120 [aR r, l1] st s = Ze d 66 121 [aR r, l1] (aR r :: st) s := Ze_n (i := (.aload_n 0)) (len := 1) (by decide +kernel) rfl
theorem x66_121 (h : obC r = 1) : Ze d 66 121 [l0, l1] (aR r :: st) s = Ze d 66 124 [l0, l1] (aR (fcn r 10) :: st) s := Ze_gf (len := 3) (idx := 82) (by decide +kernel) rfl h rfl
theorem x66_124 : Ze d 66 124 [aR r, l1] st s = Ze d 66 125 [aR r, l1] (aR r :: st) s := Ze_n (i := (.aload_n 0)) (len := 1) (by decide +kernel) rfl
theorem x66_125 (h : obC r = 1) (h2 : 0 ≤ s r 5) : Ze d 66 125 [l0, l1] (aR r :: st) s = Ze d 66 128 [l0, l1] (aR (s r 5).toNat :: st) s := Ze_gf (len := 3) (idx := 31) (by decide +kernel) rfl h (fldV_dyn rfl h2)
theorem x66_128 (h : obC r = 5) (h6 : st.length ≤ 4) : Ze d 66 128 [l0, l1] (aR r1 :: aR r :: st) s = zcI (Zc d 110 [aR r, aR r1] s) d 66 131 [l0, l1] st := Ze_cvI (idx := 135) (len := 3) (as := [aR r1]) (by decide +kernel) rfl (by decide +kernel) rfl h h6
theorem x66_131 (h : obC r = 1) : Ze d 66 131 [l0, l1] (aI z :: aR r :: st) s = Ze d 66 134 [l0, l1] st (mu s r 2 z) := Ze_n (i := .putfield 17) (len := 3) (by decide +kernel) (if_pos h)
theorem x66_134 : Ze d 66 134 [aR r, l1] st s = Ze d 66 135 [aR r, l1] (aR r :: st) s := Ze_n (i := (.aload_n 0)) (len := 1) (by decide +kernel) rfl
theorem x66_135 (h : obC r = 1) : Ze d 66 135 [l0, l1] (aR r :: st) s = Ze d 66 138 [l0, l1] (aI (s r 2) :: st) s := Ze_gf (len := 3) (idx := 17) (by decide +kernel) rfl h rfl
theorem x66_138 : Ze d 66 138 [l0, l1] st s = Ze d 66 139 [l0, l1] (aI (-1) :: st) s := Ze_n (i := (.iconst (-1))) (len := 1) (by decide +kernel) rfl
theorem x66_139 : Ze d 66 139 [l0, l1] (aI b :: aI a :: st) s = if a = b then Ze d 66 152 [l0, l1] st s else Ze d 66 142 [l0, l1] st s := Ze_b (i := (.if_icmp .eq 13)) (len := 3) (by decide +kernel) rfl
theorem x66_142 : Ze d 66 142 [l0, l1] st s = rT 4 s := Ze_r (i := .new 138) (len := 3) (by decide +kernel) rfl
theorem x66_152 : Ze d 66 152 [aR r, l1] st s = Ze d 66 153 [aR r, l1] (aR r :: st) s := Ze_n (i := (.aload_n 0)) (len := 1) (by decide +kernel) rfl
theorem x66_153 : Ze d 66 153 [aR r, l1] st s = Ze d 66 154 [aR r, l1] (aR r :: st) s := Ze_n (i := (.aload_n 0)) (len := 1) (by decide +kernel) rfl
theorem x66_154 (h : obC r = 1) : Ze d 66 154 [l0, l1] (aR r :: st) s = Ze d 66 157 [l0, l1] (aR (fcn r 10) :: st) s := Ze_gf (len := 3) (idx := 82) (by decide +kernel) rfl h rfl
theorem x66_157 : Ze d 66 157 [aR r, l1] st s = Ze d 66 158 [aR r, l1] (aR r :: st) s := Ze_n (i := (.aload_n 0)) (len := 1) (by decide +kernel) rfl
theorem x66_158 (h : obC r = 1) (h2 : 0 ≤ s r 5) : Ze d 66 158 [l0, l1] (aR r :: st) s = Ze d 66 161 [l0, l1] (aR (s r 5).toNat :: st) s := Ze_gf (len := 3) (idx := 31) (by decide +kernel) rfl h (fldV_dyn rfl h2)
theorem x66_161 (h : obC r = 5) (h6 : st.length ≤ 4) : Ze d 66 161 [l0, l1] (aR r1 :: aR r :: st) s = zcI (Zc d 111 [aR r, aR r1] s) d 66 164 [l0, l1] st := Ze_cvI (idx := 143) (len := 3) (as := [aR r1]) (by decide +kernel) rfl (by decide +kernel) rfl h h6
theorem x66_164 (h : obC r = 1) : Ze d 66 164 [l0, l1] (aI z :: aR r :: st) s = Ze d 66 167 [l0, l1] st (mu s r 2 z) := Ze_n (i := .putfield 17) (len := 3) (by decide +kernel) (if_pos h)
theorem x66_167 : Ze d 66 167 [aR r, l1] st s = Ze d 66 168 [aR r, l1] (aR r :: st) s := Ze_n (i := (.aload_n 0)) (len := 1) (by decide +kernel) rfl
theorem x66_168 (h : obC r = 1) : Ze d 66 168 [l0, l1] (aR r :: st) s = Ze d 66 171 [l0, l1] (aI (s r 2) :: st) s := Ze_gf (len := 3) (idx := 17) (by decide +kernel) rfl h rfl
theorem x66_171 : Ze d 66 171 [l0, l1] st s = Ze d 66 172 [l0, l1] (aI (-1) :: st) s := Ze_n (i := (.iconst (-1))) (len := 1) (by decide +kernel) rfl
theorem x66_172 : Ze d 66 172 [l0, l1] (aI b :: aI a :: st) s = if a = b then Ze d 66 185 [l0, l1] st s else Ze d 66 175 [l0, l1] st s := Ze_b (i := (.if_icmp .eq 13)) (len := 3) (by decide +kernel) rfl
theorem x66_175 : Ze d 66 175 [l0, l1] st s = rT 5 s := Ze_r (i := .new 146) (len := 3) (by decide +kernel) rfl
theorem x66_185 : Ze d 66 185 [aR r, l1] st s = Ze d 66 186 [aR r, l1] (aR r :: st) s := Ze_n (i := (.aload_n 0)) (len := 1) (by decide +kernel) rfl
theorem x66_186 : Ze d 66 186 [l0, l1] st s = Ze d 66 188 [l0, l1] (aI (-2) :: st) s := Ze_n (i := (.bipush (-2))) (len := 2) (by decide +kernel) rfl
theorem x66_188 (h : obC r = 1) : Ze d 66 188 [l0, l1] (aI z :: aR r :: st) s = Ze d 66 191 [l0, l1] st (mu s r 2 z) := Ze_n (i := .putfield 17) (len := 3) (by decide +kernel) (if_pos h)
theorem x66_191 : Ze d 66 191 [aR r, l1] st s = Ze d 66 192 [aR r, l1] (aR r :: st) s := Ze_n (i := (.aload_n 0)) (len := 1) (by decide +kernel) rfl
theorem x66_192 : Ze d 66 192 [l0, l1] st s = Ze d 66 193 [l0, l1] (aI 1 :: st) s := Ze_n (i := (.iconst 1)) (len := 1) (by decide +kernel) rfl
theorem x66_193 (h : obC r = 1) (h2 : z = 0 ∨ z = 1) : Ze d 66 193 [l0, l1] (aI z :: aR r :: st) s = Ze d 66 196 [l0, l1] st (mu s r 3 z) := Ze_n (i := .putfield 20) (len := 3) (by decide +kernel) (if_pos ⟨h, h2⟩)
theorem x66_196 : Ze d 66 196 [aR r, l1] st s = Ze d 66 197 [aR r, l1] (aR r :: st) s := Ze_n (i := (.aload_n 0)) (len := 1) (by decide +kernel) rfl
theorem x66_197 (h : obC r = 1) (h2 : 0 ≤ s r 4) : Ze d 66 197 [l0, l1] (aR r :: st) s = Ze d 66 200 [l0, l1] (aR (s r 4).toNat :: st) s := Ze_gf (len := 3) (idx := 27) (by decide +kernel) rfl h (fldV_dyn rfl h2)
theorem x66_200 : Ze d 66 200 [l0, l1] (aR r :: st) s = Ze d 66 201 [l0, aR r] st s := Ze_n (i := (.astore_n 1)) (len := 1) (by decide +kernel) rfl
theorem x66_201 : Ze d 66 201 [aR r, l1] st s = Ze d 66 202 [aR r, l1] (aR r :: st) s := Ze_n (i := (.aload_n 0)) (len := 1) (by decide +kernel) rfl
theorem x66_202 : Ze d 66 202 [aR r, l1] st s = Ze d 66 203 [aR r, l1] (aR r :: st) s := Ze_n (i := (.aload_n 0)) (len := 1) (by decide +kernel) rfl
theorem x66_203 (h : obC r = 1) (h2 : 0 ≤ s r 5) : Ze d 66 203 [l0, l1] (aR r :: st) s = Ze d 66 206 [l0, l1] (aR (s r 5).toNat :: st) s := Ze_gf (len := 3) (idx := 31) (by decide +kernel) rfl h (fldV_dyn rfl h2)
theorem x66_206 (h : obC r = 1) (h2 : q < lyt.length) : Ze d 66 206 [l0, l1] (aR q :: aR r :: st) s = Ze d 66 209 [l0, l1] st (mu s r 4 (q : Int)) := Ze_n (i := .putfield 27) (len := 3) (by decide +kernel) (if_pos ⟨h, h2⟩)
theorem x66_209 : Ze d 66 209 [aR r, l1] st s = Ze d 66 210 [aR r, l1] (aR r :: st) s := Ze_n (i := (.aload_n 0)) (len := 1) (by decide +kernel) rfl
theorem x66_210 : Ze d 66 210 [l0, aR r] st s = Ze d 66 211 [l0, aR r] (aR r :: st) s := Ze_n (i := (.aload_n 1)) (len := 1) (by decide +kernel) rfl
theorem x66_211 (h : obC r = 1) (h2 : q < lyt.length) : Ze d 66 211 [l0, l1] (aR q :: aR r :: st) s = Ze d 66 214 [l0, l1] st (mu s r 5 (q : Int)) := Ze_n (i := .putfield 31) (len := 3) (by decide +kernel) (if_pos ⟨h, h2⟩)
theorem x66_214 : Ze d 66 214 [aR r, l1] st s = Ze d 66 215 [aR r, l1] (aR r :: st) s := Ze_n (i := (.aload_n 0)) (len := 1) (by decide +kernel) rfl
theorem x66_215 (h : obC r = 1) (h2 : 0 ≤ s r 4) : Ze d 66 215 [l0, l1] (aR r :: st) s = Ze d 66 218 [l0, l1] (aR (s r 4).toNat :: st) s := Ze_gf (len := 3) (idx := 27) (by decide +kernel) rfl h (fldV_dyn rfl h2)
theorem x66_218 (h : obC r = 3) (h6 : st.length ≤ 4) : Ze d 66 218 [l0, l1] (aR r :: st) s = zcV (Zc d 92 [aR r] s) d 66 221 [l0, l1] st := Ze_cvV (idx := 151) (len := 3) (as := []) (by decide +kernel) rfl (by decide +kernel) rfl h h6
theorem x66_221 : Ze d 66 221 [aR r, l1] st s = Ze d 66 222 [aR r, l1] (aR r :: st) s := Ze_n (i := (.aload_n 0)) (len := 1) (by decide +kernel) rfl
theorem x66_222 (h : obC r = 1) (h2 : 0 ≤ s r 4) : Ze d 66 222 [l0, l1] (aR r :: st) s = Ze d 66 225 [l0, l1] (aR (s r 4).toNat :: st) s := Ze_gf (len := 3) (idx := 27) (by decide +kernel) rfl h (fldV_dyn rfl h2)
theorem x66_225 (h : obC r = 3) : Ze d 66 225 [l0, l1] (aR r :: st) s = Ze d 66 228 [l0, l1] (aR (fcn r 0) :: st) s := Ze_gf (len := 3) (idx := 154) (by decide +kernel) rfl h rfl
theorem x66_228 (h : obC r = 8) : Ze d 66 228 [l0, l1] (aR r :: st) s = Ze d 66 231 [l0, l1] (aI (s r 6) :: st) s := Ze_gf (len := 3) (idx := 158) (by decide +kernel) rfl h rfl
theorem x66_231 : Ze d 66 231 [l0, l1] [aI z] s = rI z s := Ze_i1 (by decide +kernel) rfl
theorem en66 : Zc (d + 1) 66 [aR r] s = Ze d 66 0 [aR r, aU] [] s := rfl
theorem x64_0 : Ze d 64 0 [l0, aL z, l2, l3, l4, l5] st s = Ze d 64 1 [l0, aL z, l2, l3, l4, l5] (aL z :: st) s := Ze_n (i := (.lload_n 1)) (len := 1) (by decide +kernel) rfl
theorem x64_1 (h6 : st.length ≤ 4) : Ze d 64 1 [l0, l1, l2, l3, l4, l5] (aL a0 :: st) s = zcI (Zc d 75 [aL a0] s) d 64 4 [l0, l1, l2, l3, l4, l5] st := Ze_csI (idx := 86) (len := 3) (as := [aL a0]) (by decide +kernel) rfl rfl (by decide +kernel) rfl h6
theorem x64_4 : Ze d 64 4 [l0, l1, l2, l3, l4, l5] (aI z :: st) s = Ze d 64 5 [l0, l1, l2, aI z, l4, l5] st s := Ze_n (i := (.istore_n 3)) (len := 1) (by decide +kernel) rfl
theorem x64_5 : Ze d 64 5 [l0, l1, l2, aI z, l4, l5] st s = Ze d 64 6 [l0, l1, l2, aI z, l4, l5] (aI z :: st) s := Ze_n (i := (.iload_n 3)) (len := 1) (by decide +kernel) rfl
theorem x64_6 : Ze d 64 6 [l0, l1, l2, l3, l4, l5] st s = Ze d 64 7 [l0, l1, l2, l3, l4, l5] (aI (-1) :: st) s := Ze_n (i := (.iconst (-1))) (len := 1) (by decide +kernel) rfl
theorem x64_7 : Ze d 64 7 [l0, l1, l2, l3, l4, l5] (aI b :: aI a :: st) s = if a = b then Ze d 64 10 [l0, l1, l2, l3, l4, l5] st s else Ze d 64 20 [l0, l1, l2, l3, l4, l5] st s := Ze_b (i := (.if_icmp .ne 13)) (len := 3) (by decide +kernel) rfl
theorem x64_10 : Ze d 64 10 [l0, l1, l2, l3, l4, l5] st s = rT 1 s := Ze_r (i := .new 90) (len := 3) (by decide +kernel) rfl
theorem x64_20 : Ze d 64 20 [aR r, l1, l2, l3, l4, l5] st s = Ze d 64 21 [aR r, l1, l2, l3, l4, l5] (aR r :: st) s := Ze_n (i := (.aload_n 0)) (len := 1) (by decide +kernel) rfl
theorem x64_21 (h : obC r = 1) : Ze d 64 21 [l0, l1, l2, l3, l4, l5] (aR r :: st) s = Ze d 64 24 [l0, l1, l2, l3, l4, l5] (aI (s r 1) :: st) s := Ze_gf (len := 3) (idx := 13) (by decide +kernel) rfl h rfl
theorem x64_24 : Ze d 64 24 [l0, l1, l2, aI z, l4, l5] st s = Ze d 64 25 [l0, l1, l2, aI z, l4, l5] (aI z :: st) s := Ze_n (i := (.iload_n 3)) (len := 1) (by decide +kernel) rfl
theorem x64_25 : Ze d 64 25 [l0, l1, l2, l3, l4, l5] (aI b :: aI a :: st) s = Ze d 64 26 [l0, l1, l2, l3, l4, l5] (aI (wrap (a + b)) :: st) s := Ze_n (i := .iadd) (len := 1) (by decide +kernel) rfl
theorem x64_26 : Ze d 64 26 [l0, l1, l2, l3, l4, l5] st s = Ze d 64 29 [l0, l1, l2, l3, l4, l5] (aI 200 :: st) s := Ze_n (i := (.sipush 200)) (len := 3) (by decide +kernel) rfl
theorem x64_29 : Ze d 64 29 [l0, l1, l2, l3, l4, l5] (aI b :: aI a :: st) s = if b < a then Ze d 64 32 [l0, l1, l2, l3, l4, l5] st s else Ze d 64 42 [l0, l1, l2, l3, l4, l5] st s := Ze_b (i := (.if_icmp .le 13)) (len := 3) (by decide +kernel) rfl
theorem x64_32 : Ze d 64 32 [l0, l1, l2, l3, l4, l5] st s = rT 3 s := Ze_r (i := .new 97) (len := 3) (by decide +kernel) rfl
theorem x64_42 : Ze d 64 42 [l0, l1, l2, l3, l4, l5] st s = Ze d 64 44 [l0, l1, l2, l3, l4, l5] (aI 56 :: st) s := Ze_n (i := (.bipush 56)) (len := 2) (by decide +kernel) rfl
theorem x64_44 : Ze d 64 44 [l0, l1, l2, l3, l4, l5] (aI z :: st) s = Ze d 64 46 [l0, l1, l2, l3, aI z, l5] st s := Ze_n (i := (.istore 4)) (len := 2) (by decide +kernel) rfl
theorem x64_46 : Ze d 64 46 [l0, l1, l2, l3, aI z, l5] st s = Ze d 64 48 [l0, l1, l2, l3, aI z, l5] (aI z :: st) s := Ze_n (i := (.iload 4)) (len := 2) (by decide +kernel) rfl
theorem x64_48 : Ze d 64 48 [l0, l1, l2, l3, l4, l5] (aI a :: st) s = if a < 0 then Ze d 64 105 [l0, l1, l2, l3, l4, l5] st s else Ze d 64 51 [l0, l1, l2, l3, l4, l5] st s := Ze_b (i := (.ifCond .lt 57)) (len := 3) (by decide +kernel) rfl
theorem x64_51 : Ze d 64 51 [l0, aL z, l2, l3, l4, l5] st s = Ze d 64 52 [l0, aL z, l2, l3, l4, l5] (aL z :: st) s := Ze_n (i := (.lload_n 1)) (len := 1) (by decide +kernel) rfl
theorem x64_52 : Ze d 64 52 [l0, l1, l2, l3, aI z, l5] st s = Ze d 64 54 [l0, l1, l2, l3, aI z, l5] (aI z :: st) s := Ze_n (i := (.iload 4)) (len := 2) (by decide +kernel) rfl
theorem x64_54 : Ze d 64 54 [l0, l1, l2, l3, l4, l5] (aI b :: aL a :: st) s = Ze d 64 55 [l0, l1, l2, l3, l4, l5] (aL (lushrZ a b) :: st) s := Ze_n (i := .lushr) (len := 1) (by decide +kernel) rfl
theorem x64_55 : Ze d 64 55 [l0, l1, l2, l3, l4, l5] (aL a :: st) s = Ze d 64 56 [l0, l1, l2, l3, l4, l5] (aI (l2iZ a) :: st) s := Ze_n (i := .l2i) (len := 1) (by decide +kernel) rfl
theorem x64_56 : Ze d 64 56 [l0, l1, l2, l3, l4, l5] st s = Ze d 64 59 [l0, l1, l2, l3, l4, l5] (aI 255 :: st) s := Ze_n (i := (.sipush 255)) (len := 3) (by decide +kernel) rfl
theorem x64_59 : Ze d 64 59 [l0, l1, l2, l3, l4, l5] (aI b :: aI a :: st) s = Ze d 64 60 [l0, l1, l2, l3, l4, l5] (aI (iand a b) :: st) s := Ze_n (i := .iand) (len := 1) (by decide +kernel) rfl
theorem x64_60 : Ze d 64 60 [l0, l1, l2, l3, l4, l5] (aI z :: st) s = Ze d 64 62 [l0, l1, l2, l3, l4, aI z] st s := Ze_n (i := (.istore 5)) (len := 2) (by decide +kernel) rfl
theorem x64_62 : Ze d 64 62 [l0, l1, l2, l3, l4, aI z] st s = Ze d 64 64 [l0, l1, l2, l3, l4, aI z] (aI z :: st) s := Ze_n (i := (.iload 5)) (len := 2) (by decide +kernel) rfl
theorem x64_64 : Ze d 64 64 [l0, l1, l2, l3, l4, l5] (aI a :: st) s = if a = 0 then Ze d 64 99 [l0, l1, l2, l3, l4, l5] st s else Ze d 64 67 [l0, l1, l2, l3, l4, l5] st s := Ze_b (i := (.ifCond .eq 35)) (len := 3) (by decide +kernel) rfl
theorem x64_67 : Ze d 64 67 [aR r, l1, l2, l3, l4, l5] st s = Ze d 64 68 [aR r, l1, l2, l3, l4, l5] (aR r :: st) s := Ze_n (i := (.aload_n 0)) (len := 1) (by decide +kernel) rfl
theorem x64_68 (h : obC r = 1) : Ze d 64 68 [l0, l1, l2, l3, l4, l5] (aR r :: st) s = Ze d 64 71 [l0, l1, l2, l3, l4, l5] (aI (s r 1) :: st) s := Ze_gf (len := 3) (idx := 13) (by decide +kernel) rfl h rfl
theorem x64_71 : Ze d 64 71 [l0, l1, l2, l3, l4, l5] st s = Ze d 64 74 [l0, l1, l2, l3, l4, l5] (aI 200 :: st) s := Ze_n (i := (.sipush 200)) (len := 3) (by decide +kernel) rfl
theorem x64_74 : Ze d 64 74 [l0, l1, l2, l3, l4, l5] (aI b :: aI a :: st) s = if a < b then Ze d 64 77 [l0, l1, l2, l3, l4, l5] st s else Ze d 64 99 [l0, l1, l2, l3, l4, l5] st s := Ze_b (i := (.if_icmp .ge 25)) (len := 3) (by decide +kernel) rfl
theorem x64_77 : Ze d 64 77 [aR r, l1, l2, l3, l4, l5] st s = Ze d 64 78 [aR r, l1, l2, l3, l4, l5] (aR r :: st) s := Ze_n (i := (.aload_n 0)) (len := 1) (by decide +kernel) rfl
theorem x64_78 (h : obC r = 1) : Ze d 64 78 [l0, l1, l2, l3, l4, l5] (aR r :: st) s = Ze d 64 81 [l0, l1, l2, l3, l4, l5] (aR (fcn r 0) :: st) s := Ze_gf (len := 3) (idx := 9) (by decide +kernel) rfl h rfl
theorem x64_81 : Ze d 64 81 [aR r, l1, l2, l3, l4, l5] st s = Ze d 64 82 [aR r, l1, l2, l3, l4, l5] (aR r :: st) s := Ze_n (i := (.aload_n 0)) (len := 1) (by decide +kernel) rfl
theorem x64_82 (h : obC r = 1) : Ze d 64 82 [l0, l1, l2, l3, l4, l5] (aR r :: st) s = Ze d 64 85 [l0, l1, l2, l3, l4, l5] (aI (s r 1) :: st) s := Ze_gf (len := 3) (idx := 13) (by decide +kernel) rfl h rfl
theorem x64_85 : Ze d 64 85 [l0, l1, l2, l3, l4, aI z] st s = Ze d 64 87 [l0, l1, l2, l3, l4, aI z] (aI z :: st) s := Ze_n (i := (.iload 5)) (len := 2) (by decide +kernel) rfl
theorem x64_87 : Ze d 64 87 [l0, l1, l2, l3, l4, l5] (aI a :: st) s = Ze d 64 88 [l0, l1, l2, l3, l4, l5] (aI (i2cZ a) :: st) s := Ze_n (i := .i2c) (len := 1) (by decide +kernel) rfl
theorem x64_88 (h0 : 0 ≤ i) (h1 : i < aN3 r) (h2 : 0 ≤ z) (h3 : z < 65536) : Ze d 64 88 [l0, l1, l2, l3, l4, l5] (aI z :: aI i :: aR r :: st) s = Ze d 64 89 [l0, l1, l2, l3, l4, l5] st (mu s r i.toNat z) := Ze_n (i := .castore) (len := 1) (by decide +kernel) (if_pos ⟨h0, h1, h2, h3⟩)
theorem x64_89 : Ze d 64 89 [aR r, l1, l2, l3, l4, l5] st s = Ze d 64 90 [aR r, l1, l2, l3, l4, l5] (aR r :: st) s := Ze_n (i := (.aload_n 0)) (len := 1) (by decide +kernel) rfl
theorem x64_90 : Ze d 64 90 [l0, l1, l2, l3, l4, l5] (aR r :: st) s = Ze d 64 91 [l0, l1, l2, l3, l4, l5] (aR r :: aR r :: st) s := Ze_n (i := .dup) (len := 1) (by decide +kernel) rfl
theorem x64_90i : Ze d 64 90 [l0, l1, l2, l3, l4, l5] (aI a :: st) s = Ze d 64 91 [l0, l1, l2, l3, l4, l5] (aI a :: aI a :: st) s := Ze_n (i := .dup) (len := 1) (by decide +kernel) rfl
theorem x64_91 (h : obC r = 1) : Ze d 64 91 [l0, l1, l2, l3, l4, l5] (aR r :: st) s = Ze d 64 94 [l0, l1, l2, l3, l4, l5] (aI (s r 1) :: st) s := Ze_gf (len := 3) (idx := 13) (by decide +kernel) rfl h rfl
theorem x64_94 : Ze d 64 94 [l0, l1, l2, l3, l4, l5] st s = Ze d 64 95 [l0, l1, l2, l3, l4, l5] (aI 1 :: st) s := Ze_n (i := (.iconst 1)) (len := 1) (by decide +kernel) rfl
theorem x64_95 : Ze d 64 95 [l0, l1, l2, l3, l4, l5] (aI b :: aI a :: st) s = Ze d 64 96 [l0, l1, l2, l3, l4, l5] (aI (wrap (a + b)) :: st) s := Ze_n (i := .iadd) (len := 1) (by decide +kernel) rfl
theorem x64_96 (h : obC r = 1) : Ze d 64 96 [l0, l1, l2, l3, l4, l5] (aI z :: aR r :: st) s = Ze d 64 99 [l0, l1, l2, l3, l4, l5] st (mu s r 1 z) := Ze_n (i := .putfield 13) (len := 3) (by decide +kernel) (if_pos h)
theorem x64_99 : Ze d 64 99 [l0, l1, l2, l3, aI z, l5] st s = Ze d 64 102 [l0, l1, l2, l3, aI (wrap (z + (-8))), l5] st s := Ze_n (i := (.iinc 4 (-8))) (len := 3) (by decide +kernel) rfl
theorem x64_102 : Ze d 64 102 [l0, l1, l2, l3, l4, l5] st s = Ze d 64 46 [l0, l1, l2, l3, l4, l5] st s := Ze_n (i := (.goto (-56))) (len := 3) (by decide +kernel) rfl
theorem x64_105 : Ze d 64 105 [aR r, l1, l2, l3, l4, l5] st s = Ze d 64 106 [aR r, l1, l2, l3, l4, l5] (aR r :: st) s := Ze_n (i := (.aload_n 0)) (len := 1) (by decide +kernel) rfl
theorem x64_106 (h : obC r = 1) : Ze d 64 106 [l0, l1, l2, l3, l4, l5] (aR r :: st) s = Ze d 64 109 [l0, l1, l2, l3, l4, l5] (aI (s r 1) :: st) s := Ze_gf (len := 3) (idx := 13) (by decide +kernel) rfl h rfl
theorem x64_109 : Ze d 64 109 [l0, l1, l2, l3, l4, l5] [aI z] s = rI z s := Ze_i1 (by decide +kernel) rfl
theorem en64 : Zc (d + 1) 64 [aR r, aL a1] s = Ze d 64 0 [aR r, aL a1, aU, aU, aU, aU] [] s := rfl
theorem x75_0 : Ze d 75 0 [l0, l1, l2, l3, l4] st s = Ze d 75 1 [l0, l1, l2, l3, l4] (aI 0 :: st) s := Ze_n (i := (.iconst 0)) (len := 1) (by decide +kernel) rfl
theorem x75_1 : Ze d 75 1 [l0, l1, l2, l3, l4] (aI z :: st) s = Ze d 75 2 [l0, l1, aI z, l3, l4] st s := Ze_n (i := (.istore_n 2)) (len := 1) (by decide +kernel) rfl
theorem x75_2 : Ze d 75 2 [l0, l1, l2, l3, l4] st s = Ze d 75 4 [l0, l1, l2, l3, l4] (aI 56 :: st) s := Ze_n (i := (.bipush 56)) (len := 2) (by decide +kernel) rfl
theorem x75_4 : Ze d 75 4 [l0, l1, l2, l3, l4] (aI z :: st) s = Ze d 75 5 [l0, l1, l2, aI z, l4] st s := Ze_n (i := (.istore_n 3)) (len := 1) (by decide +kernel) rfl
theorem x75_5 : Ze d 75 5 [l0, l1, l2, aI z, l4] st s = Ze d 75 6 [l0, l1, l2, aI z, l4] (aI z :: st) s := Ze_n (i := (.iload_n 3)) (len := 1) (by decide +kernel) rfl
theorem x75_6 : Ze d 75 6 [l0, l1, l2, l3, l4] (aI a :: st) s = if a < 0 then Ze d 75 49 [l0, l1, l2, l3, l4] st s else Ze d 75 9 [l0, l1, l2, l3, l4] st s := Ze_b (i := (.ifCond .lt 43)) (len := 3) (by decide +kernel) rfl
theorem x75_9 : Ze d 75 9 [aL z, l1, l2, l3, l4] st s = Ze d 75 10 [aL z, l1, l2, l3, l4] (aL z :: st) s := Ze_n (i := (.lload_n 0)) (len := 1) (by decide +kernel) rfl
theorem x75_10 : Ze d 75 10 [l0, l1, l2, aI z, l4] st s = Ze d 75 11 [l0, l1, l2, aI z, l4] (aI z :: st) s := Ze_n (i := (.iload_n 3)) (len := 1) (by decide +kernel) rfl
theorem x75_11 : Ze d 75 11 [l0, l1, l2, l3, l4] (aI b :: aL a :: st) s = Ze d 75 12 [l0, l1, l2, l3, l4] (aL (lushrZ a b) :: st) s := Ze_n (i := .lushr) (len := 1) (by decide +kernel) rfl
theorem x75_12 : Ze d 75 12 [l0, l1, l2, l3, l4] (aL a :: st) s = Ze d 75 13 [l0, l1, l2, l3, l4] (aI (l2iZ a) :: st) s := Ze_n (i := .l2i) (len := 1) (by decide +kernel) rfl
theorem x75_13 : Ze d 75 13 [l0, l1, l2, l3, l4] st s = Ze d 75 16 [l0, l1, l2, l3, l4] (aI 255 :: st) s := Ze_n (i := (.sipush 255)) (len := 3) (by decide +kernel) rfl
theorem x75_16 : Ze d 75 16 [l0, l1, l2, l3, l4] (aI b :: aI a :: st) s = Ze d 75 17 [l0, l1, l2, l3, l4] (aI (iand a b) :: st) s := Ze_n (i := .iand) (len := 1) (by decide +kernel) rfl
theorem x75_17 : Ze d 75 17 [l0, l1, l2, l3, l4] (aI z :: st) s = Ze d 75 19 [l0, l1, l2, l3, aI z] st s := Ze_n (i := (.istore 4)) (len := 2) (by decide +kernel) rfl
theorem x75_19 : Ze d 75 19 [l0, l1, l2, l3, aI z] st s = Ze d 75 21 [l0, l1, l2, l3, aI z] (aI z :: st) s := Ze_n (i := (.iload 4)) (len := 2) (by decide +kernel) rfl
theorem x75_21 : Ze d 75 21 [l0, l1, l2, l3, l4] (aI a :: st) s = if a = 0 then Ze d 75 43 [l0, l1, l2, l3, l4] st s else Ze d 75 24 [l0, l1, l2, l3, l4] st s := Ze_b (i := (.ifCond .eq 22)) (len := 3) (by decide +kernel) rfl
theorem x75_24 : Ze d 75 24 [l0, l1, l2, l3, aI z] st s = Ze d 75 26 [l0, l1, l2, l3, aI z] (aI z :: st) s := Ze_n (i := (.iload 4)) (len := 2) (by decide +kernel) rfl
theorem x75_26 : Ze d 75 26 [l0, l1, l2, l3, l4] st s = Ze d 75 28 [l0, l1, l2, l3, l4] (aI 32 :: st) s := Ze_n (i := (.bipush 32)) (len := 2) (by decide +kernel) rfl
theorem x75_28 : Ze d 75 28 [l0, l1, l2, l3, l4] (aI b :: aI a :: st) s = if a < b then Ze d 75 38 [l0, l1, l2, l3, l4] st s else Ze d 75 31 [l0, l1, l2, l3, l4] st s := Ze_b (i := (.if_icmp .lt 10)) (len := 3) (by decide +kernel) rfl
theorem x75_31 : Ze d 75 31 [l0, l1, l2, l3, aI z] st s = Ze d 75 33 [l0, l1, l2, l3, aI z] (aI z :: st) s := Ze_n (i := (.iload 4)) (len := 2) (by decide +kernel) rfl
theorem x75_33 : Ze d 75 33 [l0, l1, l2, l3, l4] st s = Ze d 75 35 [l0, l1, l2, l3, l4] (aI 126 :: st) s := Ze_n (i := (.bipush 126)) (len := 2) (by decide +kernel) rfl
theorem x75_35 : Ze d 75 35 [l0, l1, l2, l3, l4] (aI b :: aI a :: st) s = if b < a then Ze d 75 38 [l0, l1, l2, l3, l4] st s else Ze d 75 40 [l0, l1, l2, l3, l4] st s := Ze_b (i := (.if_icmp .le 5)) (len := 3) (by decide +kernel) rfl
theorem x75_38 : Ze d 75 38 [l0, l1, l2, l3, l4] st s = Ze d 75 39 [l0, l1, l2, l3, l4] (aI (-1) :: st) s := Ze_n (i := (.iconst (-1))) (len := 1) (by decide +kernel) rfl
theorem x75_39 : Ze d 75 39 [l0, l1, l2, l3, l4] [aI z] s = rI z s := Ze_i1 (by decide +kernel) rfl
theorem x75_40 : Ze d 75 40 [l0, l1, aI z, l3, l4] st s = Ze d 75 43 [l0, l1, aI (wrap (z + 1)), l3, l4] st s := Ze_n (i := (.iinc 2 1)) (len := 3) (by decide +kernel) rfl
theorem x75_43 : Ze d 75 43 [l0, l1, l2, aI z, l4] st s = Ze d 75 46 [l0, l1, l2, aI (wrap (z + (-8))), l4] st s := Ze_n (i := (.iinc 3 (-8))) (len := 3) (by decide +kernel) rfl
theorem x75_46 : Ze d 75 46 [l0, l1, l2, l3, l4] st s = Ze d 75 5 [l0, l1, l2, l3, l4] st s := Ze_n (i := (.goto (-41))) (len := 3) (by decide +kernel) rfl
theorem x75_49 : Ze d 75 49 [l0, l1, aI z, l3, l4] st s = Ze d 75 50 [l0, l1, aI z, l3, l4] (aI z :: st) s := Ze_n (i := (.iload_n 2)) (len := 1) (by decide +kernel) rfl
theorem x75_50 : Ze d 75 50 [l0, l1, l2, l3, l4] [aI z] s = rI z s := Ze_i1 (by decide +kernel) rfl
theorem en75 : Zc (d + 1) 75 [aL a0] s = Ze d 75 0 [aL a0, aU, aU, aU, aU] [] s := rfl
theorem x65_0 : Ze d 65 0 [aR r, l1] st s = Ze d 65 1 [aR r, l1] (aR r :: st) s := Ze_n (i := (.aload_n 0)) (len := 1) (by decide +kernel) rfl
theorem x65_1 (h : obC r = 1) : Ze d 65 1 [l0, l1] (aR r :: st) s = Ze d 65 4 [l0, l1] (aI (s r 1) :: st) s := Ze_gf (len := 3) (idx := 13) (by decide +kernel) rfl h rfl
theorem x65_4 : Ze d 65 4 [l0, l1] (aI z :: st) s = Ze d 65 5 [l0, aI z] st s := Ze_n (i := (.istore_n 1)) (len := 1) (by decide +kernel) rfl
theorem x65_5 : Ze d 65 5 [aR r, l1] st s = Ze d 65 6 [aR r, l1] (aR r :: st) s := Ze_n (i := (.aload_n 0)) (len := 1) (by decide +kernel) rfl
theorem x65_6 : Ze d 65 6 [l0, l1] st s = Ze d 65 7 [l0, l1] (aI 0 :: st) s := Ze_n (i := (.iconst 0)) (len := 1) (by decide +kernel) rfl
theorem x65_7 (h : obC r = 1) : Ze d 65 7 [l0, l1] (aI z :: aR r :: st) s = Ze d 65 10 [l0, l1] st (mu s r 1 z) := Ze_n (i := .putfield 13) (len := 3) (by decide +kernel) (if_pos h)
theorem x65_10 : Ze d 65 10 [l0, aI z] st s = Ze d 65 11 [l0, aI z] (aI z :: st) s := Ze_n (i := (.iload_n 1)) (len := 1) (by decide +kernel) rfl
theorem x65_11 : Ze d 65 11 [l0, l1] [aI z] s = rI z s := Ze_i1 (by decide +kernel) rfl
theorem en65 : Zc (d + 1) 65 [aR r] s = Ze d 65 0 [aR r, aU] [] s := rfl
theorem x67_0 : Ze d 67 0 [aR r] st s = Ze d 67 1 [aR r] (aR r :: st) s := Ze_n (i := (.aload_n 0)) (len := 1) (by decide +kernel) rfl
theorem x67_1 (h : obC r = 1) : Ze d 67 1 [l0] (aR r :: st) s = Ze d 67 4 [l0] (aI (s r 2) :: st) s := Ze_gf (len := 3) (idx := 17) (by decide +kernel) rfl h rfl
theorem x67_4 : Ze d 67 4 [l0] [aI z] s = rI z s := Ze_i1 (by decide +kernel) rfl
theorem en67 : Zc (d + 1) 67 [aR r] s = Ze d 67 0 [aR r] [] s := rfl
theorem x68_0 : Ze d 68 0 [l0, l1, aI z, l3] st s = Ze d 68 1 [l0, l1, aI z, l3] (aI z :: st) s := Ze_n (i := (.iload_n 2)) (len := 1) (by decide +kernel) rfl
theorem x68_1 : Ze d 68 1 [l0, l1, l2, l3] (aI a :: st) s = if a < 0 then Ze d 68 9 [l0, l1, l2, l3] st s else Ze d 68 4 [l0, l1, l2, l3] st s := Ze_b (i := (.ifCond .lt 8)) (len := 3) (by decide +kernel) rfl
theorem x68_4 : Ze d 68 4 [l0, l1, aI z, l3] st s = Ze d 68 5 [l0, l1, aI z, l3] (aI z :: st) s := Ze_n (i := (.iload_n 2)) (len := 1) (by decide +kernel) rfl
theorem x68_5 : Ze d 68 5 [l0, l1, l2, l3] st s = Ze d 68 6 [l0, l1, l2, l3] (aI 3 :: st) s := Ze_n (i := (.iconst 3)) (len := 1) (by decide +kernel) rfl
theorem x68_6 : Ze d 68 6 [l0, l1, l2, l3] (aI b :: aI a :: st) s = if b < a then Ze d 68 9 [l0, l1, l2, l3] st s else Ze d 68 19 [l0, l1, l2, l3] st s := Ze_b (i := (.if_icmp .le 13)) (len := 3) (by decide +kernel) rfl
theorem x68_9 : Ze d 68 9 [l0, l1, l2, l3] st s = rT 1 s := Ze_r (i := .new 90) (len := 3) (by decide +kernel) rfl
theorem x68_19 : Ze d 68 19 [aR r, l1, l2, l3] st s = Ze d 68 20 [aR r, l1, l2, l3] (aR r :: st) s := Ze_n (i := (.aload_n 0)) (len := 1) (by decide +kernel) rfl
theorem x68_20 (h : obC r = 1) (h2 : 0 ≤ s r 4) : Ze d 68 20 [l0, l1, l2, l3] (aR r :: st) s = Ze d 68 23 [l0, l1, l2, l3] (aR (s r 4).toNat :: st) s := Ze_gf (len := 3) (idx := 27) (by decide +kernel) rfl h (fldV_dyn rfl h2)
theorem x68_23 : Ze d 68 23 [l0, aI z, l2, l3] st s = Ze d 68 24 [l0, aI z, l2, l3] (aI z :: st) s := Ze_n (i := (.iload_n 1)) (len := 1) (by decide +kernel) rfl
theorem x68_24 (h : obC r = 3) (h6 : st.length ≤ 4) : Ze d 68 24 [l0, l1, l2, l3] (aI a1 :: aR r :: st) s = zcI (Zc d 90 [aR r, aI a1] s) d 68 27 [l0, l1, l2, l3] st := Ze_cvI (idx := 165) (len := 3) (as := [aI a1]) (by decide +kernel) rfl (by decide +kernel) rfl h h6
theorem x68_27 : Ze d 68 27 [l0, l1, l2, l3] (aI a :: st) s = if a = 0 then Ze d 68 30 [l0, l1, l2, l3] st s else Ze d 68 40 [l0, l1, l2, l3] st s := Ze_b (i := (.ifCond .ne 13)) (len := 3) (by decide +kernel) rfl
theorem x68_30 : Ze d 68 30 [l0, l1, l2, l3] st s = rT 6 s := Ze_r (i := .new 169) (len := 3) (by decide +kernel) rfl
theorem x68_40 : Ze d 68 40 [aR r, l1, l2, l3] st s = Ze d 68 41 [aR r, l1, l2, l3] (aR r :: st) s := Ze_n (i := (.aload_n 0)) (len := 1) (by decide +kernel) rfl
theorem x68_41 (h : obC r = 1) (h2 : 0 ≤ s r 4) : Ze d 68 41 [l0, l1, l2, l3] (aR r :: st) s = Ze d 68 44 [l0, l1, l2, l3] (aR (s r 4).toNat :: st) s := Ze_gf (len := 3) (idx := 27) (by decide +kernel) rfl h (fldV_dyn rfl h2)
theorem x68_44 (h : obC r = 3) : Ze d 68 44 [l0, l1, l2, l3] (aR r :: st) s = Ze d 68 47 [l0, l1, l2, l3] (aR (fcn r 0) :: st) s := Ze_gf (len := 3) (idx := 154) (by decide +kernel) rfl h rfl
theorem x68_47 : Ze d 68 47 [l0, l1, l2, l3] (aR r :: st) s = Ze d 68 48 [l0, l1, l2, aR r] st s := Ze_n (i := (.astore_n 3)) (len := 1) (by decide +kernel) rfl
theorem x68_48 : Ze d 68 48 [l0, l1, aI z, l3] st s = Ze d 68 49 [l0, l1, aI z, l3] (aI z :: st) s := Ze_n (i := (.iload_n 2)) (len := 1) (by decide +kernel) rfl
theorem x68_49 : Ze d 68 49 [l0, l1, l2, l3] (aI a :: st) s = if a = 0 then Ze d 68 76 [l0, l1, l2, l3] st s else if a = 1 then Ze d 68 83 [l0, l1, l2, l3] st s else if a = 2 then Ze d 68 90 [l0, l1, l2, l3] st s else Ze d 68 105 [l0, l1, l2, l3] st s :=
  Ze_ts (dflt := 56) (lo := 0) (hi := 2) (offs := #[27, 34, 41]) (len := 27) (ks := [(0, 76), (1, 83), (2, 90)]) (df := 105) (by decide +kernel) (by decide +kernel) (by decide +kernel)
theorem x68_76 : Ze d 68 76 [l0, l1, l2, aR r] st s = Ze d 68 77 [l0, l1, l2, aR r] (aR r :: st) s := Ze_n (i := (.aload_n 3)) (len := 1) (by decide +kernel) rfl
theorem x68_77 (h : obC r = 8) : Ze d 68 77 [l0, l1, l2, l3] (aR r :: st) s = Ze d 68 80 [l0, l1, l2, l3] (aR (fcn r 0) :: st) s := Ze_gf (len := 3) (idx := 174) (by decide +kernel) rfl h rfl
theorem x68_80 : Ze d 68 80 [l0, aI z, l2, l3] st s = Ze d 68 81 [l0, aI z, l2, l3] (aI z :: st) s := Ze_n (i := (.iload_n 1)) (len := 1) (by decide +kernel) rfl
theorem x68_81 (h0 : 0 ≤ i) (h1 : i < aN1 r) : Ze d 68 81 [l0, l1, l2, l3] (aI i :: aR r :: st) s = Ze d 68 82 [l0, l1, l2, l3] (aI (s r i.toNat) :: st) s := Ze_n (i := .iaload) (len := 1) (by decide +kernel) (if_pos ⟨h0, h1⟩)
theorem x68_82 : Ze d 68 82 [l0, l1, l2, l3] [aI z] s = rI z s := Ze_i1 (by decide +kernel) rfl
theorem x68_83 : Ze d 68 83 [l0, l1, l2, aR r] st s = Ze d 68 84 [l0, l1, l2, aR r] (aR r :: st) s := Ze_n (i := (.aload_n 3)) (len := 1) (by decide +kernel) rfl
theorem x68_84 (h : obC r = 8) : Ze d 68 84 [l0, l1, l2, l3] (aR r :: st) s = Ze d 68 87 [l0, l1, l2, l3] (aR (fcn r 2) :: st) s := Ze_gf (len := 3) (idx := 178) (by decide +kernel) rfl h rfl
theorem x68_87 : Ze d 68 87 [l0, aI z, l2, l3] st s = Ze d 68 88 [l0, aI z, l2, l3] (aI z :: st) s := Ze_n (i := (.iload_n 1)) (len := 1) (by decide +kernel) rfl
theorem x68_88 (h0 : 0 ≤ i) (h1 : i < aN1 r) : Ze d 68 88 [l0, l1, l2, l3] (aI i :: aR r :: st) s = Ze d 68 89 [l0, l1, l2, l3] (aI (s r i.toNat) :: st) s := Ze_n (i := .iaload) (len := 1) (by decide +kernel) (if_pos ⟨h0, h1⟩)
theorem x68_89 : Ze d 68 89 [l0, l1, l2, l3] [aI z] s = rI z s := Ze_i1 (by decide +kernel) rfl
theorem x68_90 : Ze d 68 90 [l0, l1, l2, aR r] st s = Ze d 68 91 [l0, l1, l2, aR r] (aR r :: st) s := Ze_n (i := (.aload_n 3)) (len := 1) (by decide +kernel) rfl
theorem x68_91 (h : obC r = 8) : Ze d 68 91 [l0, l1, l2, l3] (aR r :: st) s = Ze d 68 94 [l0, l1, l2, l3] (aR (fcn r 4) :: st) s := Ze_gf (len := 3) (idx := 181) (by decide +kernel) rfl h rfl
theorem x68_94 : Ze d 68 94 [l0, aI z, l2, l3] st s = Ze d 68 95 [l0, aI z, l2, l3] (aI z :: st) s := Ze_n (i := (.iload_n 1)) (len := 1) (by decide +kernel) rfl
theorem x68_95 (h0 : 0 ≤ i) (h1 : i < aN2 r) : Ze d 68 95 [l0, l1, l2, l3] (aI i :: aR r :: st) s = Ze d 68 96 [l0, l1, l2, l3] (aI (s r i.toNat) :: st) s := Ze_n (i := .baload) (len := 1) (by decide +kernel) (if_pos ⟨h0, h1⟩)
theorem x68_96 : Ze d 68 96 [l0, l1, l2, l3] (aI a :: st) s = if a = 0 then Ze d 68 103 [l0, l1, l2, l3] st s else Ze d 68 99 [l0, l1, l2, l3] st s := Ze_b (i := (.ifCond .eq 7)) (len := 3) (by decide +kernel) rfl
theorem x68_99 : Ze d 68 99 [l0, l1, l2, l3] st s = Ze d 68 100 [l0, l1, l2, l3] (aI 1 :: st) s := Ze_n (i := (.iconst 1)) (len := 1) (by decide +kernel) rfl
theorem x68_100 : Ze d 68 100 [l0, l1, l2, l3] st s = Ze d 68 104 [l0, l1, l2, l3] st s := Ze_n (i := (.goto 4)) (len := 3) (by decide +kernel) rfl
theorem x68_103 : Ze d 68 103 [l0, l1, l2, l3] st s = Ze d 68 104 [l0, l1, l2, l3] (aI 0 :: st) s := Ze_n (i := (.iconst 0)) (len := 1) (by decide +kernel) rfl
theorem x68_104 : Ze d 68 104 [l0, l1, l2, l3] [aI z] s = rI z s := Ze_i1 (by decide +kernel) rfl
theorem x68_105 : Ze d 68 105 [l0, l1, l2, aR r] st s = Ze d 68 106 [l0, l1, l2, aR r] (aR r :: st) s := Ze_n (i := (.aload_n 3)) (len := 1) (by decide +kernel) rfl
theorem x68_106 (h : obC r = 8) : Ze d 68 106 [l0, l1, l2, l3] (aR r :: st) s = Ze d 68 109 [l0, l1, l2, l3] (aR (fcn r 1) :: st) s := Ze_gf (len := 3) (idx := 185) (by decide +kernel) rfl h rfl
theorem x68_109 : Ze d 68 109 [l0, aI z, l2, l3] st s = Ze d 68 110 [l0, aI z, l2, l3] (aI z :: st) s := Ze_n (i := (.iload_n 1)) (len := 1) (by decide +kernel) rfl
theorem x68_110 (h0 : 0 ≤ i) (h1 : i < aN1 r) : Ze d 68 110 [l0, l1, l2, l3] (aI i :: aR r :: st) s = Ze d 68 111 [l0, l1, l2, l3] (aI (s r i.toNat) :: st) s := Ze_n (i := .iaload) (len := 1) (by decide +kernel) (if_pos ⟨h0, h1⟩)
theorem x68_111 : Ze d 68 111 [l0, l1, l2, l3] [aI z] s = rI z s := Ze_i1 (by decide +kernel) rfl
theorem en68 : Zc (d + 1) 68 [aR r, aI a1, aI a2] s = Ze d 68 0 [aR r, aI a1, aI a2, aU] [] s := rfl
theorem x69_0 : Ze d 69 0 [aR r, l1] st s = Ze d 69 1 [aR r, l1] (aR r :: st) s := Ze_n (i := (.aload_n 0)) (len := 1) (by decide +kernel) rfl
theorem x69_1 (h : obC r = 1) (h2 : 0 ≤ s r 4) : Ze d 69 1 [l0, l1] (aR r :: st) s = Ze d 69 4 [l0, l1] (aR (s r 4).toNat :: st) s := Ze_gf (len := 3) (idx := 27) (by decide +kernel) rfl h (fldV_dyn rfl h2)
theorem x69_4 : Ze d 69 4 [l0, aI z] st s = Ze d 69 5 [l0, aI z] (aI z :: st) s := Ze_n (i := (.iload_n 1)) (len := 1) (by decide +kernel) rfl
theorem x69_5 (h : obC r = 3) (h6 : st.length ≤ 4) : Ze d 69 5 [l0, l1] (aI a1 :: aR r :: st) s = zcI (Zc d 90 [aR r, aI a1] s) d 69 8 [l0, l1] st := Ze_cvI (idx := 165) (len := 3) (as := [aI a1]) (by decide +kernel) rfl (by decide +kernel) rfl h h6
theorem x69_8 : Ze d 69 8 [l0, l1] (aI a :: st) s = if a = 0 then Ze d 69 11 [l0, l1] st s else Ze d 69 21 [l0, l1] st s := Ze_b (i := (.ifCond .ne 13)) (len := 3) (by decide +kernel) rfl
theorem x69_11 : Ze d 69 11 [l0, l1] st s = rT 6 s := Ze_r (i := .new 169) (len := 3) (by decide +kernel) rfl
theorem x69_21 : Ze d 69 21 [aR r, l1] st s = Ze d 69 22 [aR r, l1] (aR r :: st) s := Ze_n (i := (.aload_n 0)) (len := 1) (by decide +kernel) rfl
theorem x69_22 (h : obC r = 1) (h2 : 0 ≤ s r 4) : Ze d 69 22 [l0, l1] (aR r :: st) s = Ze d 69 25 [l0, l1] (aR (s r 4).toNat :: st) s := Ze_gf (len := 3) (idx := 27) (by decide +kernel) rfl h (fldV_dyn rfl h2)
theorem x69_25 (h : obC r = 3) : Ze d 69 25 [l0, l1] (aR r :: st) s = Ze d 69 28 [l0, l1] (aR (fcn r 8) :: st) s := Ze_gf (len := 3) (idx := 188) (by decide +kernel) rfl h rfl
theorem x69_28 : Ze d 69 28 [l0, aI z] st s = Ze d 69 29 [l0, aI z] (aI z :: st) s := Ze_n (i := (.iload_n 1)) (len := 1) (by decide +kernel) rfl
theorem x69_29 (h0 : 0 ≤ i) (h1 : i < aN1 r) : Ze d 69 29 [l0, l1] (aI i :: aR r :: st) s = Ze d 69 30 [l0, l1] (aI (s r i.toNat) :: st) s := Ze_n (i := .iaload) (len := 1) (by decide +kernel) (if_pos ⟨h0, h1⟩)
theorem x69_30 : Ze d 69 30 [l0, l1] [aI z] s = rI z s := Ze_i1 (by decide +kernel) rfl
theorem en69 : Zc (d + 1) 69 [aR r, aI a1] s = Ze d 69 0 [aR r, aI a1] [] s := rfl
theorem x70_0 : Ze d 70 0 [aR r, l1, l2] st s = Ze d 70 1 [aR r, l1, l2] (aR r :: st) s := Ze_n (i := (.aload_n 0)) (len := 1) (by decide +kernel) rfl
theorem x70_1 (h : obC r = 1) (h2 : 0 ≤ s r 4) : Ze d 70 1 [l0, l1, l2] (aR r :: st) s = Ze d 70 4 [l0, l1, l2] (aR (s r 4).toNat :: st) s := Ze_gf (len := 3) (idx := 27) (by decide +kernel) rfl h (fldV_dyn rfl h2)
theorem x70_4 : Ze d 70 4 [l0, aI z, l2] st s = Ze d 70 5 [l0, aI z, l2] (aI z :: st) s := Ze_n (i := (.iload_n 1)) (len := 1) (by decide +kernel) rfl
theorem x70_5 (h : obC r = 3) (h6 : st.length ≤ 4) : Ze d 70 5 [l0, l1, l2] (aI a1 :: aR r :: st) s = zcI (Zc d 90 [aR r, aI a1] s) d 70 8 [l0, l1, l2] st := Ze_cvI (idx := 165) (len := 3) (as := [aI a1]) (by decide +kernel) rfl (by decide +kernel) rfl h h6
theorem x70_8 : Ze d 70 8 [l0, l1, l2] (aI a :: st) s = if a = 0 then Ze d 70 11 [l0, l1, l2] st s else Ze d 70 21 [l0, l1, l2] st s := Ze_b (i := (.ifCond .ne 13)) (len := 3) (by decide +kernel) rfl
theorem x70_11 : Ze d 70 11 [l0, l1, l2] st s = rT 6 s := Ze_r (i := .new 169) (len := 3) (by decide +kernel) rfl
theorem x70_21 : Ze d 70 21 [aR r, l1, l2] st s = Ze d 70 22 [aR r, l1, l2] (aR r :: st) s := Ze_n (i := (.aload_n 0)) (len := 1) (by decide +kernel) rfl
theorem x70_22 (h : obC r = 1) (h2 : 0 ≤ s r 4) : Ze d 70 22 [l0, l1, l2] (aR r :: st) s = Ze d 70 25 [l0, l1, l2] (aR (s r 4).toNat :: st) s := Ze_gf (len := 3) (idx := 27) (by decide +kernel) rfl h (fldV_dyn rfl h2)
theorem x70_25 (h : obC r = 3) : Ze d 70 25 [l0, l1, l2] (aR r :: st) s = Ze d 70 28 [l0, l1, l2] (aR (fcn r 0) :: st) s := Ze_gf (len := 3) (idx := 154) (by decide +kernel) rfl h rfl
theorem x70_28 : Ze d 70 28 [l0, aI z, l2] st s = Ze d 70 29 [l0, aI z, l2] (aI z :: st) s := Ze_n (i := (.iload_n 1)) (len := 1) (by decide +kernel) rfl
theorem x70_29 (h : obC r = 8) (h6 : st.length ≤ 4) : Ze d 70 29 [l0, l1, l2] (aI a1 :: aR r :: st) s = zcI (Zc d 145 [aR r, aI a1] s) d 70 32 [l0, l1, l2] st := Ze_cvI (idx := 191) (len := 3) (as := [aI a1]) (by decide +kernel) rfl (by decide +kernel) rfl h h6
theorem x70_32 : Ze d 70 32 [l0, l1, l2] (aI a :: st) s = if a = 0 then Ze d 70 35 [l0, l1, l2] st s else Ze d 70 45 [l0, l1, l2] st s := Ze_b (i := (.ifCond .ne 13)) (len := 3) (by decide +kernel) rfl
theorem x70_35 : Ze d 70 35 [l0, l1, l2] st s = rT 2 s := Ze_r (i := .new 120) (len := 3) (by decide +kernel) rfl
theorem x70_45 : Ze d 70 45 [aR r, l1, l2] st s = Ze d 70 46 [aR r, l1, l2] (aR r :: st) s := Ze_n (i := (.aload_n 0)) (len := 1) (by decide +kernel) rfl
theorem x70_46 (h : obC r = 1) (h2 : 0 ≤ s r 4) : Ze d 70 46 [l0, l1, l2] (aR r :: st) s = Ze d 70 49 [l0, l1, l2] (aR (s r 4).toNat :: st) s := Ze_gf (len := 3) (idx := 27) (by decide +kernel) rfl h (fldV_dyn rfl h2)
theorem x70_49 : Ze d 70 49 [l0, aI z, l2] st s = Ze d 70 50 [l0, aI z, l2] (aI z :: st) s := Ze_n (i := (.iload_n 1)) (len := 1) (by decide +kernel) rfl
theorem x70_50 : Ze d 70 50 [l0, l1, aI z] st s = Ze d 70 51 [l0, l1, aI z] (aI z :: st) s := Ze_n (i := (.iload_n 2)) (len := 1) (by decide +kernel) rfl
theorem x70_51 (h : obC r = 3) (h6 : st.length ≤ 4) : Ze d 70 51 [l0, l1, l2] (aI a2 :: aI a1 :: aR r :: st) s = zcI (Zc d 96 [aR r, aI a1, aI a2] s) d 70 54 [l0, l1, l2] st := Ze_cvI (idx := 196) (len := 3) (as := [aI a1, aI a2]) (by decide +kernel) rfl (by decide +kernel) rfl h h6
theorem x70_54 : Ze d 70 54 [l0, l1, l2] [aI z] s = rI z s := Ze_i1 (by decide +kernel) rfl
theorem en70 : Zc (d + 1) 70 [aR r, aI a1, aI a2] s = Ze d 70 0 [aR r, aI a1, aI a2] [] s := rfl
theorem x71_0 : Ze d 71 0 [aR r, l1] st s = Ze d 71 1 [aR r, l1] (aR r :: st) s := Ze_n (i := (.aload_n 0)) (len := 1) (by decide +kernel) rfl
theorem x71_1 (h : obC r = 1) (h2 : 0 ≤ s r 4) : Ze d 71 1 [l0, l1] (aR r :: st) s = Ze d 71 4 [l0, l1] (aR (s r 4).toNat :: st) s := Ze_gf (len := 3) (idx := 27) (by decide +kernel) rfl h (fldV_dyn rfl h2)
theorem x71_4 : Ze d 71 4 [l0, aI z] st s = Ze d 71 5 [l0, aI z] (aI z :: st) s := Ze_n (i := (.iload_n 1)) (len := 1) (by decide +kernel) rfl
theorem x71_5 (h : obC r = 3) (h6 : st.length ≤ 4) : Ze d 71 5 [l0, l1] (aI a1 :: aR r :: st) s = zcI (Zc d 90 [aR r, aI a1] s) d 71 8 [l0, l1] st := Ze_cvI (idx := 165) (len := 3) (as := [aI a1]) (by decide +kernel) rfl (by decide +kernel) rfl h h6
theorem x71_8 : Ze d 71 8 [l0, l1] (aI a :: st) s = if a = 0 then Ze d 71 11 [l0, l1] st s else Ze d 71 21 [l0, l1] st s := Ze_b (i := (.ifCond .ne 13)) (len := 3) (by decide +kernel) rfl
theorem x71_11 : Ze d 71 11 [l0, l1] st s = rT 6 s := Ze_r (i := .new 169) (len := 3) (by decide +kernel) rfl
theorem x71_21 : Ze d 71 21 [aR r, l1] st s = Ze d 71 22 [aR r, l1] (aR r :: st) s := Ze_n (i := (.aload_n 0)) (len := 1) (by decide +kernel) rfl
theorem x71_22 (h : obC r = 1) (h2 : 0 ≤ s r 4) : Ze d 71 22 [l0, l1] (aR r :: st) s = Ze d 71 25 [l0, l1] (aR (s r 4).toNat :: st) s := Ze_gf (len := 3) (idx := 27) (by decide +kernel) rfl h (fldV_dyn rfl h2)
theorem x71_25 (h : obC r = 3) : Ze d 71 25 [l0, l1] (aR r :: st) s = Ze d 71 28 [l0, l1] (aR (fcn r 11) :: st) s := Ze_gf (len := 3) (idx := 200) (by decide +kernel) rfl h rfl
theorem x71_28 : Ze d 71 28 [l0, aI z] st s = Ze d 71 29 [l0, aI z] (aI z :: st) s := Ze_n (i := (.iload_n 1)) (len := 1) (by decide +kernel) rfl
theorem x71_29 (h0 : 0 ≤ i) (h1 : i < aN1 r) : Ze d 71 29 [l0, l1] (aI i :: aR r :: st) s = Ze d 71 30 [l0, l1] (aI (s r i.toNat) :: st) s := Ze_n (i := .iaload) (len := 1) (by decide +kernel) (if_pos ⟨h0, h1⟩)
theorem x71_30 : Ze d 71 30 [l0, l1] [aI z] s = rI z s := Ze_i1 (by decide +kernel) rfl
theorem en71 : Zc (d + 1) 71 [aR r, aI a1] s = Ze d 71 0 [aR r, aI a1] [] s := rfl
theorem x72_0 : Ze d 72 0 [l0, aI z, l2] st s = Ze d 72 1 [l0, aI z, l2] (aI z :: st) s := Ze_n (i := (.iload_n 1)) (len := 1) (by decide +kernel) rfl
theorem x72_1 : Ze d 72 1 [l0, l1, l2] st s = Ze d 72 2 [l0, l1, l2] (aI 1 :: st) s := Ze_n (i := (.iconst 1)) (len := 1) (by decide +kernel) rfl
theorem x72_2 : Ze d 72 2 [l0, l1, l2] (aI b :: aI a :: st) s = if a < b then Ze d 72 11 [l0, l1, l2] st s else Ze d 72 5 [l0, l1, l2] st s := Ze_b (i := (.if_icmp .lt 9)) (len := 3) (by decide +kernel) rfl
theorem x72_5 : Ze d 72 5 [l0, aI z, l2] st s = Ze d 72 6 [l0, aI z, l2] (aI z :: st) s := Ze_n (i := (.iload_n 1)) (len := 1) (by decide +kernel) rfl
theorem x72_6 : Ze d 72 6 [l0, l1, l2] st s = Ze d 72 8 [l0, l1, l2] (aI 40 :: st) s := Ze_n (i := (.bipush 40)) (len := 2) (by decide +kernel) rfl
theorem x72_8 : Ze d 72 8 [l0, l1, l2] (aI b :: aI a :: st) s = if b < a then Ze d 72 11 [l0, l1, l2] st s else Ze d 72 21 [l0, l1, l2] st s := Ze_b (i := (.if_icmp .le 13)) (len := 3) (by decide +kernel) rfl
theorem x72_11 : Ze d 72 11 [l0, l1, l2] st s = rT 1 s := Ze_r (i := .new 90) (len := 3) (by decide +kernel) rfl
theorem x72_21 : Ze d 72 21 [aR r, l1, l2] st s = Ze d 72 22 [aR r, l1, l2] (aR r :: st) s := Ze_n (i := (.aload_n 0)) (len := 1) (by decide +kernel) rfl
theorem x72_22 (h : obC r = 1) : Ze d 72 22 [l0, l1, l2] (aR r :: st) s = Ze d 72 25 [l0, l1, l2] (aI (s r 3) :: st) s := Ze_gf (len := 3) (idx := 20) (by decide +kernel) rfl h rfl
theorem x72_25 : Ze d 72 25 [l0, l1, l2] (aI a :: st) s = if a = 0 then Ze d 72 28 [l0, l1, l2] st s else Ze d 72 38 [l0, l1, l2] st s := Ze_b (i := (.ifCond .ne 13)) (len := 3) (by decide +kernel) rfl
theorem x72_28 : Ze d 72 28 [l0, l1, l2] st s = rT 3 s := Ze_r (i := .new 97) (len := 3) (by decide +kernel) rfl
theorem x72_38 : Ze d 72 38 [l0, l1, l2] st s = Ze d 72 39 [l0, l1, l2] (aI 0 :: st) s := Ze_n (i := (.iconst 0)) (len := 1) (by decide +kernel) rfl
theorem x72_39 : Ze d 72 39 [l0, l1, l2] (aI z :: st) s = Ze d 72 40 [l0, l1, aI z] st s := Ze_n (i := (.istore_n 2)) (len := 1) (by decide +kernel) rfl
theorem x72_40 : Ze d 72 40 [l0, l1, aI z] st s = Ze d 72 41 [l0, l1, aI z] (aI z :: st) s := Ze_n (i := (.iload_n 2)) (len := 1) (by decide +kernel) rfl
theorem x72_41 : Ze d 72 41 [l0, aI z, l2] st s = Ze d 72 42 [l0, aI z, l2] (aI z :: st) s := Ze_n (i := (.iload_n 1)) (len := 1) (by decide +kernel) rfl
theorem x72_42 : Ze d 72 42 [l0, l1, l2] (aI b :: aI a :: st) s = if a < b then Ze d 72 45 [l0, l1, l2] st s else Ze d 72 58 [l0, l1, l2] st s := Ze_b (i := (.if_icmp .ge 16)) (len := 3) (by decide +kernel) rfl
theorem x72_45 : Ze d 72 45 [aR r, l1, l2] st s = Ze d 72 46 [aR r, l1, l2] (aR r :: st) s := Ze_n (i := (.aload_n 0)) (len := 1) (by decide +kernel) rfl
theorem x72_46 (h : obC r = 1) (h2 : 0 ≤ s r 4) : Ze d 72 46 [l0, l1, l2] (aR r :: st) s = Ze d 72 49 [l0, l1, l2] (aR (s r 4).toNat :: st) s := Ze_gf (len := 3) (idx := 27) (by decide +kernel) rfl h (fldV_dyn rfl h2)
theorem x72_49 (h : obC r = 3) (h6 : st.length ≤ 4) : Ze d 72 49 [l0, l1, l2] (aR r :: st) s = zcV (Zc d 97 [aR r] s) d 72 52 [l0, l1, l2] st := Ze_cvV (idx := 207) (len := 3) (as := []) (by decide +kernel) rfl (by decide +kernel) rfl h h6
theorem x72_52 : Ze d 72 52 [l0, l1, aI z] st s = Ze d 72 55 [l0, l1, aI (wrap (z + 1))] st s := Ze_n (i := (.iinc 2 1)) (len := 3) (by decide +kernel) rfl
theorem x72_55 : Ze d 72 55 [l0, l1, l2] st s = Ze d 72 40 [l0, l1, l2] st s := Ze_n (i := (.goto (-15))) (len := 3) (by decide +kernel) rfl
theorem x72_58 : Ze d 72 58 [aR r, l1, l2] st s = Ze d 72 59 [aR r, l1, l2] (aR r :: st) s := Ze_n (i := (.aload_n 0)) (len := 1) (by decide +kernel) rfl
theorem x72_59 (h : obC r = 1) (h2 : 0 ≤ s r 4) : Ze d 72 59 [l0, l1, l2] (aR r :: st) s = Ze d 72 62 [l0, l1, l2] (aR (s r 4).toNat :: st) s := Ze_gf (len := 3) (idx := 27) (by decide +kernel) rfl h (fldV_dyn rfl h2)
theorem x72_62 (h : obC r = 3) : Ze d 72 62 [l0, l1, l2] (aR r :: st) s = Ze d 72 65 [l0, l1, l2] (aI (s r 15) :: st) s := Ze_gf (len := 3) (idx := 210) (by decide +kernel) rfl h rfl
theorem x72_65 : Ze d 72 65 [l0, l1, l2] [aI z] s = rI z s := Ze_i1 (by decide +kernel) rfl
theorem en72 : Zc (d + 1) 72 [aR r, aI a1] s = Ze d 72 0 [aR r, aI a1, aU] [] s := rfl
theorem x74_0 : Ze d 74 0 [l0, aI z] st s = Ze d 74 1 [l0, aI z] (aI z :: st) s := Ze_n (i := (.iload_n 1)) (len := 1) (by decide +kernel) rfl
theorem x74_1 : Ze d 74 1 [l0, l1] (aI a :: st) s = if a < 0 then Ze d 74 9 [l0, l1] st s else Ze d 74 4 [l0, l1] st s := Ze_b (i := (.ifCond .lt 8)) (len := 3) (by decide +kernel) rfl
theorem x74_4 : Ze d 74 4 [l0, aI z] st s = Ze d 74 5 [l0, aI z] (aI z :: st) s := Ze_n (i := (.iload_n 1)) (len := 1) (by decide +kernel) rfl
theorem x74_5 : Ze d 74 5 [l0, l1] st s = Ze d 74 6 [l0, l1] (aI 5 :: st) s := Ze_n (i := (.iconst 5)) (len := 1) (by decide +kernel) rfl
theorem x74_6 : Ze d 74 6 [l0, l1] (aI b :: aI a :: st) s = if b < a then Ze d 74 9 [l0, l1] st s else Ze d 74 19 [l0, l1] st s := Ze_b (i := (.if_icmp .le 13)) (len := 3) (by decide +kernel) rfl
theorem x74_9 : Ze d 74 9 [l0, l1] st s = rT 1 s := Ze_r (i := .new 90) (len := 3) (by decide +kernel) rfl
theorem x74_19 : Ze d 74 19 [l0, aI z] st s = Ze d 74 20 [l0, aI z] (aI z :: st) s := Ze_n (i := (.iload_n 1)) (len := 1) (by decide +kernel) rfl
theorem x74_20 : Ze d 74 20 [l0, l1] (aI a :: st) s = if a = 0 then Ze d 74 56 [l0, l1] st s else if a = 1 then Ze d 74 61 [l0, l1] st s else if a = 2 then Ze d 74 72 [l0, l1] st s else if a = 3 then Ze d 74 83 [l0, l1] st s else if a = 4 then Ze d 74 94 [l0, l1] st s else Ze d 74 102 [l0, l1] st s :=
  Ze_ts (dflt := 82) (lo := 0) (hi := 4) (offs := #[36, 41, 52, 63, 74]) (len := 36) (ks := [(0, 56), (1, 61), (2, 72), (3, 83), (4, 94)]) (df := 102) (by decide +kernel) (by decide +kernel) (by decide +kernel)
theorem x74_56 : Ze d 74 56 [aR r, l1] st s = Ze d 74 57 [aR r, l1] (aR r :: st) s := Ze_n (i := (.aload_n 0)) (len := 1) (by decide +kernel) rfl
theorem x74_57 (h : obC r = 1) : Ze d 74 57 [l0, l1] (aR r :: st) s = Ze d 74 60 [l0, l1] (aI (s r 1) :: st) s := Ze_gf (len := 3) (idx := 13) (by decide +kernel) rfl h rfl
theorem x74_60 : Ze d 74 60 [l0, l1] [aI z] s = rI z s := Ze_i1 (by decide +kernel) rfl
theorem x74_61 : Ze d 74 61 [aR r, l1] st s = Ze d 74 62 [aR r, l1] (aR r :: st) s := Ze_n (i := (.aload_n 0)) (len := 1) (by decide +kernel) rfl
theorem x74_62 (h : obC r = 1) (h2 : 0 ≤ s r 4) : Ze d 74 62 [l0, l1] (aR r :: st) s = Ze d 74 65 [l0, l1] (aR (s r 4).toNat :: st) s := Ze_gf (len := 3) (idx := 27) (by decide +kernel) rfl h (fldV_dyn rfl h2)
theorem x74_65 (h : obC r = 3) : Ze d 74 65 [l0, l1] (aR r :: st) s = Ze d 74 68 [l0, l1] (aR (fcn r 0) :: st) s := Ze_gf (len := 3) (idx := 154) (by decide +kernel) rfl h rfl
theorem x74_68 (h : obC r = 8) : Ze d 74 68 [l0, l1] (aR r :: st) s = Ze d 74 71 [l0, l1] (aI (s r 6) :: st) s := Ze_gf (len := 3) (idx := 158) (by decide +kernel) rfl h rfl
theorem x74_71 : Ze d 74 71 [l0, l1] [aI z] s = rI z s := Ze_i1 (by decide +kernel) rfl
theorem x74_72 : Ze d 74 72 [aR r, l1] st s = Ze d 74 73 [aR r, l1] (aR r :: st) s := Ze_n (i := (.aload_n 0)) (len := 1) (by decide +kernel) rfl
theorem x74_73 (h : obC r = 1) (h2 : 0 ≤ s r 4) : Ze d 74 73 [l0, l1] (aR r :: st) s = Ze d 74 76 [l0, l1] (aR (s r 4).toNat :: st) s := Ze_gf (len := 3) (idx := 27) (by decide +kernel) rfl h (fldV_dyn rfl h2)
theorem x74_76 (h : obC r = 3) : Ze d 74 76 [l0, l1] (aR r :: st) s = Ze d 74 79 [l0, l1] (aR (fcn r 0) :: st) s := Ze_gf (len := 3) (idx := 154) (by decide +kernel) rfl h rfl
theorem x74_79 (h : obC r = 8) (h6 : st.length ≤ 4) : Ze d 74 79 [l0, l1] (aR r :: st) s = zcI (Zc d 146 [aR r] s) d 74 82 [l0, l1] st := Ze_cvI (idx := 218) (len := 3) (as := []) (by decide +kernel) rfl (by decide +kernel) rfl h h6
theorem x74_82 : Ze d 74 82 [l0, l1] [aI z] s = rI z s := Ze_i1 (by decide +kernel) rfl
theorem x74_83 : Ze d 74 83 [aR r, l1] st s = Ze d 74 84 [aR r, l1] (aR r :: st) s := Ze_n (i := (.aload_n 0)) (len := 1) (by decide +kernel) rfl
theorem x74_84 (h : obC r = 1) (h2 : 0 ≤ s r 4) : Ze d 74 84 [l0, l1] (aR r :: st) s = Ze d 74 87 [l0, l1] (aR (s r 4).toNat :: st) s := Ze_gf (len := 3) (idx := 27) (by decide +kernel) rfl h (fldV_dyn rfl h2)
theorem x74_87 (h : obC r = 3) : Ze d 74 87 [l0, l1] (aR r :: st) s = Ze d 74 90 [l0, l1] (aR (fcn r 0) :: st) s := Ze_gf (len := 3) (idx := 154) (by decide +kernel) rfl h rfl
theorem x74_90 (h : obC r = 8) (h6 : st.length ≤ 4) : Ze d 74 90 [l0, l1] (aR r :: st) s = zcI (Zc d 147 [aR r] s) d 74 93 [l0, l1] st := Ze_cvI (idx := 222) (len := 3) (as := []) (by decide +kernel) rfl (by decide +kernel) rfl h h6
theorem x74_93 : Ze d 74 93 [l0, l1] [aI z] s = rI z s := Ze_i1 (by decide +kernel) rfl
theorem x74_94 : Ze d 74 94 [aR r, l1] st s = Ze d 74 95 [aR r, l1] (aR r :: st) s := Ze_n (i := (.aload_n 0)) (len := 1) (by decide +kernel) rfl
theorem x74_95 (h : obC r = 1) (h2 : 0 ≤ s r 4) : Ze d 74 95 [l0, l1] (aR r :: st) s = Ze d 74 98 [l0, l1] (aR (s r 4).toNat :: st) s := Ze_gf (len := 3) (idx := 27) (by decide +kernel) rfl h (fldV_dyn rfl h2)
theorem x74_98 (h : obC r = 3) : Ze d 74 98 [l0, l1] (aR r :: st) s = Ze d 74 101 [l0, l1] (aI (s r 2) :: st) s := Ze_gf (len := 3) (idx := 225) (by decide +kernel) rfl h rfl
theorem x74_101 : Ze d 74 101 [l0, l1] [aI z] s = rI z s := Ze_i1 (by decide +kernel) rfl
theorem x74_102 : Ze d 74 102 [aR r, l1] st s = Ze d 74 103 [aR r, l1] (aR r :: st) s := Ze_n (i := (.aload_n 0)) (len := 1) (by decide +kernel) rfl
theorem x74_103 (h : obC r = 1) (h2 : 0 ≤ s r 4) : Ze d 74 103 [l0, l1] (aR r :: st) s = Ze d 74 106 [l0, l1] (aR (s r 4).toNat :: st) s := Ze_gf (len := 3) (idx := 27) (by decide +kernel) rfl h (fldV_dyn rfl h2)
theorem x74_106 (h : obC r = 3) : Ze d 74 106 [l0, l1] (aR r :: st) s = Ze d 74 109 [l0, l1] (aR (fcn r 0) :: st) s := Ze_gf (len := 3) (idx := 154) (by decide +kernel) rfl h rfl
theorem x74_109 (h : obC r = 8) (h6 : st.length ≤ 4) : Ze d 74 109 [l0, l1] (aR r :: st) s = zcI (Zc d 148 [aR r] s) d 74 112 [l0, l1] st := Ze_cvI (idx := 228) (len := 3) (as := []) (by decide +kernel) rfl (by decide +kernel) rfl h h6
theorem x74_112 : Ze d 74 112 [l0, l1] [aI z] s = rI z s := Ze_i1 (by decide +kernel) rfl
theorem en74 : Zc (d + 1) 74 [aR r, aI a1] s = Ze d 74 0 [aR r, aI a1] [] s := rfl
