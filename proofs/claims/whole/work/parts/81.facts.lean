/-- what the tables say of a method -/
def FM (y : Nat) : Prop := Cond.code (mN y) (mB y) (mL y) (retT (mRt y)) ∈ TBW ∧ Cond.initialized (mN y).cls ∈ TBW ∧ plainName (mN y).cls = true ∧ (mN y).cls = clsN (mC y) ∧ ((mN y).cls ≠ "java/lang/invoke/MethodHandle" ∧ (mN y).cls ≠ "java/lang/invoke/VarHandle" ∧ (parseMethodDescriptor (mN y).desc).map (fun d => d.parameters.length) = some (if mSt y = 0 then mNa y - 1 else mNa y)) ∧ (mSt y = 0 → Cond.instanceMethod (mN y) ∈ TBW ∧ Cond.selects (clsN (mC y)) (mN y) (mN y) ∈ TBW) ∧ (mSt y = 1 → Cond.static (mN y) ∈ TBW)
set_option maxRecDepth 20000 in
theorem zfm0 : FM 0 := ⟨tb6 159 rfl rfl, tb1 13 rfl rfl, by decide +kernel, rfl, by decide +kernel, (fun _ => ⟨tb6 157 rfl rfl, tb6 158 rfl rfl⟩), (fun h => absurd h (by decide))⟩
set_option maxRecDepth 20000 in
theorem zfm1 : FM 1 := ⟨tb6 166 rfl rfl, tb1 13 rfl rfl, by decide +kernel, rfl, by decide +kernel, (fun h => absurd h (by decide)), (fun _ => tb6 165 rfl rfl)⟩
set_option maxRecDepth 20000 in
theorem zfm2 : FM 2 := ⟨tb6 170 rfl rfl, tb1 13 rfl rfl, by decide +kernel, rfl, by decide +kernel, (fun _ => ⟨tb6 169 rfl rfl, tbq 53 rfl rfl⟩), (fun h => absurd h (by decide))⟩
set_option maxRecDepth 20000 in
theorem zfm3 : FM 3 := ⟨tb6 163 rfl rfl, tb1 13 rfl rfl, by decide +kernel, rfl, by decide +kernel, (fun _ => ⟨tb6 161 rfl rfl, tb6 162 rfl rfl⟩), (fun h => absurd h (by decide))⟩
set_option maxRecDepth 20000 in
theorem zfm4 : FM 4 := ⟨tb6 174 rfl rfl, tb1 13 rfl rfl, by decide +kernel, rfl, by decide +kernel, (fun _ => ⟨tb6 172 rfl rfl, tb6 173 rfl rfl⟩), (fun h => absurd h (by decide))⟩
set_option maxRecDepth 20000 in
theorem zfm5 : FM 5 := ⟨tb6 198 rfl rfl, tb1 13 rfl rfl, by decide +kernel, rfl, by decide +kernel, (fun _ => ⟨tb6 197 rfl rfl, tbq 58 rfl rfl⟩), (fun h => absurd h (by decide))⟩
set_option maxRecDepth 20000 in
theorem zfm6 : FM 6 := ⟨tb6 190 rfl rfl, tb1 13 rfl rfl, by decide +kernel, rfl, by decide +kernel, (fun _ => ⟨tb6 189 rfl rfl, tbq 56 rfl rfl⟩), (fun h => absurd h (by decide))⟩
set_option maxRecDepth 20000 in
theorem zfm7 : FM 7 := ⟨tb6 186 rfl rfl, tb1 13 rfl rfl, by decide +kernel, rfl, by decide +kernel, (fun _ => ⟨tb6 185 rfl rfl, tbq 55 rfl rfl⟩), (fun h => absurd h (by decide))⟩
set_option maxRecDepth 20000 in
theorem zfm8 : FM 8 := ⟨tb6 194 rfl rfl, tb1 13 rfl rfl, by decide +kernel, rfl, by decide +kernel, (fun _ => ⟨tb6 193 rfl rfl, tbq 57 rfl rfl⟩), (fun h => absurd h (by decide))⟩
set_option maxRecDepth 20000 in
theorem zfm9 : FM 9 := ⟨tb6 236 rfl rfl, tb1 13 rfl rfl, by decide +kernel, rfl, by decide +kernel, (fun h => absurd h (by decide)), (fun _ => tb6 235 rfl rfl)⟩
set_option maxRecDepth 20000 in
theorem zfm10 : FM 10 := ⟨tb6 216 rfl rfl, tb1 13 rfl rfl, by decide +kernel, rfl, by decide +kernel, (fun h => absurd h (by decide)), (fun _ => tb6 215 rfl rfl)⟩
set_option maxRecDepth 20000 in
theorem zfm11 : FM 11 := ⟨tb6 228 rfl rfl, tb1 13 rfl rfl, by decide +kernel, rfl, by decide +kernel, (fun _ => ⟨tb6 227 rfl rfl, tbq 64 rfl rfl⟩), (fun h => absurd h (by decide))⟩
set_option maxRecDepth 20000 in
theorem zfm12 : FM 12 := ⟨tb6 233 rfl rfl, tb1 13 rfl rfl, by decide +kernel, rfl, by decide +kernel, (fun _ => ⟨tb6 232 rfl rfl, tbq 65 rfl rfl⟩), (fun h => absurd h (by decide))⟩
set_option maxRecDepth 20000 in
theorem zfm13 : FM 13 := ⟨tb7 20 rfl rfl, tb1 13 rfl rfl, by decide +kernel, rfl, by decide +kernel, (fun _ => ⟨tb7 19 rfl rfl, tbq 71 rfl rfl⟩), (fun h => absurd h (by decide))⟩
set_option maxRecDepth 20000 in
theorem zfm14 : FM 14 := ⟨tb7 24 rfl rfl, tb1 13 rfl rfl, by decide +kernel, rfl, by decide +kernel, (fun _ => ⟨tb7 23 rfl rfl, tbq 72 rfl rfl⟩), (fun h => absurd h (by decide))⟩
set_option maxRecDepth 20000 in
theorem zfm15 : FM 15 := ⟨tb7 16 rfl rfl, tb1 13 rfl rfl, by decide +kernel, rfl, by decide +kernel, (fun _ => ⟨tb7 15 rfl rfl, tbq 70 rfl rfl⟩), (fun h => absurd h (by decide))⟩
set_option maxRecDepth 20000 in
theorem zfm16 : FM 16 := ⟨tb6 224 rfl rfl, tb1 13 rfl rfl, by decide +kernel, rfl, by decide +kernel, (fun _ => ⟨tb6 223 rfl rfl, tbq 63 rfl rfl⟩), (fun h => absurd h (by decide))⟩
set_option maxRecDepth 20000 in
theorem zfm17 : FM 17 := ⟨tb6 220 rfl rfl, tb1 13 rfl rfl, by decide +kernel, rfl, by decide +kernel, (fun _ => ⟨tb6 219 rfl rfl, tbq 62 rfl rfl⟩), (fun h => absurd h (by decide))⟩
set_option maxRecDepth 20000 in
theorem zfm18 : FM 18 := ⟨tb6 213 rfl rfl, tb1 13 rfl rfl, by decide +kernel, rfl, by decide +kernel, (fun h => absurd h (by decide)), (fun _ => tb6 212 rfl rfl)⟩
set_option maxRecDepth 20000 in
theorem zfm19 : FM 19 := ⟨tb6 210 rfl rfl, tb1 13 rfl rfl, by decide +kernel, rfl, by decide +kernel, (fun _ => ⟨tb6 209 rfl rfl, tbq 61 rfl rfl⟩), (fun h => absurd h (by decide))⟩
set_option maxRecDepth 20000 in
theorem zfm20 : FM 20 := ⟨tb7 0 rfl rfl, tb1 13 rfl rfl, by decide +kernel, rfl, by decide +kernel, (fun _ => ⟨tb6 239 rfl rfl, tbq 66 rfl rfl⟩), (fun h => absurd h (by decide))⟩
set_option maxRecDepth 20000 in
theorem zfm21 : FM 21 := ⟨tb7 4 rfl rfl, tb1 13 rfl rfl, by decide +kernel, rfl, by decide +kernel, (fun _ => ⟨tb7 3 rfl rfl, tbq 67 rfl rfl⟩), (fun h => absurd h (by decide))⟩
set_option maxRecDepth 20000 in
theorem zfm22 : FM 22 := ⟨tb6 206 rfl rfl, tb1 13 rfl rfl, by decide +kernel, rfl, by decide +kernel, (fun _ => ⟨tb6 205 rfl rfl, tbq 60 rfl rfl⟩), (fun h => absurd h (by decide))⟩
set_option maxRecDepth 20000 in
theorem zfm23 : FM 23 := ⟨tb6 202 rfl rfl, tb1 13 rfl rfl, by decide +kernel, rfl, by decide +kernel, (fun _ => ⟨tb6 201 rfl rfl, tbq 59 rfl rfl⟩), (fun h => absurd h (by decide))⟩
set_option maxRecDepth 20000 in
theorem zfm24 : FM 24 := ⟨tb7 12 rfl rfl, tb1 13 rfl rfl, by decide +kernel, rfl, by decide +kernel, (fun _ => ⟨tb7 11 rfl rfl, tbq 69 rfl rfl⟩), (fun h => absurd h (by decide))⟩
set_option maxRecDepth 20000 in
theorem zfm25 : FM 25 := ⟨tb7 8 rfl rfl, tb1 13 rfl rfl, by decide +kernel, rfl, by decide +kernel, (fun _ => ⟨tb7 7 rfl rfl, tbq 68 rfl rfl⟩), (fun h => absurd h (by decide))⟩
set_option maxRecDepth 20000 in
theorem zfm26 : FM 26 := ⟨tb6 182 rfl rfl, tb1 13 rfl rfl, by decide +kernel, rfl, by decide +kernel, (fun _ => ⟨tb6 181 rfl rfl, tbq 54 rfl rfl⟩), (fun h => absurd h (by decide))⟩
set_option maxRecDepth 20000 in
theorem zfm27 : FM 27 := ⟨tb7 40 rfl rfl, tb1 13 rfl rfl, by decide +kernel, rfl, by decide +kernel, (fun _ => ⟨tb7 39 rfl rfl, tbq 76 rfl rfl⟩), (fun h => absurd h (by decide))⟩
set_option maxRecDepth 20000 in
theorem zfm28 : FM 28 := ⟨tb7 44 rfl rfl, tb1 13 rfl rfl, by decide +kernel, rfl, by decide +kernel, (fun _ => ⟨tb7 43 rfl rfl, tbq 77 rfl rfl⟩), (fun h => absurd h (by decide))⟩
set_option maxRecDepth 20000 in
theorem zfm29 : FM 29 := ⟨tb7 36 rfl rfl, tb1 13 rfl rfl, by decide +kernel, rfl, by decide +kernel, (fun _ => ⟨tb7 35 rfl rfl, tbq 75 rfl rfl⟩), (fun h => absurd h (by decide))⟩
set_option maxRecDepth 20000 in
theorem zfm30 : FM 30 := ⟨tb7 48 rfl rfl, tb1 13 rfl rfl, by decide +kernel, rfl, by decide +kernel, (fun _ => ⟨tb7 47 rfl rfl, tbq 78 rfl rfl⟩), (fun h => absurd h (by decide))⟩
set_option maxRecDepth 20000 in
theorem zfm31 : FM 31 := ⟨tb7 32 rfl rfl, tb1 13 rfl rfl, by decide +kernel, rfl, by decide +kernel, (fun _ => ⟨tb7 31 rfl rfl, tbq 74 rfl rfl⟩), (fun h => absurd h (by decide))⟩
set_option maxRecDepth 20000 in
theorem zfm32 : FM 32 := ⟨tb7 56 rfl rfl, tb1 13 rfl rfl, by decide +kernel, rfl, by decide +kernel, (fun _ => ⟨tb7 55 rfl rfl, tbq 80 rfl rfl⟩), (fun h => absurd h (by decide))⟩
set_option maxRecDepth 20000 in
theorem zfm33 : FM 33 := ⟨tb7 60 rfl rfl, tb1 13 rfl rfl, by decide +kernel, rfl, by decide +kernel, (fun _ => ⟨tb7 59 rfl rfl, tbq 81 rfl rfl⟩), (fun h => absurd h (by decide))⟩
set_option maxRecDepth 20000 in
theorem zfm34 : FM 34 := ⟨tb7 64 rfl rfl, tb1 13 rfl rfl, by decide +kernel, rfl, by decide +kernel, (fun _ => ⟨tb7 63 rfl rfl, tbq 82 rfl rfl⟩), (fun h => absurd h (by decide))⟩
set_option maxRecDepth 20000 in
theorem zfm35 : FM 35 := ⟨tb7 52 rfl rfl, tb1 13 rfl rfl, by decide +kernel, rfl, by decide +kernel, (fun _ => ⟨tb7 51 rfl rfl, tbq 79 rfl rfl⟩), (fun h => absurd h (by decide))⟩
set_option maxRecDepth 20000 in
theorem zfm36 : FM 36 := ⟨tb7 28 rfl rfl, tb1 13 rfl rfl, by decide +kernel, rfl, by decide +kernel, (fun _ => ⟨tb7 27 rfl rfl, tbq 73 rfl rfl⟩), (fun h => absurd h (by decide))⟩
set_option maxRecDepth 20000 in
theorem zfm37 : FM 37 := ⟨tb7 75 rfl rfl, tb1 13 rfl rfl, by decide +kernel, rfl, by decide +kernel, (fun h => absurd h (by decide)), (fun _ => tb7 74 rfl rfl)⟩
set_option maxRecDepth 20000 in
theorem zfm38 : FM 38 := ⟨tb7 78 rfl rfl, tb1 13 rfl rfl, by decide +kernel, rfl, by decide +kernel, (fun h => absurd h (by decide)), (fun _ => tb7 77 rfl rfl)⟩
set_option maxRecDepth 20000 in
theorem zfm39 : FM 39 := ⟨tb7 72 rfl rfl, tb1 13 rfl rfl, by decide +kernel, rfl, by decide +kernel, (fun _ => ⟨tb7 71 rfl rfl, tbq 84 rfl rfl⟩), (fun h => absurd h (by decide))⟩
set_option maxRecDepth 20000 in
theorem zfm40 : FM 40 := ⟨tb7 68 rfl rfl, tb1 13 rfl rfl, by decide +kernel, rfl, by decide +kernel, (fun _ => ⟨tb7 67 rfl rfl, tbq 83 rfl rfl⟩), (fun h => absurd h (by decide))⟩
set_option maxRecDepth 20000 in
theorem zfm41 : FM 41 := ⟨tb7 82 rfl rfl, tb1 13 rfl rfl, by decide +kernel, rfl, by decide +kernel, (fun _ => ⟨tb7 81 rfl rfl, tbq 85 rfl rfl⟩), (fun h => absurd h (by decide))⟩
set_option maxRecDepth 20000 in
theorem zfm42 : FM 42 := ⟨tb7 90 rfl rfl, tb1 13 rfl rfl, by decide +kernel, rfl, by decide +kernel, (fun _ => ⟨tb7 89 rfl rfl, tbq 87 rfl rfl⟩), (fun h => absurd h (by decide))⟩
set_option maxRecDepth 20000 in
theorem zfm43 : FM 43 := ⟨tb7 86 rfl rfl, tb1 13 rfl rfl, by decide +kernel, rfl, by decide +kernel, (fun _ => ⟨tb7 85 rfl rfl, tbq 86 rfl rfl⟩), (fun h => absurd h (by decide))⟩
set_option maxRecDepth 20000 in
theorem zfm44 : FM 44 := ⟨tb7 94 rfl rfl, tb1 13 rfl rfl, by decide +kernel, rfl, by decide +kernel, (fun _ => ⟨tb7 93 rfl rfl, tbq 88 rfl rfl⟩), (fun h => absurd h (by decide))⟩
set_option maxRecDepth 20000 in
theorem zfm45 : FM 45 := ⟨tb7 98 rfl rfl, tb1 13 rfl rfl, by decide +kernel, rfl, by decide +kernel, (fun _ => ⟨tb7 97 rfl rfl, tbq 89 rfl rfl⟩), (fun h => absurd h (by decide))⟩
set_option maxRecDepth 20000 in
theorem zfm46 : FM 46 := ⟨tb6 178 rfl rfl, tb1 13 rfl rfl, by decide +kernel, rfl, by decide +kernel, (fun _ => ⟨tb6 176 rfl rfl, tb6 177 rfl rfl⟩), (fun h => absurd h (by decide))⟩
set_option maxRecDepth 20000 in
theorem zfm47 : FM 47 := ⟨tb7 117 rfl rfl, tb1 13 rfl rfl, by decide +kernel, rfl, by decide +kernel, (fun _ => ⟨tb7 115 rfl rfl, tb7 116 rfl rfl⟩), (fun h => absurd h (by decide))⟩
set_option maxRecDepth 20000 in
theorem zfm48 : FM 48 := ⟨tb7 109 rfl rfl, tb1 13 rfl rfl, by decide +kernel, rfl, by decide +kernel, (fun h => absurd h (by decide)), (fun _ => tb7 108 rfl rfl)⟩
set_option maxRecDepth 20000 in
theorem zfm49 : FM 49 := ⟨tb7 106 rfl rfl, tb1 13 rfl rfl, by decide +kernel, rfl, by decide +kernel, (fun _ => ⟨tb7 105 rfl rfl, tbq 91 rfl rfl⟩), (fun h => absurd h (by decide))⟩
set_option maxRecDepth 20000 in
theorem zfm50 : FM 50 := ⟨tb7 113 rfl rfl, tb1 13 rfl rfl, by decide +kernel, rfl, by decide +kernel, (fun _ => ⟨tb7 112 rfl rfl, tbq 92 rfl rfl⟩), (fun h => absurd h (by decide))⟩
set_option maxRecDepth 20000 in
theorem zfm51 : FM 51 := ⟨tb7 102 rfl rfl, tb1 13 rfl rfl, by decide +kernel, rfl, by decide +kernel, (fun _ => ⟨tb7 101 rfl rfl, tbq 90 rfl rfl⟩), (fun h => absurd h (by decide))⟩
set_option maxRecDepth 20000 in
theorem zfm52 : FM 52 := ⟨tb7 121 rfl rfl, tb1 13 rfl rfl, by decide +kernel, rfl, by decide +kernel, (fun _ => ⟨tb7 119 rfl rfl, tb7 120 rfl rfl⟩), (fun h => absurd h (by decide))⟩
set_option maxRecDepth 20000 in
theorem zfm53 : FM 53 := ⟨tb7 125 rfl rfl, tb1 13 rfl rfl, by decide +kernel, rfl, by decide +kernel, (fun _ => ⟨tb7 123 rfl rfl, tb7 124 rfl rfl⟩), (fun h => absurd h (by decide))⟩
set_option maxRecDepth 20000 in
theorem zfm54 : FM 54 := ⟨tb7 129 rfl rfl, tb1 13 rfl rfl, by decide +kernel, rfl, by decide +kernel, (fun _ => ⟨tb7 127 rfl rfl, tb7 128 rfl rfl⟩), (fun h => absurd h (by decide))⟩
set_option maxRecDepth 20000 in
theorem zfm55 : FM 55 := ⟨tb7 133 rfl rfl, tb1 13 rfl rfl, by decide +kernel, rfl, by decide +kernel, (fun _ => ⟨tb7 131 rfl rfl, tb7 132 rfl rfl⟩), (fun h => absurd h (by decide))⟩
set_option maxRecDepth 20000 in
theorem zfm56 : FM 56 := ⟨tb7 141 rfl rfl, tb1 13 rfl rfl, by decide +kernel, rfl, by decide +kernel, (fun _ => ⟨tb7 140 rfl rfl, tbq 93 rfl rfl⟩), (fun h => absurd h (by decide))⟩
set_option maxRecDepth 20000 in
theorem zfm57 : FM 57 := ⟨tb7 137 rfl rfl, tb1 13 rfl rfl, by decide +kernel, rfl, by decide +kernel, (fun _ => ⟨tb7 135 rfl rfl, tb7 136 rfl rfl⟩), (fun h => absurd h (by decide))⟩
set_option maxRecDepth 20000 in
theorem zfm58 : FM 58 := ⟨tb7 145 rfl rfl, tb1 13 rfl rfl, by decide +kernel, rfl, by decide +kernel, (fun _ => ⟨tb7 143 rfl rfl, tb7 144 rfl rfl⟩), (fun h => absurd h (by decide))⟩
set_option maxRecDepth 20000 in
theorem zfm59 : FM 59 := ⟨tb7 149 rfl rfl, tb1 13 rfl rfl, by decide +kernel, rfl, by decide +kernel, (fun _ => ⟨tb7 147 rfl rfl, tb7 148 rfl rfl⟩), (fun h => absurd h (by decide))⟩
set_option maxRecDepth 20000 in
theorem zfm63 : FM 63 := ⟨tb4 46 rfl rfl, tb1 20 rfl rfl, by decide +kernel, rfl, by decide +kernel, (fun h => absurd h (by decide)), (fun _ => tb4 45 rfl rfl)⟩
set_option maxRecDepth 20000 in
theorem zfm64 : FM 64 := ⟨tb3 17 rfl rfl, tb1 1 rfl rfl, by decide +kernel, rfl, by decide +kernel, (fun _ => ⟨tb3 15 rfl rfl, tb3 16 rfl rfl⟩), (fun h => absurd h (by decide))⟩
set_option maxRecDepth 20000 in
theorem zfm65 : FM 65 := ⟨tb3 4 rfl rfl, tb1 1 rfl rfl, by decide +kernel, rfl, by decide +kernel, (fun _ => ⟨tb3 2 rfl rfl, tb3 3 rfl rfl⟩), (fun h => absurd h (by decide))⟩
set_option maxRecDepth 20000 in
theorem zfm66 : FM 66 := ⟨tb3 117 rfl rfl, tb1 1 rfl rfl, by decide +kernel, rfl, by decide +kernel, (fun _ => ⟨tb3 115 rfl rfl, tb3 116 rfl rfl⟩), (fun h => absurd h (by decide))⟩
set_option maxRecDepth 20000 in
theorem zfm67 : FM 67 := ⟨tb3 8 rfl rfl, tb1 1 rfl rfl, by decide +kernel, rfl, by decide +kernel, (fun _ => ⟨tb3 6 rfl rfl, tb3 7 rfl rfl⟩), (fun h => absurd h (by decide))⟩
set_option maxRecDepth 20000 in
theorem zfm68 : FM 68 := ⟨tb5 71 rfl rfl, tb1 1 rfl rfl, by decide +kernel, rfl, by decide +kernel, (fun _ => ⟨tb5 69 rfl rfl, tb5 70 rfl rfl⟩), (fun h => absurd h (by decide))⟩
set_option maxRecDepth 20000 in
theorem zfm69 : FM 69 := ⟨tb5 99 rfl rfl, tb1 1 rfl rfl, by decide +kernel, rfl, by decide +kernel, (fun _ => ⟨tb5 97 rfl rfl, tb5 98 rfl rfl⟩), (fun h => absurd h (by decide))⟩
set_option maxRecDepth 20000 in
theorem zfm70 : FM 70 := ⟨tb5 106 rfl rfl, tb1 1 rfl rfl, by decide +kernel, rfl, by decide +kernel, (fun _ => ⟨tb5 104 rfl rfl, tb5 105 rfl rfl⟩), (fun h => absurd h (by decide))⟩
set_option maxRecDepth 20000 in
theorem zfm71 : FM 71 := ⟨tb5 119 rfl rfl, tb1 1 rfl rfl, by decide +kernel, rfl, by decide +kernel, (fun _ => ⟨tb5 117 rfl rfl, tb5 118 rfl rfl⟩), (fun h => absurd h (by decide))⟩
set_option maxRecDepth 20000 in
theorem zfm72 : FM 72 := ⟨tb5 126 rfl rfl, tb1 1 rfl rfl, by decide +kernel, rfl, by decide +kernel, (fun _ => ⟨tb5 124 rfl rfl, tb5 125 rfl rfl⟩), (fun h => absurd h (by decide))⟩
set_option maxRecDepth 20000 in
theorem zfm73 : FM 73 := ⟨tb5 140 rfl rfl, tb1 1 rfl rfl, by decide +kernel, rfl, by decide +kernel, (fun _ => ⟨tb5 138 rfl rfl, tb5 139 rfl rfl⟩), (fun h => absurd h (by decide))⟩
set_option maxRecDepth 20000 in
theorem zfm74 : FM 74 := ⟨tb5 147 rfl rfl, tb1 1 rfl rfl, by decide +kernel, rfl, by decide +kernel, (fun _ => ⟨tb5 145 rfl rfl, tb5 146 rfl rfl⟩), (fun h => absurd h (by decide))⟩
set_option maxRecDepth 20000 in
theorem zfm75 : FM 75 := ⟨tb3 20 rfl rfl, tb1 1 rfl rfl, by decide +kernel, rfl, by decide +kernel, (fun h => absurd h (by decide)), (fun _ => tb3 19 rfl rfl)⟩
set_option maxRecDepth 20000 in
theorem zfm76 : FM 76 := ⟨tb5 62 rfl rfl, tb1 1 rfl rfl, by decide +kernel, rfl, by decide +kernel, (fun h => absurd h (by decide)), (fun _ => tb5 61 rfl rfl)⟩
set_option maxRecDepth 20000 in
theorem zfm77 : FM 77 := ⟨tb4 43 rfl rfl, tb1 10 rfl rfl, by decide +kernel, rfl, by decide +kernel, (fun _ => ⟨tb4 41 rfl rfl, tb4 42 rfl rfl⟩), (fun h => absurd h (by decide))⟩
set_option maxRecDepth 20000 in
theorem zfm78 : FM 78 := ⟨tb4 50 rfl rfl, tb1 10 rfl rfl, by decide +kernel, rfl, by decide +kernel, (fun _ => ⟨tb4 49 rfl rfl, tbq 24 rfl rfl⟩), (fun h => absurd h (by decide))⟩
set_option maxRecDepth 20000 in
theorem zfm79 : FM 79 := ⟨tb4 102 rfl rfl, tb1 10 rfl rfl, by decide +kernel, rfl, by decide +kernel, (fun _ => ⟨tb4 101 rfl rfl, tbq 33 rfl rfl⟩), (fun h => absurd h (by decide))⟩
set_option maxRecDepth 20000 in
theorem zfm80 : FM 80 := ⟨tb4 87 rfl rfl, tb1 10 rfl rfl, by decide +kernel, rfl, by decide +kernel, (fun _ => ⟨tb4 86 rfl rfl, tbq 31 rfl rfl⟩), (fun h => absurd h (by decide))⟩
set_option maxRecDepth 20000 in
theorem zfm81 : FM 81 := ⟨tb4 91 rfl rfl, tb1 10 rfl rfl, by decide +kernel, rfl, by decide +kernel, (fun _ => ⟨tb4 90 rfl rfl, tbq 32 rfl rfl⟩), (fun h => absurd h (by decide))⟩
set_option maxRecDepth 20000 in
theorem zfm82 : FM 82 := ⟨tb4 105 rfl rfl, tb1 10 rfl rfl, by decide +kernel, rfl, by decide +kernel, (fun h => absurd h (by decide)), (fun _ => tb4 104 rfl rfl)⟩
set_option maxRecDepth 20000 in
theorem zfm83 : FM 83 := ⟨tb4 109 rfl rfl, tb1 10 rfl rfl, by decide +kernel, rfl, by decide +kernel, (fun _ => ⟨tb4 108 rfl rfl, tbq 34 rfl rfl⟩), (fun h => absurd h (by decide))⟩
set_option maxRecDepth 20000 in
theorem zfm84 : FM 84 := ⟨tb4 113 rfl rfl, tb1 10 rfl rfl, by decide +kernel, rfl, by decide +kernel, (fun _ => ⟨tb4 112 rfl rfl, tbq 35 rfl rfl⟩), (fun h => absurd h (by decide))⟩
set_option maxRecDepth 20000 in
theorem zfm85 : FM 85 := ⟨tb4 71 rfl rfl, tb1 10 rfl rfl, by decide +kernel, rfl, by decide +kernel, (fun _ => ⟨tb4 70 rfl rfl, tbq 28 rfl rfl⟩), (fun h => absurd h (by decide))⟩
set_option maxRecDepth 20000 in
theorem zfm86 : FM 86 := ⟨tb4 67 rfl rfl, tb1 10 rfl rfl, by decide +kernel, rfl, by decide +kernel, (fun _ => ⟨tb4 66 rfl rfl, tbq 27 rfl rfl⟩), (fun h => absurd h (by decide))⟩
set_option maxRecDepth 20000 in
theorem zfm87 : FM 87 := ⟨tb4 54 rfl rfl, tb1 10 rfl rfl, by decide +kernel, rfl, by decide +kernel, (fun _ => ⟨tb4 53 rfl rfl, tbq 25 rfl rfl⟩), (fun h => absurd h (by decide))⟩
set_option maxRecDepth 20000 in
theorem zfm88 : FM 88 := ⟨tb4 117 rfl rfl, tb1 10 rfl rfl, by decide +kernel, rfl, by decide +kernel, (fun _ => ⟨tb4 116 rfl rfl, tbq 36 rfl rfl⟩), (fun h => absurd h (by decide))⟩
set_option maxRecDepth 20000 in
theorem zfm89 : FM 89 := ⟨tb4 58 rfl rfl, tb1 10 rfl rfl, by decide +kernel, rfl, by decide +kernel, (fun _ => ⟨tb4 57 rfl rfl, tbq 26 rfl rfl⟩), (fun h => absurd h (by decide))⟩
set_option maxRecDepth 20000 in
theorem zfm90 : FM 90 := ⟨tb5 76 rfl rfl, tb1 2 rfl rfl, by decide +kernel, rfl, by decide +kernel, (fun _ => ⟨tb5 74 rfl rfl, tb5 75 rfl rfl⟩), (fun h => absurd h (by decide))⟩
set_option maxRecDepth 20000 in
theorem zfm91 : FM 91 := ⟨tb4 221 rfl rfl, tb1 2 rfl rfl, by decide +kernel, rfl, by decide +kernel, (fun _ => ⟨tb4 219 rfl rfl, tb4 220 rfl rfl⟩), (fun h => absurd h (by decide))⟩
set_option maxRecDepth 20000 in
theorem zfm92 : FM 92 := ⟨tb5 33 rfl rfl, tb1 2 rfl rfl, by decide +kernel, rfl, by decide +kernel, (fun _ => ⟨tb5 31 rfl rfl, tb5 32 rfl rfl⟩), (fun h => absurd h (by decide))⟩
set_option maxRecDepth 20000 in
theorem zfm93 : FM 93 := ⟨tb5 38 rfl rfl, tb1 2 rfl rfl, by decide +kernel, rfl, by decide +kernel, (fun _ => ⟨tb5 37 rfl rfl, tbq 48 rfl rfl⟩), (fun h => absurd h (by decide))⟩
set_option maxRecDepth 20000 in
theorem zfm94 : FM 94 := ⟨tb5 43 rfl rfl, tb1 2 rfl rfl, by decide +kernel, rfl, by decide +kernel, (fun _ => ⟨tb5 42 rfl rfl, tbq 49 rfl rfl⟩), (fun h => absurd h (by decide))⟩
set_option maxRecDepth 20000 in
theorem zfm95 : FM 95 := ⟨tb5 47 rfl rfl, tb1 2 rfl rfl, by decide +kernel, rfl, by decide +kernel, (fun _ => ⟨tb5 46 rfl rfl, tbq 50 rfl rfl⟩), (fun h => absurd h (by decide))⟩
set_option maxRecDepth 20000 in
theorem zfm96 : FM 96 := ⟨tb5 112 rfl rfl, tb1 2 rfl rfl, by decide +kernel, rfl, by decide +kernel, (fun _ => ⟨tb5 110 rfl rfl, tb5 111 rfl rfl⟩), (fun h => absurd h (by decide))⟩
set_option maxRecDepth 20000 in
theorem zfm97 : FM 97 := ⟨tb5 132 rfl rfl, tb1 2 rfl rfl, by decide +kernel, rfl, by decide +kernel, (fun _ => ⟨tb5 130 rfl rfl, tb5 131 rfl rfl⟩), (fun h => absurd h (by decide))⟩
set_option maxRecDepth 20000 in
theorem zfm98 : FM 98 := ⟨tb4 121 rfl rfl, tb1 8 rfl rfl, by decide +kernel, rfl, by decide +kernel, (fun _ => ⟨tb4 119 rfl rfl, tb4 120 rfl rfl⟩), (fun h => absurd h (by decide))⟩
set_option maxRecDepth 20000 in
theorem zfm99 : FM 99 := ⟨tb4 125 rfl rfl, tb1 8 rfl rfl, by decide +kernel, rfl, by decide +kernel, (fun _ => ⟨tb4 123 rfl rfl, tb4 124 rfl rfl⟩), (fun h => absurd h (by decide))⟩
set_option maxRecDepth 20000 in
theorem zfm100 : FM 100 := ⟨tb4 180 rfl rfl, tb1 8 rfl rfl, by decide +kernel, rfl, by decide +kernel, (fun _ => ⟨tb4 178 rfl rfl, tb4 179 rfl rfl⟩), (fun h => absurd h (by decide))⟩
set_option maxRecDepth 20000 in
theorem zfm101 : FM 101 := ⟨tb4 129 rfl rfl, tb1 8 rfl rfl, by decide +kernel, rfl, by decide +kernel, (fun _ => ⟨tb4 128 rfl rfl, tbq 37 rfl rfl⟩), (fun h => absurd h (by decide))⟩
set_option maxRecDepth 20000 in
theorem zfm102 : FM 102 := ⟨tb4 185 rfl rfl, tb1 12 rfl rfl, by decide +kernel, rfl, by decide +kernel, (fun _ => ⟨tb4 183 rfl rfl, tb4 184 rfl rfl⟩), (fun h => absurd h (by decide))⟩
set_option maxRecDepth 20000 in
theorem zfm103 : FM 103 := ⟨tb4 189 rfl rfl, tb1 12 rfl rfl, by decide +kernel, rfl, by decide +kernel, (fun _ => ⟨tb4 188 rfl rfl, tbq 41 rfl rfl⟩), (fun h => absurd h (by decide))⟩
set_option maxRecDepth 20000 in
theorem zfm104 : FM 104 := ⟨tb4 195 rfl rfl, tb1 12 rfl rfl, by decide +kernel, rfl, by decide +kernel, (fun _ => ⟨tb4 194 rfl rfl, tbq 42 rfl rfl⟩), (fun h => absurd h (by decide))⟩
set_option maxRecDepth 20000 in
theorem zfm105 : FM 105 := ⟨tb4 199 rfl rfl, tb1 12 rfl rfl, by decide +kernel, rfl, by decide +kernel, (fun _ => ⟨tb4 198 rfl rfl, tbq 43 rfl rfl⟩), (fun h => absurd h (by decide))⟩
set_option maxRecDepth 20000 in
theorem zfm106 : FM 106 := ⟨tb4 206 rfl rfl, tb1 12 rfl rfl, by decide +kernel, rfl, by decide +kernel, (fun _ => ⟨tb4 205 rfl rfl, tbq 44 rfl rfl⟩), (fun h => absurd h (by decide))⟩
set_option maxRecDepth 20000 in
theorem zfm107 : FM 107 := ⟨tb4 213 rfl rfl, tb1 12 rfl rfl, by decide +kernel, rfl, by decide +kernel, (fun _ => ⟨tb4 212 rfl rfl, tbq 45 rfl rfl⟩), (fun h => absurd h (by decide))⟩
set_option maxRecDepth 20000 in
theorem zfm108 : FM 108 := ⟨tb4 217 rfl rfl, tb1 12 rfl rfl, by decide +kernel, rfl, by decide +kernel, (fun _ => ⟨tb4 216 rfl rfl, tbq 46 rfl rfl⟩), (fun h => absurd h (by decide))⟩
set_option maxRecDepth 20000 in
theorem zfm109 : FM 109 := ⟨tb4 225 rfl rfl, tb1 12 rfl rfl, by decide +kernel, rfl, by decide +kernel, (fun _ => ⟨tb4 224 rfl rfl, tbq 47 rfl rfl⟩), (fun h => absurd h (by decide))⟩
set_option maxRecDepth 20000 in
theorem zfm110 : FM 110 := ⟨tb4 233 rfl rfl, tb1 12 rfl rfl, by decide +kernel, rfl, by decide +kernel, (fun _ => ⟨tb4 231 rfl rfl, tb4 232 rfl rfl⟩), (fun h => absurd h (by decide))⟩
set_option maxRecDepth 20000 in
theorem zfm111 : FM 111 := ⟨tb5 13 rfl rfl, tb1 12 rfl rfl, by decide +kernel, rfl, by decide +kernel, (fun _ => ⟨tb5 11 rfl rfl, tb5 12 rfl rfl⟩), (fun h => absurd h (by decide))⟩
set_option maxRecDepth 20000 in
theorem zfm112 : FM 112 := ⟨tb3 149 rfl rfl, tb1 4 rfl rfl, by decide +kernel, rfl, by decide +kernel, (fun _ => ⟨tb3 147 rfl rfl, tb3 148 rfl rfl⟩), (fun h => absurd h (by decide))⟩
set_option maxRecDepth 20000 in
theorem zfm113 : FM 113 := ⟨tb3 191 rfl rfl, tb1 4 rfl rfl, by decide +kernel, rfl, by decide +kernel, (fun _ => ⟨tb3 189 rfl rfl, tb3 190 rfl rfl⟩), (fun h => absurd h (by decide))⟩
set_option maxRecDepth 20000 in
theorem zfm114 : FM 114 := ⟨tb3 225 rfl rfl, tb1 4 rfl rfl, by decide +kernel, rfl, by decide +kernel, (fun _ => ⟨tb3 223 rfl rfl, tb3 224 rfl rfl⟩), (fun h => absurd h (by decide))⟩
set_option maxRecDepth 20000 in
theorem zfm115 : FM 115 := ⟨tb3 195 rfl rfl, tb1 4 rfl rfl, by decide +kernel, rfl, by decide +kernel, (fun _ => ⟨tb3 194 rfl rfl, tbq 10 rfl rfl⟩), (fun h => absurd h (by decide))⟩
set_option maxRecDepth 20000 in
theorem zfm116 : FM 116 := ⟨tb3 198 rfl rfl, tb1 4 rfl rfl, by decide +kernel, rfl, by decide +kernel, (fun h => absurd h (by decide)), (fun _ => tb3 197 rfl rfl)⟩
set_option maxRecDepth 20000 in
theorem zfm117 : FM 117 := ⟨tb4 153 rfl rfl, tb1 4 rfl rfl, by decide +kernel, rfl, by decide +kernel, (fun _ => ⟨tb4 151 rfl rfl, tb4 152 rfl rfl⟩), (fun h => absurd h (by decide))⟩
set_option maxRecDepth 20000 in
theorem zfm118 : FM 118 := ⟨tb4 157 rfl rfl, tb1 4 rfl rfl, by decide +kernel, rfl, by decide +kernel, (fun _ => ⟨tb4 156 rfl rfl, tbq 38 rfl rfl⟩), (fun h => absurd h (by decide))⟩
set_option maxRecDepth 20000 in
theorem zfm119 : FM 119 := ⟨tb4 160 rfl rfl, tb1 4 rfl rfl, by decide +kernel, rfl, by decide +kernel, (fun h => absurd h (by decide)), (fun _ => tb4 159 rfl rfl)⟩
set_option maxRecDepth 20000 in
theorem zfm120 : FM 120 := ⟨tb5 51 rfl rfl, tb1 4 rfl rfl, by decide +kernel, rfl, by decide +kernel, (fun _ => ⟨tb5 49 rfl rfl, tb5 50 rfl rfl⟩), (fun h => absurd h (by decide))⟩
set_option maxRecDepth 20000 in
theorem zfm121 : FM 121 := ⟨tb5 55 rfl rfl, tb1 4 rfl rfl, by decide +kernel, rfl, by decide +kernel, (fun _ => ⟨tb5 54 rfl rfl, tbq 51 rfl rfl⟩), (fun h => absurd h (by decide))⟩
set_option maxRecDepth 20000 in
theorem zfm122 : FM 122 := ⟨tb5 59 rfl rfl, tb1 4 rfl rfl, by decide +kernel, rfl, by decide +kernel, (fun _ => ⟨tb5 58 rfl rfl, tbq 52 rfl rfl⟩), (fun h => absurd h (by decide))⟩
set_option maxRecDepth 20000 in
theorem zfm123 : FM 123 := ⟨tb3 141 rfl rfl, tb1 9 rfl rfl, by decide +kernel, rfl, by decide +kernel, (fun _ => ⟨tb3 139 rfl rfl, tb3 140 rfl rfl⟩), (fun h => absurd h (by decide))⟩
set_option maxRecDepth 20000 in
theorem zfm124 : FM 124 := ⟨tb3 145 rfl rfl, tb1 9 rfl rfl, by decide +kernel, rfl, by decide +kernel, (fun _ => ⟨tb3 144 rfl rfl, tbq 3 rfl rfl⟩), (fun h => absurd h (by decide))⟩
set_option maxRecDepth 20000 in
theorem zfm125 : FM 125 := ⟨tb3 237 rfl rfl, tb1 9 rfl rfl, by decide +kernel, rfl, by decide +kernel, (fun _ => ⟨tb3 236 rfl rfl, tbq 16 rfl rfl⟩), (fun h => absurd h (by decide))⟩
set_option maxRecDepth 20000 in
theorem zfm126 : FM 126 := ⟨tb4 34 rfl rfl, tb1 9 rfl rfl, by decide +kernel, rfl, by decide +kernel, (fun _ => ⟨tb4 33 rfl rfl, tbq 22 rfl rfl⟩), (fun h => absurd h (by decide))⟩
set_option maxRecDepth 20000 in
theorem zfm127 : FM 127 := ⟨tb4 38 rfl rfl, tb1 9 rfl rfl, by decide +kernel, rfl, by decide +kernel, (fun _ => ⟨tb4 37 rfl rfl, tbq 23 rfl rfl⟩), (fun h => absurd h (by decide))⟩
set_option maxRecDepth 20000 in
theorem zfm128 : FM 128 := ⟨tb3 174 rfl rfl, tb1 9 rfl rfl, by decide +kernel, rfl, by decide +kernel, (fun _ => ⟨tb3 173 rfl rfl, tbq 6 rfl rfl⟩), (fun h => absurd h (by decide))⟩
set_option maxRecDepth 20000 in
theorem zfm129 : FM 129 := ⟨tb3 233 rfl rfl, tb1 9 rfl rfl, by decide +kernel, rfl, by decide +kernel, (fun _ => ⟨tb3 232 rfl rfl, tbq 15 rfl rfl⟩), (fun h => absurd h (by decide))⟩
set_option maxRecDepth 20000 in
theorem zfm130 : FM 130 := ⟨tb4 1 rfl rfl, tb1 9 rfl rfl, by decide +kernel, rfl, by decide +kernel, (fun _ => ⟨tb4 0 rfl rfl, tbq 17 rfl rfl⟩), (fun h => absurd h (by decide))⟩
set_option maxRecDepth 20000 in
theorem zfm131 : FM 131 := ⟨tb4 5 rfl rfl, tb1 9 rfl rfl, by decide +kernel, rfl, by decide +kernel, (fun _ => ⟨tb4 4 rfl rfl, tbq 18 rfl rfl⟩), (fun h => absurd h (by decide))⟩
set_option maxRecDepth 20000 in
theorem zfm132 : FM 132 := ⟨tb4 26 rfl rfl, tb1 9 rfl rfl, by decide +kernel, rfl, by decide +kernel, (fun _ => ⟨tb4 25 rfl rfl, tbq 21 rfl rfl⟩), (fun h => absurd h (by decide))⟩
set_option maxRecDepth 20000 in
theorem zfm133 : FM 133 := ⟨tb4 10 rfl rfl, tb1 9 rfl rfl, by decide +kernel, rfl, by decide +kernel, (fun _ => ⟨tb4 9 rfl rfl, tbq 19 rfl rfl⟩), (fun h => absurd h (by decide))⟩
set_option maxRecDepth 20000 in
theorem zfm134 : FM 134 := ⟨tb4 14 rfl rfl, tb1 9 rfl rfl, by decide +kernel, rfl, by decide +kernel, (fun _ => ⟨tb4 13 rfl rfl, tbq 20 rfl rfl⟩), (fun h => absurd h (by decide))⟩
set_option maxRecDepth 20000 in
theorem zfm135 : FM 135 := ⟨tb3 182 rfl rfl, tb1 9 rfl rfl, by decide +kernel, rfl, by decide +kernel, (fun _ => ⟨tb3 181 rfl rfl, tbq 8 rfl rfl⟩), (fun h => absurd h (by decide))⟩
set_option maxRecDepth 20000 in
theorem zfm136 : FM 136 := ⟨tb3 221 rfl rfl, tb1 9 rfl rfl, by decide +kernel, rfl, by decide +kernel, (fun _ => ⟨tb3 220 rfl rfl, tbq 14 rfl rfl⟩), (fun h => absurd h (by decide))⟩
set_option maxRecDepth 20000 in
theorem zfm137 : FM 137 := ⟨tb3 202 rfl rfl, tb1 9 rfl rfl, by decide +kernel, rfl, by decide +kernel, (fun _ => ⟨tb3 201 rfl rfl, tbq 11 rfl rfl⟩), (fun h => absurd h (by decide))⟩
set_option maxRecDepth 20000 in
theorem zfm138 : FM 138 := ⟨tb3 170 rfl rfl, tb1 9 rfl rfl, by decide +kernel, rfl, by decide +kernel, (fun _ => ⟨tb3 169 rfl rfl, tbq 5 rfl rfl⟩), (fun h => absurd h (by decide))⟩
set_option maxRecDepth 20000 in
theorem zfm139 : FM 139 := ⟨tb3 206 rfl rfl, tb1 9 rfl rfl, by decide +kernel, rfl, by decide +kernel, (fun _ => ⟨tb3 205 rfl rfl, tbq 12 rfl rfl⟩), (fun h => absurd h (by decide))⟩
set_option maxRecDepth 20000 in
theorem zfm140 : FM 140 := ⟨tb3 187 rfl rfl, tb1 9 rfl rfl, by decide +kernel, rfl, by decide +kernel, (fun _ => ⟨tb3 186 rfl rfl, tbq 9 rfl rfl⟩), (fun h => absurd h (by decide))⟩
set_option maxRecDepth 20000 in
theorem zfm141 : FM 141 := ⟨tb3 210 rfl rfl, tb1 9 rfl rfl, by decide +kernel, rfl, by decide +kernel, (fun _ => ⟨tb3 209 rfl rfl, tbq 13 rfl rfl⟩), (fun h => absurd h (by decide))⟩
set_option maxRecDepth 20000 in
theorem zfm142 : FM 142 := ⟨tb3 178 rfl rfl, tb1 9 rfl rfl, by decide +kernel, rfl, by decide +kernel, (fun _ => ⟨tb3 177 rfl rfl, tbq 7 rfl rfl⟩), (fun h => absurd h (by decide))⟩
set_option maxRecDepth 20000 in
theorem zfm143 : FM 143 := ⟨tb4 95 rfl rfl, tb1 3 rfl rfl, by decide +kernel, rfl, by decide +kernel, (fun _ => ⟨tb4 93 rfl rfl, tb4 94 rfl rfl⟩), (fun h => absurd h (by decide))⟩
set_option maxRecDepth 20000 in
theorem zfm144 : FM 144 := ⟨tb4 98 rfl rfl, tb1 3 rfl rfl, by decide +kernel, rfl, by decide +kernel, (fun h => absurd h (by decide)), (fun _ => tb4 97 rfl rfl)⟩
set_option maxRecDepth 20000 in
theorem zfm145 : FM 145 := ⟨tb4 229 rfl rfl, tb1 3 rfl rfl, by decide +kernel, rfl, by decide +kernel, (fun _ => ⟨tb4 227 rfl rfl, tb4 228 rfl rfl⟩), (fun h => absurd h (by decide))⟩
set_option maxRecDepth 20000 in
theorem zfm146 : FM 146 := ⟨tb5 152 rfl rfl, tb1 3 rfl rfl, by decide +kernel, rfl, by decide +kernel, (fun _ => ⟨tb5 150 rfl rfl, tb5 151 rfl rfl⟩), (fun h => absurd h (by decide))⟩
set_option maxRecDepth 20000 in
theorem zfm147 : FM 147 := ⟨tb5 156 rfl rfl, tb1 3 rfl rfl, by decide +kernel, rfl, by decide +kernel, (fun _ => ⟨tb5 154 rfl rfl, tb5 155 rfl rfl⟩), (fun h => absurd h (by decide))⟩
set_option maxRecDepth 20000 in
theorem zfm148 : FM 148 := ⟨tb5 160 rfl rfl, tb1 3 rfl rfl, by decide +kernel, rfl, by decide +kernel, (fun _ => ⟨tb5 158 rfl rfl, tb5 159 rfl rfl⟩), (fun h => absurd h (by decide))⟩
set_option maxRecDepth 20000 in
theorem zfm149 : FM 149 := ⟨tb4 149 rfl rfl, tb1 11 rfl rfl, by decide +kernel, rfl, by decide +kernel, (fun _ => ⟨tb4 147 rfl rfl, tb4 148 rfl rfl⟩), (fun h => absurd h (by decide))⟩
set_option maxRecDepth 20000 in
theorem zfm150 : FM 150 := ⟨tb4 167 rfl rfl, tb1 11 rfl rfl, by decide +kernel, rfl, by decide +kernel, (fun _ => ⟨tb4 166 rfl rfl, tbq 39 rfl rfl⟩), (fun h => absurd h (by decide))⟩
set_option maxRecDepth 20000 in
theorem zfm151 : FM 151 := ⟨tb4 174 rfl rfl, tb1 11 rfl rfl, by decide +kernel, rfl, by decide +kernel, (fun _ => ⟨tb4 173 rfl rfl, tbq 40 rfl rfl⟩), (fun h => absurd h (by decide))⟩
set_option maxRecDepth 20000 in
theorem zfm152 : FM 152 := ⟨tb4 170 rfl rfl, tb1 11 rfl rfl, by decide +kernel, rfl, by decide +kernel, (fun h => absurd h (by decide)), (fun _ => tb4 169 rfl rfl)⟩
set_option maxRecDepth 20000 in
theorem zfm153 : FM 153 := ⟨tb3 166 rfl rfl, tb1 7 rfl rfl, by decide +kernel, rfl, by decide +kernel, (fun _ => ⟨tb3 164 rfl rfl, tb3 165 rfl rfl⟩), (fun h => absurd h (by decide))⟩
set_option maxRecDepth 20000 in
theorem zfm154 : FM 154 := ⟨tb3 229 rfl rfl, tb1 7 rfl rfl, by decide +kernel, rfl, by decide +kernel, (fun _ => ⟨tb3 227 rfl rfl, tb3 228 rfl rfl⟩), (fun h => absurd h (by decide))⟩
set_option maxRecDepth 20000 in
theorem zfm155 : FM 155 := ⟨tb3 217 rfl rfl, tb1 7 rfl rfl, by decide +kernel, rfl, by decide +kernel, (fun _ => ⟨tb3 215 rfl rfl, tb3 216 rfl rfl⟩), (fun h => absurd h (by decide))⟩
set_option maxRecDepth 20000 in
theorem zfm156 : FM 156 := ⟨tb3 213 rfl rfl, tb1 7 rfl rfl, by decide +kernel, rfl, by decide +kernel, (fun h => absurd h (by decide)), (fun _ => tb3 212 rfl rfl)⟩
set_option maxRecDepth 20000 in
theorem zfm157 : FM 157 := ⟨tb3 121 rfl rfl, tb1 5 rfl rfl, by decide +kernel, rfl, by decide +kernel, (fun _ => ⟨tb3 119 rfl rfl, tb3 120 rfl rfl⟩), (fun h => absurd h (by decide))⟩
set_option maxRecDepth 20000 in
theorem zfm158 : FM 158 := ⟨tb3 137 rfl rfl, tb1 5 rfl rfl, by decide +kernel, rfl, by decide +kernel, (fun _ => ⟨tb3 136 rfl rfl, tbq 2 rfl rfl⟩), (fun h => absurd h (by decide))⟩
set_option maxRecDepth 20000 in
theorem zfm159 : FM 159 := ⟨tb3 128 rfl rfl, tb1 5 rfl rfl, by decide +kernel, rfl, by decide +kernel, (fun _ => ⟨tb3 127 rfl rfl, tbq 1 rfl rfl⟩), (fun h => absurd h (by decide))⟩
set_option maxRecDepth 20000 in
theorem zfm160 : FM 160 := ⟨tb3 124 rfl rfl, tb1 5 rfl rfl, by decide +kernel, rfl, by decide +kernel, (fun h => absurd h (by decide)), (fun _ => tb3 123 rfl rfl)⟩
set_option maxRecDepth 20000 in
theorem zfm161 : FM 161 := ⟨tb3 153 rfl rfl, tb1 6 rfl rfl, by decide +kernel, rfl, by decide +kernel, (fun _ => ⟨tb3 151 rfl rfl, tb3 152 rfl rfl⟩), (fun h => absurd h (by decide))⟩
set_option maxRecDepth 20000 in
theorem zfm162 : FM 162 := ⟨tb3 157 rfl rfl, tb1 6 rfl rfl, by decide +kernel, rfl, by decide +kernel, (fun _ => ⟨tb3 155 rfl rfl, tb3 156 rfl rfl⟩), (fun h => absurd h (by decide))⟩
set_option maxRecDepth 20000 in
theorem zfm163 : FM 163 := ⟨tb4 30 rfl rfl, tb1 6 rfl rfl, by decide +kernel, rfl, by decide +kernel, (fun _ => ⟨tb4 28 rfl rfl, tb4 29 rfl rfl⟩), (fun h => absurd h (by decide))⟩
set_option maxRecDepth 20000 in
theorem zfm164 : FM 164 := ⟨tb4 22 rfl rfl, tb1 6 rfl rfl, by decide +kernel, rfl, by decide +kernel, (fun _ => ⟨tb4 20 rfl rfl, tb4 21 rfl rfl⟩), (fun h => absurd h (by decide))⟩
set_option maxRecDepth 20000 in
theorem zfm165 : FM 165 := ⟨tb3 161 rfl rfl, tb1 6 rfl rfl, by decide +kernel, rfl, by decide +kernel, (fun _ => ⟨tb3 160 rfl rfl, tbq 4 rfl rfl⟩), (fun h => absurd h (by decide))⟩
set_option maxRecDepth 20000 in
theorem zfm166 : FM 166 := ⟨tb4 18 rfl rfl, tb1 6 rfl rfl, by decide +kernel, rfl, by decide +kernel, (fun _ => ⟨tb4 16 rfl rfl, tb4 17 rfl rfl⟩), (fun h => absurd h (by decide))⟩
set_option maxRecDepth 20000 in
theorem zfm167 : FM 167 := ⟨tb4 63 rfl rfl, tb1 6 rfl rfl, by decide +kernel, rfl, by decide +kernel, (fun _ => ⟨tb4 61 rfl rfl, tb4 62 rfl rfl⟩), (fun h => absurd h (by decide))⟩
set_option maxRecDepth 20000 in
theorem zfm168 : FM 168 := ⟨tb4 75 rfl rfl, tb1 6 rfl rfl, by decide +kernel, rfl, by decide +kernel, (fun _ => ⟨tb4 73 rfl rfl, tb4 74 rfl rfl⟩), (fun h => absurd h (by decide))⟩
set_option maxRecDepth 20000 in
theorem zfm169 : FM 169 := ⟨tb4 79 rfl rfl, tb1 6 rfl rfl, by decide +kernel, rfl, by decide +kernel, (fun _ => ⟨tb4 78 rfl rfl, tbq 29 rfl rfl⟩), (fun h => absurd h (by decide))⟩
set_option maxRecDepth 20000 in
theorem zfm170 : FM 170 := ⟨tb4 83 rfl rfl, tb1 6 rfl rfl, by decide +kernel, rfl, by decide +kernel, (fun _ => ⟨tb4 82 rfl rfl, tbq 30 rfl rfl⟩), (fun h => absurd h (by decide))⟩
theorem fmAll : ∀ y, y < 171 → ¬ (60 ≤ y ∧ y ≤ 62) → FM y := lt_s (lt_s (lt_s (lt_s (lt_s (lt_s (lt_s (lt_s (lt_s (lt_s (lt_s (lt_s (lt_s (lt_s (lt_s (lt_s (lt_s (lt_s (lt_s (lt_s (lt_s (lt_s (lt_s (lt_s (lt_s (lt_s (lt_s (lt_s (lt_s (lt_s (lt_s (lt_s (lt_s (lt_s (lt_s (lt_s (lt_s (lt_s (lt_s (lt_s (lt_s (lt_s (lt_s (lt_s (lt_s (lt_s (lt_s (lt_s (lt_s (lt_s (lt_s (lt_s (lt_s (lt_s (lt_s (lt_s (lt_s (lt_s (lt_s (lt_s (lt_s (lt_s (lt_s (lt_s (lt_s (lt_s (lt_s (lt_s (lt_s (lt_s (lt_s (lt_s (lt_s (lt_s (lt_s (lt_s (lt_s (lt_s (lt_s (lt_s (lt_s (lt_s (lt_s (lt_s (lt_s (lt_s (lt_s (lt_s (lt_s (lt_s (lt_s (lt_s (lt_s (lt_s (lt_s (lt_s (lt_s (lt_s (lt_s (lt_s (lt_s (lt_s (lt_s (lt_s (lt_s (lt_s (lt_s (lt_s (lt_s (lt_s (lt_s (lt_s (lt_s (lt_s (lt_s (lt_s (lt_s (lt_s (lt_s (lt_s (lt_s (lt_s (lt_s (lt_s (lt_s (lt_s (lt_s (lt_s (lt_s (lt_s (lt_s (lt_s (lt_s (lt_s (lt_s (lt_s (lt_s (lt_s (lt_s (lt_s (lt_s (lt_s (lt_s (lt_s (lt_s (lt_s (lt_s (lt_s (lt_s (lt_s (lt_s (lt_s (lt_s (lt_s (lt_s (lt_s (lt_s (lt_s (lt_s (lt_s (lt_s (lt_s (lt_s (lt_s (lt_s (lt_s (lt_s (lt_s (lt_s (lt_s (lt_s lt_0 (fun _ => zfm0)) (fun _ => zfm1)) (fun _ => zfm2)) (fun _ => zfm3)) (fun _ => zfm4)) (fun _ => zfm5)) (fun _ => zfm6)) (fun _ => zfm7)) (fun _ => zfm8)) (fun _ => zfm9)) (fun _ => zfm10)) (fun _ => zfm11)) (fun _ => zfm12)) (fun _ => zfm13)) (fun _ => zfm14)) (fun _ => zfm15)) (fun _ => zfm16)) (fun _ => zfm17)) (fun _ => zfm18)) (fun _ => zfm19)) (fun _ => zfm20)) (fun _ => zfm21)) (fun _ => zfm22)) (fun _ => zfm23)) (fun _ => zfm24)) (fun _ => zfm25)) (fun _ => zfm26)) (fun _ => zfm27)) (fun _ => zfm28)) (fun _ => zfm29)) (fun _ => zfm30)) (fun _ => zfm31)) (fun _ => zfm32)) (fun _ => zfm33)) (fun _ => zfm34)) (fun _ => zfm35)) (fun _ => zfm36)) (fun _ => zfm37)) (fun _ => zfm38)) (fun _ => zfm39)) (fun _ => zfm40)) (fun _ => zfm41)) (fun _ => zfm42)) (fun _ => zfm43)) (fun _ => zfm44)) (fun _ => zfm45)) (fun _ => zfm46)) (fun _ => zfm47)) (fun _ => zfm48)) (fun _ => zfm49)) (fun _ => zfm50)) (fun _ => zfm51)) (fun _ => zfm52)) (fun _ => zfm53)) (fun _ => zfm54)) (fun _ => zfm55)) (fun _ => zfm56)) (fun _ => zfm57)) (fun _ => zfm58)) (fun _ => zfm59)) (fun h => absurd (by decide) h)) (fun h => absurd (by decide) h)) (fun h => absurd (by decide) h)) (fun _ => zfm63)) (fun _ => zfm64)) (fun _ => zfm65)) (fun _ => zfm66)) (fun _ => zfm67)) (fun _ => zfm68)) (fun _ => zfm69)) (fun _ => zfm70)) (fun _ => zfm71)) (fun _ => zfm72)) (fun _ => zfm73)) (fun _ => zfm74)) (fun _ => zfm75)) (fun _ => zfm76)) (fun _ => zfm77)) (fun _ => zfm78)) (fun _ => zfm79)) (fun _ => zfm80)) (fun _ => zfm81)) (fun _ => zfm82)) (fun _ => zfm83)) (fun _ => zfm84)) (fun _ => zfm85)) (fun _ => zfm86)) (fun _ => zfm87)) (fun _ => zfm88)) (fun _ => zfm89)) (fun _ => zfm90)) (fun _ => zfm91)) (fun _ => zfm92)) (fun _ => zfm93)) (fun _ => zfm94)) (fun _ => zfm95)) (fun _ => zfm96)) (fun _ => zfm97)) (fun _ => zfm98)) (fun _ => zfm99)) (fun _ => zfm100)) (fun _ => zfm101)) (fun _ => zfm102)) (fun _ => zfm103)) (fun _ => zfm104)) (fun _ => zfm105)) (fun _ => zfm106)) (fun _ => zfm107)) (fun _ => zfm108)) (fun _ => zfm109)) (fun _ => zfm110)) (fun _ => zfm111)) (fun _ => zfm112)) (fun _ => zfm113)) (fun _ => zfm114)) (fun _ => zfm115)) (fun _ => zfm116)) (fun _ => zfm117)) (fun _ => zfm118)) (fun _ => zfm119)) (fun _ => zfm120)) (fun _ => zfm121)) (fun _ => zfm122)) (fun _ => zfm123)) (fun _ => zfm124)) (fun _ => zfm125)) (fun _ => zfm126)) (fun _ => zfm127)) (fun _ => zfm128)) (fun _ => zfm129)) (fun _ => zfm130)) (fun _ => zfm131)) (fun _ => zfm132)) (fun _ => zfm133)) (fun _ => zfm134)) (fun _ => zfm135)) (fun _ => zfm136)) (fun _ => zfm137)) (fun _ => zfm138)) (fun _ => zfm139)) (fun _ => zfm140)) (fun _ => zfm141)) (fun _ => zfm142)) (fun _ => zfm143)) (fun _ => zfm144)) (fun _ => zfm145)) (fun _ => zfm146)) (fun _ => zfm147)) (fun _ => zfm148)) (fun _ => zfm149)) (fun _ => zfm150)) (fun _ => zfm151)) (fun _ => zfm152)) (fun _ => zfm153)) (fun _ => zfm154)) (fun _ => zfm155)) (fun _ => zfm156)) (fun _ => zfm157)) (fun _ => zfm158)) (fun _ => zfm159)) (fun _ => zfm160)) (fun _ => zfm161)) (fun _ => zfm162)) (fun _ => zfm163)) (fun _ => zfm164)) (fun _ => zfm165)) (fun _ => zfm166)) (fun _ => zfm167)) (fun _ => zfm168)) (fun _ => zfm169)) (fun _ => zfm170)
/-- a link of a method, plain or from the nest -/
def FL (nst : List Cond) (c idx j : Nat) : Prop := Cond.methodLink (clsN c) idx (mN j) ∈ TBW ∨ ((¬ (60 ≤ j ∧ j ≤ 62) ∧ mSt j = 1) ∧ Cond.methodLinkNest (clsN c) idx (mN j) "LowForge" ∈ nst)
def nstW : List Cond := [Cond.methodLinkNest (clsN 3) 99 (mN 76) "LowForge", Cond.methodLinkNest (clsN 6) 58 (mN 76) "LowForge"]
set_option maxRecDepth 20000 in
theorem zfl0_183 : FL nstW 0 183 1 := Or.inl (tb6 164 rfl rfl)
set_option maxRecDepth 20000 in
theorem zfl0_187 : FL nstW 0 187 2 := Or.inl (tb6 167 rfl rfl)
set_option maxRecDepth 20000 in
theorem zfl0_201 : FL nstW 0 201 6 := Or.inl (tb6 187 rfl rfl)
set_option maxRecDepth 20000 in
theorem zfl0_204 : FL nstW 0 204 7 := Or.inl (tb6 183 rfl rfl)
set_option maxRecDepth 20000 in
theorem zfl0_208 : FL nstW 0 208 5 := Or.inl (tb6 195 rfl rfl)
set_option maxRecDepth 20000 in
theorem zfl0_212 : FL nstW 0 212 10 := Or.inl (tb6 214 rfl rfl)
set_option maxRecDepth 20000 in
theorem zfl0_216 : FL nstW 0 216 9 := Or.inl (tb6 234 rfl rfl)
set_option maxRecDepth 20000 in
theorem zfl0_223 : FL nstW 0 223 11 := Or.inl (tb6 225 rfl rfl)
set_option maxRecDepth 20000 in
theorem zfl0_229 : FL nstW 0 229 8 := Or.inl (tb6 191 rfl rfl)
set_option maxRecDepth 20000 in
theorem zfl0_235 : FL nstW 0 235 12 := Or.inl (tb6 230 rfl rfl)
set_option maxRecDepth 20000 in
theorem zfl0_239 : FL nstW 0 239 13 := Or.inl (tb7 17 rfl rfl)
set_option maxRecDepth 20000 in
theorem zfl0_243 : FL nstW 0 243 14 := Or.inl (tb7 21 rfl rfl)
set_option maxRecDepth 20000 in
theorem zfl0_249 : FL nstW 0 249 16 := Or.inl (tb6 221 rfl rfl)
set_option maxRecDepth 20000 in
theorem zfl0_252 : FL nstW 0 252 18 := Or.inl (tb6 211 rfl rfl)
set_option maxRecDepth 20000 in
theorem zfl0_255 : FL nstW 0 255 19 := Or.inl (tb6 207 rfl rfl)
set_option maxRecDepth 20000 in
theorem zfl0_258 : FL nstW 0 258 17 := Or.inl (tb6 217 rfl rfl)
set_option maxRecDepth 20000 in
theorem zfl0_261 : FL nstW 0 261 20 := Or.inl (tb6 237 rfl rfl)
set_option maxRecDepth 20000 in
theorem zfl0_265 : FL nstW 0 265 21 := Or.inl (tb7 1 rfl rfl)
set_option maxRecDepth 20000 in
theorem zfl0_271 : FL nstW 0 271 23 := Or.inl (tb6 199 rfl rfl)
set_option maxRecDepth 20000 in
theorem zfl0_274 : FL nstW 0 274 22 := Or.inl (tb6 203 rfl rfl)
set_option maxRecDepth 20000 in
theorem zfl0_277 : FL nstW 0 277 15 := Or.inl (tb7 13 rfl rfl)
set_option maxRecDepth 20000 in
theorem zfl0_280 : FL nstW 0 280 25 := Or.inl (tb7 5 rfl rfl)
set_option maxRecDepth 20000 in
theorem zfl0_283 : FL nstW 0 283 24 := Or.inl (tb7 9 rfl rfl)
set_option maxRecDepth 20000 in
theorem zfl0_296 : FL nstW 0 296 27 := Or.inl (tb7 37 rfl rfl)
set_option maxRecDepth 20000 in
theorem zfl0_299 : FL nstW 0 299 28 := Or.inl (tb7 41 rfl rfl)
set_option maxRecDepth 20000 in
theorem zfl0_306 : FL nstW 0 306 29 := Or.inl (tb7 33 rfl rfl)
set_option maxRecDepth 20000 in
theorem zfl0_309 : FL nstW 0 309 30 := Or.inl (tb7 45 rfl rfl)
set_option maxRecDepth 20000 in
theorem zfl0_316 : FL nstW 0 316 32 := Or.inl (tb7 53 rfl rfl)
set_option maxRecDepth 20000 in
theorem zfl0_319 : FL nstW 0 319 33 := Or.inl (tb7 57 rfl rfl)
set_option maxRecDepth 20000 in
theorem zfl0_325 : FL nstW 0 325 34 := Or.inl (tb7 61 rfl rfl)
set_option maxRecDepth 20000 in
theorem zfl0_329 : FL nstW 0 329 31 := Or.inl (tb7 29 rfl rfl)
set_option maxRecDepth 20000 in
theorem zfl0_332 : FL nstW 0 332 35 := Or.inl (tb7 49 rfl rfl)
set_option maxRecDepth 20000 in
theorem zfl0_335 : FL nstW 0 335 37 := Or.inl (tb7 73 rfl rfl)
set_option maxRecDepth 20000 in
theorem zfl0_338 : FL nstW 0 338 38 := Or.inl (tb7 76 rfl rfl)
set_option maxRecDepth 20000 in
theorem zfl0_341 : FL nstW 0 341 39 := Or.inl (tb7 69 rfl rfl)
set_option maxRecDepth 20000 in
theorem zfl0_344 : FL nstW 0 344 42 := Or.inl (tb7 87 rfl rfl)
set_option maxRecDepth 20000 in
theorem zfl0_362 : FL nstW 0 362 26 := Or.inl (tb6 179 rfl rfl)
set_option maxRecDepth 20000 in
theorem zfl0_365 : FL nstW 0 365 36 := Or.inl (tb7 25 rfl rfl)
set_option maxRecDepth 20000 in
theorem zfl0_368 : FL nstW 0 368 40 := Or.inl (tb7 65 rfl rfl)
set_option maxRecDepth 20000 in
theorem zfl0_371 : FL nstW 0 371 41 := Or.inl (tb7 79 rfl rfl)
set_option maxRecDepth 20000 in
theorem zfl0_374 : FL nstW 0 374 43 := Or.inl (tb7 83 rfl rfl)
set_option maxRecDepth 20000 in
theorem zfl0_377 : FL nstW 0 377 44 := Or.inl (tb7 91 rfl rfl)
set_option maxRecDepth 20000 in
theorem zfl0_380 : FL nstW 0 380 45 := Or.inl (tb7 95 rfl rfl)
set_option maxRecDepth 20000 in
theorem zfl0_383 : FL nstW 0 383 51 := Or.inl (tb7 99 rfl rfl)
set_option maxRecDepth 20000 in
theorem zfl0_386 : FL nstW 0 386 48 := Or.inl (tb7 107 rfl rfl)
set_option maxRecDepth 20000 in
theorem zfl0_389 : FL nstW 0 389 49 := Or.inl (tb7 103 rfl rfl)
set_option maxRecDepth 20000 in
theorem zfl0_392 : FL nstW 0 392 50 := Or.inl (tb7 110 rfl rfl)
set_option maxRecDepth 20000 in
theorem zfl0_395 : FL nstW 0 395 56 := Or.inl (tb7 138 rfl rfl)
set_option maxRecDepth 20000 in
theorem zflC0 : ∀ q ∈ pmt.getD 0 [], FL nstW 0 q.1 q.2 := by
  show ∀ q ∈ ([(183, 1), (187, 2), (201, 6), (204, 7), (208, 5), (212, 10), (216, 9), (223, 11), (229, 8), (235, 12), (239, 13), (243, 14), (249, 16), (252, 18), (255, 19), (258, 17), (261, 20), (265, 21), (271, 23), (274, 22), (277, 15), (280, 25), (283, 24), (296, 27), (299, 28), (306, 29), (309, 30), (316, 32), (319, 33), (325, 34), (329, 31), (332, 35), (335, 37), (338, 38), (341, 39), (344, 42), (362, 26), (365, 36), (368, 40), (371, 41), (374, 43), (377, 44), (380, 45), (383, 51), (386, 48), (389, 49), (392, 50), (395, 56)] : List (Nat × Nat)), FL nstW 0 q.1 q.2
  exact List.forall_mem_cons.mpr ⟨zfl0_183, List.forall_mem_cons.mpr ⟨zfl0_187, List.forall_mem_cons.mpr ⟨zfl0_201, List.forall_mem_cons.mpr ⟨zfl0_204, List.forall_mem_cons.mpr ⟨zfl0_208, List.forall_mem_cons.mpr ⟨zfl0_212, List.forall_mem_cons.mpr ⟨zfl0_216, List.forall_mem_cons.mpr ⟨zfl0_223, List.forall_mem_cons.mpr ⟨zfl0_229, List.forall_mem_cons.mpr ⟨zfl0_235, List.forall_mem_cons.mpr ⟨zfl0_239, List.forall_mem_cons.mpr ⟨zfl0_243, List.forall_mem_cons.mpr ⟨zfl0_249, List.forall_mem_cons.mpr ⟨zfl0_252, List.forall_mem_cons.mpr ⟨zfl0_255, List.forall_mem_cons.mpr ⟨zfl0_258, List.forall_mem_cons.mpr ⟨zfl0_261, List.forall_mem_cons.mpr ⟨zfl0_265, List.forall_mem_cons.mpr ⟨zfl0_271, List.forall_mem_cons.mpr ⟨zfl0_274, List.forall_mem_cons.mpr ⟨zfl0_277, List.forall_mem_cons.mpr ⟨zfl0_280, List.forall_mem_cons.mpr ⟨zfl0_283, List.forall_mem_cons.mpr ⟨zfl0_296, List.forall_mem_cons.mpr ⟨zfl0_299, List.forall_mem_cons.mpr ⟨zfl0_306, List.forall_mem_cons.mpr ⟨zfl0_309, List.forall_mem_cons.mpr ⟨zfl0_316, List.forall_mem_cons.mpr ⟨zfl0_319, List.forall_mem_cons.mpr ⟨zfl0_325, List.forall_mem_cons.mpr ⟨zfl0_329, List.forall_mem_cons.mpr ⟨zfl0_332, List.forall_mem_cons.mpr ⟨zfl0_335, List.forall_mem_cons.mpr ⟨zfl0_338, List.forall_mem_cons.mpr ⟨zfl0_341, List.forall_mem_cons.mpr ⟨zfl0_344, List.forall_mem_cons.mpr ⟨zfl0_362, List.forall_mem_cons.mpr ⟨zfl0_365, List.forall_mem_cons.mpr ⟨zfl0_368, List.forall_mem_cons.mpr ⟨zfl0_371, List.forall_mem_cons.mpr ⟨zfl0_374, List.forall_mem_cons.mpr ⟨zfl0_377, List.forall_mem_cons.mpr ⟨zfl0_380, List.forall_mem_cons.mpr ⟨zfl0_383, List.forall_mem_cons.mpr ⟨zfl0_386, List.forall_mem_cons.mpr ⟨zfl0_389, List.forall_mem_cons.mpr ⟨zfl0_392, List.forall_mem_cons.mpr ⟨zfl0_395, fun _ h => absurd h List.not_mem_nil⟩⟩⟩⟩⟩⟩⟩⟩⟩⟩⟩⟩⟩⟩⟩⟩⟩⟩⟩⟩⟩⟩⟩⟩⟩⟩⟩⟩⟩⟩⟩⟩⟩⟩⟩⟩⟩⟩⟩⟩⟩⟩⟩⟩⟩⟩⟩⟩
set_option maxRecDepth 20000 in
theorem zfl1_86 : FL nstW 1 86 75 := Or.inl (tb3 18 rfl rfl)
set_option maxRecDepth 20000 in
theorem zfl1_102 : FL nstW 1 102 157 := Or.inl (tb3 118 rfl rfl)
set_option maxRecDepth 20000 in
theorem zfl1_110 : FL nstW 1 110 123 := Or.inl (tb3 138 rfl rfl)
set_option maxRecDepth 20000 in
theorem zfl1_116 : FL nstW 1 116 77 := Or.inl (tb4 40 rfl rfl)
set_option maxRecDepth 20000 in
theorem zfl1_125 : FL nstW 1 125 149 := Or.inl (tb4 146 rfl rfl)
set_option maxRecDepth 20000 in
theorem zfl1_131 : FL nstW 1 131 102 := Or.inl (tb4 182 rfl rfl)
set_option maxRecDepth 20000 in
theorem zfl1_135 : FL nstW 1 135 110 := Or.inl (tb4 230 rfl rfl)
set_option maxRecDepth 20000 in
theorem zfl1_143 : FL nstW 1 143 111 := Or.inl (tb5 10 rfl rfl)
set_option maxRecDepth 20000 in
theorem zfl1_151 : FL nstW 1 151 92 := Or.inl (tb5 30 rfl rfl)
set_option maxRecDepth 20000 in
theorem zfl1_165 : FL nstW 1 165 90 := Or.inl (tb5 73 rfl rfl)
set_option maxRecDepth 20000 in
theorem zfl1_191 : FL nstW 1 191 145 := Or.inl (tb5 107 rfl rfl)
set_option maxRecDepth 20000 in
theorem zfl1_196 : FL nstW 1 196 96 := Or.inl (tb5 109 rfl rfl)
set_option maxRecDepth 20000 in
theorem zfl1_207 : FL nstW 1 207 97 := Or.inl (tb5 129 rfl rfl)
set_option maxRecDepth 20000 in
theorem zfl1_218 : FL nstW 1 218 146 := Or.inl (tb5 149 rfl rfl)
set_option maxRecDepth 20000 in
theorem zfl1_222 : FL nstW 1 222 147 := Or.inl (tb5 153 rfl rfl)
set_option maxRecDepth 20000 in
theorem zfl1_228 : FL nstW 1 228 148 := Or.inl (tb5 157 rfl rfl)
set_option maxRecDepth 20000 in
theorem zflC1 : ∀ q ∈ pmt.getD 1 [], FL nstW 1 q.1 q.2 := by
  show ∀ q ∈ ([(86, 75), (102, 157), (110, 123), (116, 77), (125, 149), (131, 102), (135, 110), (143, 111), (151, 92), (165, 90), (191, 145), (196, 96), (207, 97), (218, 146), (222, 147), (228, 148)] : List (Nat × Nat)), FL nstW 1 q.1 q.2
  exact List.forall_mem_cons.mpr ⟨zfl1_86, List.forall_mem_cons.mpr ⟨zfl1_102, List.forall_mem_cons.mpr ⟨zfl1_110, List.forall_mem_cons.mpr ⟨zfl1_116, List.forall_mem_cons.mpr ⟨zfl1_125, List.forall_mem_cons.mpr ⟨zfl1_131, List.forall_mem_cons.mpr ⟨zfl1_135, List.forall_mem_cons.mpr ⟨zfl1_143, List.forall_mem_cons.mpr ⟨zfl1_151, List.forall_mem_cons.mpr ⟨zfl1_165, List.forall_mem_cons.mpr ⟨zfl1_191, List.forall_mem_cons.mpr ⟨zfl1_196, List.forall_mem_cons.mpr ⟨zfl1_207, List.forall_mem_cons.mpr ⟨zfl1_218, List.forall_mem_cons.mpr ⟨zfl1_222, List.forall_mem_cons.mpr ⟨zfl1_228, fun _ h => absurd h List.not_mem_nil⟩⟩⟩⟩⟩⟩⟩⟩⟩⟩⟩⟩⟩⟩⟩⟩
set_option maxRecDepth 20000 in
theorem zfl2_51 : FL nstW 2 51 63 := Or.inl (tb4 44 rfl rfl)
set_option maxRecDepth 20000 in
theorem zfl2_60 : FL nstW 2 60 78 := Or.inl (tb4 47 rfl rfl)
set_option maxRecDepth 20000 in
theorem zfl2_70 : FL nstW 2 70 88 := Or.inl (tb4 114 rfl rfl)
set_option maxRecDepth 20000 in
theorem zfl2_74 : FL nstW 2 74 98 := Or.inl (tb4 118 rfl rfl)
set_option maxRecDepth 20000 in
theorem zfl2_86 : FL nstW 2 86 87 := Or.inl (tb4 51 rfl rfl)
set_option maxRecDepth 20000 in
theorem zfl2_90 : FL nstW 2 90 85 := Or.inl (tb4 68 rfl rfl)
set_option maxRecDepth 20000 in
theorem zfl2_93 : FL nstW 2 93 80 := Or.inl (tb4 84 rfl rfl)
set_option maxRecDepth 20000 in
theorem zfl2_96 : FL nstW 2 96 79 := Or.inl (tb4 99 rfl rfl)
set_option maxRecDepth 20000 in
theorem zfl2_104 : FL nstW 2 104 81 := Or.inl (tb4 88 rfl rfl)
set_option maxRecDepth 20000 in
theorem zfl2_107 : FL nstW 2 107 82 := Or.inl (tb4 103 rfl rfl)
set_option maxRecDepth 20000 in
theorem zfl2_111 : FL nstW 2 111 83 := Or.inl (tb4 106 rfl rfl)
set_option maxRecDepth 20000 in
theorem zfl2_115 : FL nstW 2 115 143 := Or.inl (tb4 92 rfl rfl)
set_option maxRecDepth 20000 in
theorem zfl2_129 : FL nstW 2 129 84 := Or.inl (tb4 110 rfl rfl)
set_option maxRecDepth 20000 in
theorem zfl2_153 : FL nstW 2 153 89 := Or.inl (tb4 55 rfl rfl)
set_option maxRecDepth 20000 in
theorem zfl2_156 : FL nstW 2 156 86 := Or.inl (tb4 64 rfl rfl)
set_option maxRecDepth 20000 in
theorem zfl2_162 : FL nstW 2 162 168 := Or.inl (tb4 72 rfl rfl)
set_option maxRecDepth 20000 in
theorem zfl2_168 : FL nstW 2 168 99 := Or.inl (tb4 122 rfl rfl)
set_option maxRecDepth 20000 in
theorem zfl2_177 : FL nstW 2 177 156 := Or.inl (tb4 59 rfl rfl)
set_option maxRecDepth 20000 in
theorem zfl2_180 : FL nstW 2 180 167 := Or.inl (tb4 60 rfl rfl)
set_option maxRecDepth 20000 in
theorem zflC2 : ∀ q ∈ pmt.getD 2 [], FL nstW 2 q.1 q.2 := by
  show ∀ q ∈ ([(51, 63), (60, 78), (70, 88), (74, 98), (86, 87), (90, 85), (93, 80), (96, 79), (104, 81), (107, 82), (111, 83), (115, 143), (129, 84), (153, 89), (156, 86), (162, 168), (168, 99), (177, 156), (180, 167)] : List (Nat × Nat)), FL nstW 2 q.1 q.2
  exact List.forall_mem_cons.mpr ⟨zfl2_51, List.forall_mem_cons.mpr ⟨zfl2_60, List.forall_mem_cons.mpr ⟨zfl2_70, List.forall_mem_cons.mpr ⟨zfl2_74, List.forall_mem_cons.mpr ⟨zfl2_86, List.forall_mem_cons.mpr ⟨zfl2_90, List.forall_mem_cons.mpr ⟨zfl2_93, List.forall_mem_cons.mpr ⟨zfl2_96, List.forall_mem_cons.mpr ⟨zfl2_104, List.forall_mem_cons.mpr ⟨zfl2_107, List.forall_mem_cons.mpr ⟨zfl2_111, List.forall_mem_cons.mpr ⟨zfl2_115, List.forall_mem_cons.mpr ⟨zfl2_129, List.forall_mem_cons.mpr ⟨zfl2_153, List.forall_mem_cons.mpr ⟨zfl2_156, List.forall_mem_cons.mpr ⟨zfl2_162, List.forall_mem_cons.mpr ⟨zfl2_168, List.forall_mem_cons.mpr ⟨zfl2_177, List.forall_mem_cons.mpr ⟨zfl2_180, fun _ h => absurd h List.not_mem_nil⟩⟩⟩⟩⟩⟩⟩⟩⟩⟩⟩⟩⟩⟩⟩⟩⟩⟩⟩
set_option maxRecDepth 20000 in
theorem zfl3_66 : FL nstW 3 66 63 := Or.inl (tb5 34 rfl rfl)
set_option maxRecDepth 20000 in
theorem zfl3_72 : FL nstW 3 72 93 := Or.inl (tb5 35 rfl rfl)
set_option maxRecDepth 20000 in
theorem zfl3_75 : FL nstW 3 75 94 := Or.inl (tb5 40 rfl rfl)
set_option maxRecDepth 20000 in
theorem zfl3_78 : FL nstW 3 78 145 := Or.inl (tb5 39 rfl rfl)
set_option maxRecDepth 20000 in
theorem zfl3_88 : FL nstW 3 88 95 := Or.inl (tb5 44 rfl rfl)
set_option maxRecDepth 20000 in
theorem zfl3_92 : FL nstW 3 92 120 := Or.inl (tb5 48 rfl rfl)
set_option maxRecDepth 20000 in
theorem zfl3_99 : FL nstW 3 99 76 := Or.inr ⟨by decide, by simp [nstW]⟩
set_option maxRecDepth 20000 in
theorem zfl3_102 : FL nstW 3 102 60 := Or.inl (tb5 133 rfl rfl)
set_option maxRecDepth 20000 in
theorem zflC3 : ∀ q ∈ pmt.getD 3 [], FL nstW 3 q.1 q.2 := by
  show ∀ q ∈ ([(66, 63), (72, 93), (75, 94), (78, 145), (88, 95), (92, 120), (99, 76), (102, 60)] : List (Nat × Nat)), FL nstW 3 q.1 q.2
  exact List.forall_mem_cons.mpr ⟨zfl3_66, List.forall_mem_cons.mpr ⟨zfl3_72, List.forall_mem_cons.mpr ⟨zfl3_75, List.forall_mem_cons.mpr ⟨zfl3_78, List.forall_mem_cons.mpr ⟨zfl3_88, List.forall_mem_cons.mpr ⟨zfl3_92, List.forall_mem_cons.mpr ⟨zfl3_99, List.forall_mem_cons.mpr ⟨zfl3_102, fun _ h => absurd h List.not_mem_nil⟩⟩⟩⟩⟩⟩⟩⟩
set_option maxRecDepth 20000 in
theorem zfl4_41 : FL nstW 4 41 101 := Or.inl (tb4 126 rfl rfl)
set_option maxRecDepth 20000 in
theorem zflC4 : ∀ q ∈ pmt.getD 4 [], FL nstW 4 q.1 q.2 := by
  show ∀ q ∈ ([(41, 101)] : List (Nat × Nat)), FL nstW 4 q.1 q.2
  exact List.forall_mem_cons.mpr ⟨zfl4_41, fun _ h => absurd h List.not_mem_nil⟩
set_option maxRecDepth 20000 in
theorem zfl5_49 : FL nstW 5 49 103 := Or.inl (tb4 186 rfl rfl)
set_option maxRecDepth 20000 in
theorem zfl5_53 : FL nstW 5 53 104 := Or.inl (tb4 192 rfl rfl)
set_option maxRecDepth 20000 in
theorem zfl5_66 : FL nstW 5 66 105 := Or.inl (tb4 196 rfl rfl)
set_option maxRecDepth 20000 in
theorem zfl5_79 : FL nstW 5 79 106 := Or.inl (tb4 203 rfl rfl)
set_option maxRecDepth 20000 in
theorem zfl5_83 : FL nstW 5 83 107 := Or.inl (tb4 210 rfl rfl)
set_option maxRecDepth 20000 in
theorem zfl5_86 : FL nstW 5 86 108 := Or.inl (tb4 214 rfl rfl)
set_option maxRecDepth 20000 in
theorem zfl5_89 : FL nstW 5 89 109 := Or.inl (tb4 222 rfl rfl)
set_option maxRecDepth 20000 in
theorem zfl5_99 : FL nstW 5 99 116 := Or.inl (tb4 191 rfl rfl)
set_option maxRecDepth 20000 in
theorem zfl5_125 : FL nstW 5 125 98 := Or.inl (tb4 200 rfl rfl)
set_option maxRecDepth 20000 in
theorem zfl5_131 : FL nstW 5 131 99 := Or.inl (tb4 201 rfl rfl)
set_option maxRecDepth 20000 in
theorem zfl5_135 : FL nstW 5 135 100 := Or.inl (tb4 202 rfl rfl)
set_option maxRecDepth 20000 in
theorem zfl5_138 : FL nstW 5 138 60 := Or.inl (tb4 207 rfl rfl)
set_option maxRecDepth 20000 in
theorem zfl5_144 : FL nstW 5 144 91 := Or.inl (tb4 218 rfl rfl)
set_option maxRecDepth 20000 in
theorem zfl5_153 : FL nstW 5 153 145 := Or.inl (tb4 226 rfl rfl)
set_option maxRecDepth 20000 in
theorem zflC5 : ∀ q ∈ pmt.getD 5 [], FL nstW 5 q.1 q.2 := by
  show ∀ q ∈ ([(49, 103), (53, 104), (66, 105), (79, 106), (83, 107), (86, 108), (89, 109), (99, 116), (125, 98), (131, 99), (135, 100), (138, 60), (144, 91), (153, 145)] : List (Nat × Nat)), FL nstW 5 q.1 q.2
  exact List.forall_mem_cons.mpr ⟨zfl5_49, List.forall_mem_cons.mpr ⟨zfl5_53, List.forall_mem_cons.mpr ⟨zfl5_66, List.forall_mem_cons.mpr ⟨zfl5_79, List.forall_mem_cons.mpr ⟨zfl5_83, List.forall_mem_cons.mpr ⟨zfl5_86, List.forall_mem_cons.mpr ⟨zfl5_89, List.forall_mem_cons.mpr ⟨zfl5_99, List.forall_mem_cons.mpr ⟨zfl5_125, List.forall_mem_cons.mpr ⟨zfl5_131, List.forall_mem_cons.mpr ⟨zfl5_135, List.forall_mem_cons.mpr ⟨zfl5_138, List.forall_mem_cons.mpr ⟨zfl5_144, List.forall_mem_cons.mpr ⟨zfl5_153, fun _ h => absurd h List.not_mem_nil⟩⟩⟩⟩⟩⟩⟩⟩⟩⟩⟩⟩⟩⟩
set_option maxRecDepth 20000 in
theorem zfl6_37 : FL nstW 6 37 115 := Or.inl (tb3 192 rfl rfl)
set_option maxRecDepth 20000 in
theorem zfl6_41 : FL nstW 6 41 118 := Or.inl (tb4 154 rfl rfl)
set_option maxRecDepth 20000 in
theorem zfl6_45 : FL nstW 6 45 119 := Or.inl (tb4 158 rfl rfl)
set_option maxRecDepth 20000 in
theorem zfl6_49 : FL nstW 6 49 61 := Or.inl (tb4 161 rfl rfl)
set_option maxRecDepth 20000 in
theorem zfl6_55 : FL nstW 6 55 121 := Or.inl (tb5 52 rfl rfl)
set_option maxRecDepth 20000 in
theorem zfl6_58 : FL nstW 6 58 76 := Or.inr ⟨by decide, by simp [nstW]⟩
set_option maxRecDepth 20000 in
theorem zfl6_61 : FL nstW 6 61 122 := Or.inl (tb5 56 rfl rfl)
set_option maxRecDepth 20000 in
theorem zflC6 : ∀ q ∈ pmt.getD 6 [], FL nstW 6 q.1 q.2 := by
  show ∀ q ∈ ([(37, 115), (41, 118), (45, 119), (49, 61), (55, 121), (58, 76), (61, 122)] : List (Nat × Nat)), FL nstW 6 q.1 q.2
  exact List.forall_mem_cons.mpr ⟨zfl6_37, List.forall_mem_cons.mpr ⟨zfl6_41, List.forall_mem_cons.mpr ⟨zfl6_45, List.forall_mem_cons.mpr ⟨zfl6_49, List.forall_mem_cons.mpr ⟨zfl6_55, List.forall_mem_cons.mpr ⟨zfl6_58, List.forall_mem_cons.mpr ⟨zfl6_61, fun _ h => absurd h List.not_mem_nil⟩⟩⟩⟩⟩⟩⟩
set_option maxRecDepth 20000 in
theorem zfl7_27 : FL nstW 7 27 124 := Or.inl (tb3 142 rfl rfl)
set_option maxRecDepth 20000 in
theorem zfl7_38 : FL nstW 7 38 138 := Or.inl (tb3 167 rfl rfl)
set_option maxRecDepth 20000 in
theorem zfl7_42 : FL nstW 7 42 128 := Or.inl (tb3 171 rfl rfl)
set_option maxRecDepth 20000 in
theorem zfl7_45 : FL nstW 7 45 129 := Or.inl (tb3 230 rfl rfl)
set_option maxRecDepth 20000 in
theorem zfl7_48 : FL nstW 7 48 125 := Or.inl (tb3 234 rfl rfl)
set_option maxRecDepth 20000 in
theorem zfl7_51 : FL nstW 7 51 126 := Or.inl (tb4 31 rfl rfl)
set_option maxRecDepth 20000 in
theorem zfl7_54 : FL nstW 7 54 127 := Or.inl (tb4 35 rfl rfl)
set_option maxRecDepth 20000 in
theorem zfl7_61 : FL nstW 7 61 112 := Or.inl (tb3 146 rfl rfl)
set_option maxRecDepth 20000 in
theorem zfl7_66 : FL nstW 7 66 161 := Or.inl (tb3 150 rfl rfl)
set_option maxRecDepth 20000 in
theorem zfl7_69 : FL nstW 7 69 153 := Or.inl (tb3 163 rfl rfl)
set_option maxRecDepth 20000 in
theorem zfl7_75 : FL nstW 7 75 142 := Or.inl (tb3 175 rfl rfl)
set_option maxRecDepth 20000 in
theorem zfl7_84 : FL nstW 7 84 139 := Or.inl (tb3 203 rfl rfl)
set_option maxRecDepth 20000 in
theorem zfl7_87 : FL nstW 7 87 141 := Or.inl (tb3 207 rfl rfl)
set_option maxRecDepth 20000 in
theorem zfl7_91 : FL nstW 7 91 130 := Or.inl (tb3 238 rfl rfl)
set_option maxRecDepth 20000 in
theorem zfl7_95 : FL nstW 7 95 154 := Or.inl (tb3 226 rfl rfl)
set_option maxRecDepth 20000 in
theorem zfl7_99 : FL nstW 7 99 135 := Or.inl (tb3 179 rfl rfl)
set_option maxRecDepth 20000 in
theorem zfl7_102 : FL nstW 7 102 137 := Or.inl (tb3 199 rfl rfl)
set_option maxRecDepth 20000 in
theorem zfl7_105 : FL nstW 7 105 131 := Or.inl (tb4 2 rfl rfl)
set_option maxRecDepth 20000 in
theorem zfl7_108 : FL nstW 7 108 133 := Or.inl (tb4 7 rfl rfl)
set_option maxRecDepth 20000 in
theorem zfl7_111 : FL nstW 7 111 132 := Or.inl (tb4 23 rfl rfl)
set_option maxRecDepth 20000 in
theorem zfl7_114 : FL nstW 7 114 162 := Or.inl (tb4 6 rfl rfl)
set_option maxRecDepth 20000 in
theorem zfl7_117 : FL nstW 7 117 140 := Or.inl (tb3 184 rfl rfl)
set_option maxRecDepth 20000 in
theorem zfl7_121 : FL nstW 7 121 163 := Or.inl (tb4 27 rfl rfl)
set_option maxRecDepth 20000 in
theorem zfl7_124 : FL nstW 7 124 134 := Or.inl (tb4 11 rfl rfl)
set_option maxRecDepth 20000 in
theorem zfl7_130 : FL nstW 7 130 164 := Or.inl (tb4 19 rfl rfl)
set_option maxRecDepth 20000 in
theorem zfl7_133 : FL nstW 7 133 166 := Or.inl (tb4 15 rfl rfl)
set_option maxRecDepth 20000 in
theorem zfl7_138 : FL nstW 7 138 113 := Or.inl (tb3 188 rfl rfl)
set_option maxRecDepth 20000 in
theorem zfl7_142 : FL nstW 7 142 116 := Or.inl (tb3 196 rfl rfl)
set_option maxRecDepth 20000 in
theorem zfl7_145 : FL nstW 7 145 136 := Or.inl (tb3 218 rfl rfl)
set_option maxRecDepth 20000 in
theorem zfl7_148 : FL nstW 7 148 114 := Or.inl (tb3 222 rfl rfl)
set_option maxRecDepth 20000 in
theorem zfl7_154 : FL nstW 7 154 156 := Or.inl (tb3 211 rfl rfl)
set_option maxRecDepth 20000 in
theorem zfl7_157 : FL nstW 7 157 155 := Or.inl (tb3 214 rfl rfl)
set_option maxRecDepth 20000 in
theorem zflC7 : ∀ q ∈ pmt.getD 7 [], FL nstW 7 q.1 q.2 := by
  show ∀ q ∈ ([(27, 124), (38, 138), (42, 128), (45, 129), (48, 125), (51, 126), (54, 127), (61, 112), (66, 161), (69, 153), (75, 142), (84, 139), (87, 141), (91, 130), (95, 154), (99, 135), (102, 137), (105, 131), (108, 133), (111, 132), (114, 162), (117, 140), (121, 163), (124, 134), (130, 164), (133, 166), (138, 113), (142, 116), (145, 136), (148, 114), (154, 156), (157, 155)] : List (Nat × Nat)), FL nstW 7 q.1 q.2
  exact List.forall_mem_cons.mpr ⟨zfl7_27, List.forall_mem_cons.mpr ⟨zfl7_38, List.forall_mem_cons.mpr ⟨zfl7_42, List.forall_mem_cons.mpr ⟨zfl7_45, List.forall_mem_cons.mpr ⟨zfl7_48, List.forall_mem_cons.mpr ⟨zfl7_51, List.forall_mem_cons.mpr ⟨zfl7_54, List.forall_mem_cons.mpr ⟨zfl7_61, List.forall_mem_cons.mpr ⟨zfl7_66, List.forall_mem_cons.mpr ⟨zfl7_69, List.forall_mem_cons.mpr ⟨zfl7_75, List.forall_mem_cons.mpr ⟨zfl7_84, List.forall_mem_cons.mpr ⟨zfl7_87, List.forall_mem_cons.mpr ⟨zfl7_91, List.forall_mem_cons.mpr ⟨zfl7_95, List.forall_mem_cons.mpr ⟨zfl7_99, List.forall_mem_cons.mpr ⟨zfl7_102, List.forall_mem_cons.mpr ⟨zfl7_105, List.forall_mem_cons.mpr ⟨zfl7_108, List.forall_mem_cons.mpr ⟨zfl7_111, List.forall_mem_cons.mpr ⟨zfl7_114, List.forall_mem_cons.mpr ⟨zfl7_117, List.forall_mem_cons.mpr ⟨zfl7_121, List.forall_mem_cons.mpr ⟨zfl7_124, List.forall_mem_cons.mpr ⟨zfl7_130, List.forall_mem_cons.mpr ⟨zfl7_133, List.forall_mem_cons.mpr ⟨zfl7_138, List.forall_mem_cons.mpr ⟨zfl7_142, List.forall_mem_cons.mpr ⟨zfl7_145, List.forall_mem_cons.mpr ⟨zfl7_148, List.forall_mem_cons.mpr ⟨zfl7_154, List.forall_mem_cons.mpr ⟨zfl7_157, fun _ h => absurd h List.not_mem_nil⟩⟩⟩⟩⟩⟩⟩⟩⟩⟩⟩⟩⟩⟩⟩⟩⟩⟩⟩⟩⟩⟩⟩⟩⟩⟩⟩⟩⟩⟩⟩⟩
set_option maxRecDepth 20000 in
theorem zfl8_35 : FL nstW 8 35 144 := Or.inl (tb4 96 rfl rfl)
set_option maxRecDepth 20000 in
theorem zflC8 : ∀ q ∈ pmt.getD 8 [], FL nstW 8 q.1 q.2 := by
  show ∀ q ∈ ([(35, 144)] : List (Nat × Nat)), FL nstW 8 q.1 q.2
  exact List.forall_mem_cons.mpr ⟨zfl8_35, fun _ h => absurd h List.not_mem_nil⟩
set_option maxRecDepth 20000 in
theorem zfl9_35 : FL nstW 9 35 117 := Or.inl (tb4 150 rfl rfl)
set_option maxRecDepth 20000 in
theorem zfl9_41 : FL nstW 9 41 150 := Or.inl (tb4 164 rfl rfl)
set_option maxRecDepth 20000 in
theorem zfl9_61 : FL nstW 9 61 152 := Or.inl (tb4 168 rfl rfl)
set_option maxRecDepth 20000 in
theorem zfl9_65 : FL nstW 9 65 151 := Or.inl (tb4 171 rfl rfl)
set_option maxRecDepth 20000 in
theorem zfl9_69 : FL nstW 9 69 98 := Or.inl (tb4 175 rfl rfl)
set_option maxRecDepth 20000 in
theorem zfl9_75 : FL nstW 9 75 99 := Or.inl (tb4 176 rfl rfl)
set_option maxRecDepth 20000 in
theorem zfl9_83 : FL nstW 9 83 100 := Or.inl (tb4 177 rfl rfl)
set_option maxRecDepth 20000 in
theorem zflC9 : ∀ q ∈ pmt.getD 9 [], FL nstW 9 q.1 q.2 := by
  show ∀ q ∈ ([(35, 117), (41, 150), (61, 152), (65, 151), (69, 98), (75, 99), (83, 100)] : List (Nat × Nat)), FL nstW 9 q.1 q.2
  exact List.forall_mem_cons.mpr ⟨zfl9_35, List.forall_mem_cons.mpr ⟨zfl9_41, List.forall_mem_cons.mpr ⟨zfl9_61, List.forall_mem_cons.mpr ⟨zfl9_65, List.forall_mem_cons.mpr ⟨zfl9_69, List.forall_mem_cons.mpr ⟨zfl9_75, List.forall_mem_cons.mpr ⟨zfl9_83, fun _ h => absurd h List.not_mem_nil⟩⟩⟩⟩⟩⟩⟩
set_option maxRecDepth 20000 in
theorem zflC10 : ∀ q ∈ pmt.getD 10 [], FL nstW 10 q.1 q.2 := fun _ h => absurd h List.not_mem_nil
set_option maxRecDepth 20000 in
theorem zfl11_25 : FL nstW 11 25 160 := Or.inl (tb3 122 rfl rfl)
set_option maxRecDepth 20000 in
theorem zfl11_29 : FL nstW 11 29 159 := Or.inl (tb3 125 rfl rfl)
set_option maxRecDepth 20000 in
theorem zfl11_33 : FL nstW 11 33 158 := Or.inl (tb3 134 rfl rfl)
set_option maxRecDepth 20000 in
theorem zfl11_37 : FL nstW 11 37 62 := Or.inl (tb3 130 rfl rfl)
set_option maxRecDepth 20000 in
theorem zflC11 : ∀ q ∈ pmt.getD 11 [], FL nstW 11 q.1 q.2 := by
  show ∀ q ∈ ([(25, 160), (29, 159), (33, 158), (37, 62)] : List (Nat × Nat)), FL nstW 11 q.1 q.2
  exact List.forall_mem_cons.mpr ⟨zfl11_25, List.forall_mem_cons.mpr ⟨zfl11_29, List.forall_mem_cons.mpr ⟨zfl11_33, List.forall_mem_cons.mpr ⟨zfl11_37, fun _ h => absurd h List.not_mem_nil⟩⟩⟩⟩
set_option maxRecDepth 20000 in
theorem zfl12_47 : FL nstW 12 47 162 := Or.inl (tb3 154 rfl rfl)
set_option maxRecDepth 20000 in
theorem zfl12_51 : FL nstW 12 51 165 := Or.inl (tb3 158 rfl rfl)
set_option maxRecDepth 20000 in
theorem zfl12_55 : FL nstW 12 55 62 := Or.inl (tb3 162 rfl rfl)
set_option maxRecDepth 20000 in
theorem zfl12_61 : FL nstW 12 61 169 := Or.inl (tb4 76 rfl rfl)
set_option maxRecDepth 20000 in
theorem zfl12_65 : FL nstW 12 65 170 := Or.inl (tb4 80 rfl rfl)
set_option maxRecDepth 20000 in
theorem zflC12 : ∀ q ∈ pmt.getD 12 [], FL nstW 12 q.1 q.2 := by
  show ∀ q ∈ ([(47, 162), (51, 165), (55, 62), (61, 169), (65, 170)] : List (Nat × Nat)), FL nstW 12 q.1 q.2
  exact List.forall_mem_cons.mpr ⟨zfl12_47, List.forall_mem_cons.mpr ⟨zfl12_51, List.forall_mem_cons.mpr ⟨zfl12_55, List.forall_mem_cons.mpr ⟨zfl12_61, List.forall_mem_cons.mpr ⟨zfl12_65, fun _ h => absurd h List.not_mem_nil⟩⟩⟩⟩⟩
set_option maxRecDepth 20000 in
theorem zflC13 : ∀ q ∈ pmt.getD 13 [], FL nstW 13 q.1 q.2 := fun _ h => absurd h List.not_mem_nil
set_option maxRecDepth 20000 in
theorem zflC14 : ∀ q ∈ pmt.getD 14 [], FL nstW 14 q.1 q.2 := fun _ h => absurd h List.not_mem_nil
theorem flAll : ∀ c, c < 15 → ∀ q ∈ pmt.getD c [], FL nstW c q.1 q.2 := lt_s (lt_s (lt_s (lt_s (lt_s (lt_s (lt_s (lt_s (lt_s (lt_s (lt_s (lt_s (lt_s (lt_s (lt_s lt_0 zflC0) zflC1) zflC2) zflC3) zflC4) zflC5) zflC6) zflC7) zflC8) zflC9) zflC10) zflC11) zflC12) zflC13) zflC14
set_option maxRecDepth 20000 in
theorem zb_max : Cond.static (mN 61) ∈ TBW ∧ Cond.initialized "java/lang/Math" ∈ TBW ∧ Cond.code (mN 61) Lib.Math.max.code 2 (some .int) ∈ TBW ∧ mN 61 = Lib.Math.max.name := ⟨tb4 162 rfl rfl, tb1 19 rfl rfl, tb4 163 rfl rfl, rfl⟩
set_option maxRecDepth 20000 in
theorem zb_min : Cond.static (mN 62) ∈ TBW ∧ Cond.initialized "java/lang/Math" ∈ TBW ∧ Cond.code (mN 62) Lib.Math.min.code 2 (some .int) ∈ TBW ∧ mN 62 = Lib.Math.min.name := ⟨tb3 131 rfl rfl, tb1 19 rfl rfl, tb3 132 rfl rfl, rfl⟩
set_option maxRecDepth 20000 in
theorem zb_copy : Cond.static (mN 60) ∈ TBW ∧ Cond.initialized "java/lang/System" ∈ TBW ∧ Cond.native (mN 60) ∈ TBW ∧ mN 60 = arraycopyName := ⟨tb4 208 rfl rfl, tb1 22 rfl rfl, tb4 209 rfl rfl, rfl⟩
def FFz (c idx ci k : Nat) : Prop := Cond.fieldLink (clsN c) idx (clsN ci) (TZ ci k).2.1 (TZ ci k).2.2.1 ∈ TBW ∧ k < nfZ ci ∧ clZ[ci]? = some (clsN ci, TZ ci, nfZ ci) ∧ (TZ ci k).1 = clsN ci
set_option maxRecDepth 20000 in
theorem zff0_7 : FFz 0 7 0 0 := ⟨tb5 167 rfl rfl, by decide, rfl, rfl⟩
set_option maxRecDepth 20000 in
theorem zff0_13 : FFz 0 13 0 3 := ⟨tb5 170 rfl rfl, by decide, rfl, rfl⟩
set_option maxRecDepth 20000 in
theorem zff0_17 : FFz 0 17 0 6 := ⟨tb5 173 rfl rfl, by decide, rfl, rfl⟩
set_option maxRecDepth 20000 in
theorem zff0_20 : FFz 0 20 0 7 := ⟨tb5 174 rfl rfl, by decide, rfl, rfl⟩
set_option maxRecDepth 20000 in
theorem zff0_23 : FFz 0 23 0 8 := ⟨tb5 175 rfl rfl, by decide, rfl, rfl⟩
set_option maxRecDepth 20000 in
theorem zff0_26 : FFz 0 26 0 9 := ⟨tb5 176 rfl rfl, by decide, rfl, rfl⟩
set_option maxRecDepth 20000 in
theorem zff0_29 : FFz 0 29 0 10 := ⟨tb5 177 rfl rfl, by decide, rfl, rfl⟩
set_option maxRecDepth 20000 in
theorem zff0_32 : FFz 0 32 0 11 := ⟨tb5 178 rfl rfl, by decide, rfl, rfl⟩
set_option maxRecDepth 20000 in
theorem zff0_35 : FFz 0 35 0 12 := ⟨tb5 179 rfl rfl, by decide, rfl, rfl⟩
set_option maxRecDepth 20000 in
theorem zff0_38 : FFz 0 38 0 13 := ⟨tb5 180 rfl rfl, by decide, rfl, rfl⟩
set_option maxRecDepth 20000 in
theorem zff0_41 : FFz 0 41 0 14 := ⟨tb5 181 rfl rfl, by decide, rfl, rfl⟩
set_option maxRecDepth 20000 in
theorem zff0_44 : FFz 0 44 0 15 := ⟨tb5 182 rfl rfl, by decide, rfl, rfl⟩
set_option maxRecDepth 20000 in
theorem zff0_47 : FFz 0 47 0 19 := ⟨tb5 186 rfl rfl, by decide, rfl, rfl⟩
set_option maxRecDepth 20000 in
theorem zff0_50 : FFz 0 50 0 20 := ⟨tb5 187 rfl rfl, by decide, rfl, rfl⟩
set_option maxRecDepth 20000 in
theorem zff0_53 : FFz 0 53 0 21 := ⟨tb5 188 rfl rfl, by decide, rfl, rfl⟩
set_option maxRecDepth 20000 in
theorem zff0_56 : FFz 0 56 0 22 := ⟨tb5 189 rfl rfl, by decide, rfl, rfl⟩
set_option maxRecDepth 20000 in
theorem zff0_59 : FFz 0 59 0 23 := ⟨tb5 190 rfl rfl, by decide, rfl, rfl⟩
set_option maxRecDepth 20000 in
theorem zff0_62 : FFz 0 62 0 24 := ⟨tb5 191 rfl rfl, by decide, rfl, rfl⟩
set_option maxRecDepth 20000 in
theorem zff0_65 : FFz 0 65 0 25 := ⟨tb5 192 rfl rfl, by decide, rfl, rfl⟩
set_option maxRecDepth 20000 in
theorem zff0_68 : FFz 0 68 0 26 := ⟨tb5 193 rfl rfl, by decide, rfl, rfl⟩
set_option maxRecDepth 20000 in
theorem zff0_71 : FFz 0 71 0 27 := ⟨tb5 194 rfl rfl, by decide, rfl, rfl⟩
set_option maxRecDepth 20000 in
theorem zff0_74 : FFz 0 74 0 28 := ⟨tb5 195 rfl rfl, by decide, rfl, rfl⟩
set_option maxRecDepth 20000 in
theorem zff0_77 : FFz 0 77 0 29 := ⟨tb5 196 rfl rfl, by decide, rfl, rfl⟩
set_option maxRecDepth 20000 in
theorem zff0_80 : FFz 0 80 0 30 := ⟨tb5 197 rfl rfl, by decide, rfl, rfl⟩
set_option maxRecDepth 20000 in
theorem zff0_83 : FFz 0 83 0 31 := ⟨tb5 198 rfl rfl, by decide, rfl, rfl⟩
set_option maxRecDepth 20000 in
theorem zff0_86 : FFz 0 86 0 33 := ⟨tb5 200 rfl rfl, by decide, rfl, rfl⟩
set_option maxRecDepth 20000 in
theorem zff0_89 : FFz 0 89 0 34 := ⟨tb5 201 rfl rfl, by decide, rfl, rfl⟩
set_option maxRecDepth 20000 in
theorem zff0_92 : FFz 0 92 0 35 := ⟨tb5 202 rfl rfl, by decide, rfl, rfl⟩
set_option maxRecDepth 20000 in
theorem zff0_95 : FFz 0 95 0 36 := ⟨tb5 203 rfl rfl, by decide, rfl, rfl⟩
set_option maxRecDepth 20000 in
theorem zff0_98 : FFz 0 98 0 37 := ⟨tb5 204 rfl rfl, by decide, rfl, rfl⟩
set_option maxRecDepth 20000 in
theorem zff0_101 : FFz 0 101 0 38 := ⟨tb5 205 rfl rfl, by decide, rfl, rfl⟩
set_option maxRecDepth 20000 in
theorem zff0_104 : FFz 0 104 0 39 := ⟨tb5 206 rfl rfl, by decide, rfl, rfl⟩
set_option maxRecDepth 20000 in
theorem zff0_107 : FFz 0 107 0 41 := ⟨tb5 208 rfl rfl, by decide, rfl, rfl⟩
set_option maxRecDepth 20000 in
theorem zff0_110 : FFz 0 110 0 42 := ⟨tb5 209 rfl rfl, by decide, rfl, rfl⟩
set_option maxRecDepth 20000 in
theorem zff0_113 : FFz 0 113 0 43 := ⟨tb5 210 rfl rfl, by decide, rfl, rfl⟩
set_option maxRecDepth 20000 in
theorem zff0_116 : FFz 0 116 0 44 := ⟨tb5 211 rfl rfl, by decide, rfl, rfl⟩
set_option maxRecDepth 20000 in
theorem zff0_119 : FFz 0 119 0 45 := ⟨tb5 212 rfl rfl, by decide, rfl, rfl⟩
set_option maxRecDepth 20000 in
theorem zff0_122 : FFz 0 122 0 46 := ⟨tb5 213 rfl rfl, by decide, rfl, rfl⟩
set_option maxRecDepth 20000 in
theorem zff0_125 : FFz 0 125 0 47 := ⟨tb5 214 rfl rfl, by decide, rfl, rfl⟩
set_option maxRecDepth 20000 in
theorem zff0_128 : FFz 0 128 0 48 := ⟨tb5 215 rfl rfl, by decide, rfl, rfl⟩
set_option maxRecDepth 20000 in
theorem zff0_131 : FFz 0 131 0 49 := ⟨tb5 216 rfl rfl, by decide, rfl, rfl⟩
set_option maxRecDepth 20000 in
theorem zff0_134 : FFz 0 134 0 54 := ⟨tb5 221 rfl rfl, by decide, rfl, rfl⟩
set_option maxRecDepth 20000 in
theorem zff0_137 : FFz 0 137 0 55 := ⟨tb5 222 rfl rfl, by decide, rfl, rfl⟩
set_option maxRecDepth 20000 in
theorem zff0_140 : FFz 0 140 0 56 := ⟨tb5 223 rfl rfl, by decide, rfl, rfl⟩
set_option maxRecDepth 20000 in
theorem zff0_143 : FFz 0 143 0 59 := ⟨tb5 226 rfl rfl, by decide, rfl, rfl⟩
set_option maxRecDepth 20000 in
theorem zff0_146 : FFz 0 146 0 60 := ⟨tb5 227 rfl rfl, by decide, rfl, rfl⟩
set_option maxRecDepth 20000 in
theorem zff0_149 : FFz 0 149 0 61 := ⟨tb5 228 rfl rfl, by decide, rfl, rfl⟩
set_option maxRecDepth 20000 in
theorem zff0_152 : FFz 0 152 0 62 := ⟨tb5 229 rfl rfl, by decide, rfl, rfl⟩
set_option maxRecDepth 20000 in
theorem zff0_155 : FFz 0 155 0 63 := ⟨tb5 230 rfl rfl, by decide, rfl, rfl⟩
set_option maxRecDepth 20000 in
theorem zff0_158 : FFz 0 158 0 64 := ⟨tb5 231 rfl rfl, by decide, rfl, rfl⟩
set_option maxRecDepth 20000 in
theorem zff0_162 : FFz 0 162 0 65 := ⟨tb5 232 rfl rfl, by decide, rfl, rfl⟩
set_option maxRecDepth 20000 in
theorem zff0_165 : FFz 0 165 0 66 := ⟨tb5 233 rfl rfl, by decide, rfl, rfl⟩
set_option maxRecDepth 20000 in
theorem zff0_168 : FFz 0 168 0 67 := ⟨tb5 234 rfl rfl, by decide, rfl, rfl⟩
set_option maxRecDepth 20000 in
theorem zff0_171 : FFz 0 171 0 68 := ⟨tb5 235 rfl rfl, by decide, rfl, rfl⟩
set_option maxRecDepth 20000 in
theorem zff0_174 : FFz 0 174 0 69 := ⟨tb5 236 rfl rfl, by decide, rfl, rfl⟩
set_option maxRecDepth 20000 in
theorem zff0_177 : FFz 0 177 0 70 := ⟨tb5 237 rfl rfl, by decide, rfl, rfl⟩
set_option maxRecDepth 20000 in
theorem zff0_180 : FFz 0 180 0 4 := ⟨tb5 171 rfl rfl, by decide, rfl, rfl⟩
set_option maxRecDepth 20000 in
theorem zff0_191 : FFz 0 191 0 1 := ⟨tb5 168 rfl rfl, by decide, rfl, rfl⟩
set_option maxRecDepth 20000 in
theorem zff0_194 : FFz 0 194 0 5 := ⟨tb5 172 rfl rfl, by decide, rfl, rfl⟩
set_option maxRecDepth 20000 in
theorem zff0_198 : FFz 0 198 0 2 := ⟨tb5 169 rfl rfl, by decide, rfl, rfl⟩
set_option maxRecDepth 20000 in
theorem zff0_220 : FFz 0 220 0 16 := ⟨tb5 183 rfl rfl, by decide, rfl, rfl⟩
set_option maxRecDepth 20000 in
theorem zff0_226 : FFz 0 226 0 18 := ⟨tb5 185 rfl rfl, by decide, rfl, rfl⟩
set_option maxRecDepth 20000 in
theorem zff0_232 : FFz 0 232 0 17 := ⟨tb5 184 rfl rfl, by decide, rfl, rfl⟩
set_option maxRecDepth 20000 in
theorem zff0_246 : FFz 0 246 0 32 := ⟨tb5 199 rfl rfl, by decide, rfl, rfl⟩
set_option maxRecDepth 20000 in
theorem zff0_268 : FFz 0 268 0 40 := ⟨tb5 207 rfl rfl, by decide, rfl, rfl⟩
set_option maxRecDepth 20000 in
theorem zff0_287 : FFz 0 287 0 51 := ⟨tb5 218 rfl rfl, by decide, rfl, rfl⟩
set_option maxRecDepth 20000 in
theorem zff0_290 : FFz 0 290 0 52 := ⟨tb5 219 rfl rfl, by decide, rfl, rfl⟩
set_option maxRecDepth 20000 in
theorem zff0_293 : FFz 0 293 0 53 := ⟨tb5 220 rfl rfl, by decide, rfl, rfl⟩
set_option maxRecDepth 20000 in
theorem zff0_303 : FFz 0 303 0 50 := ⟨tb5 217 rfl rfl, by decide, rfl, rfl⟩
set_option maxRecDepth 20000 in
theorem zff0_313 : FFz 0 313 0 57 := ⟨tb5 224 rfl rfl, by decide, rfl, rfl⟩
set_option maxRecDepth 20000 in
theorem zff0_322 : FFz 0 322 0 58 := ⟨tb5 225 rfl rfl, by decide, rfl, rfl⟩
set_option maxRecDepth 20000 in
theorem zff0_347 : FFz 0 347 0 71 := ⟨tb5 238 rfl rfl, by decide, rfl, rfl⟩
set_option maxRecDepth 20000 in
theorem zff0_350 : FFz 0 350 0 72 := ⟨tb5 239 rfl rfl, by decide, rfl, rfl⟩
set_option maxRecDepth 20000 in
theorem zff0_353 : FFz 0 353 0 73 := ⟨tb6 0 rfl rfl, by decide, rfl, rfl⟩
set_option maxRecDepth 20000 in
theorem zff0_356 : FFz 0 356 0 74 := ⟨tb6 1 rfl rfl, by decide, rfl, rfl⟩
set_option maxRecDepth 20000 in
theorem zff0_359 : FFz 0 359 0 75 := ⟨tb6 2 rfl rfl, by decide, rfl, rfl⟩
set_option maxRecDepth 20000 in
theorem zffC0 : ∀ q ∈ pft.getD 0 [], FFz 0 q.1 q.2.1 q.2.2 := by
  show ∀ q ∈ ([(7, (0, 0)), (13, (0, 3)), (17, (0, 6)), (20, (0, 7)), (23, (0, 8)), (26, (0, 9)), (29, (0, 10)), (32, (0, 11)), (35, (0, 12)), (38, (0, 13)), (41, (0, 14)), (44, (0, 15)), (47, (0, 19)), (50, (0, 20)), (53, (0, 21)), (56, (0, 22)), (59, (0, 23)), (62, (0, 24)), (65, (0, 25)), (68, (0, 26)), (71, (0, 27)), (74, (0, 28)), (77, (0, 29)), (80, (0, 30)), (83, (0, 31)), (86, (0, 33)), (89, (0, 34)), (92, (0, 35)), (95, (0, 36)), (98, (0, 37)), (101, (0, 38)), (104, (0, 39)), (107, (0, 41)), (110, (0, 42)), (113, (0, 43)), (116, (0, 44)), (119, (0, 45)), (122, (0, 46)), (125, (0, 47)), (128, (0, 48)), (131, (0, 49)), (134, (0, 54)), (137, (0, 55)), (140, (0, 56)), (143, (0, 59)), (146, (0, 60)), (149, (0, 61)), (152, (0, 62)), (155, (0, 63)), (158, (0, 64)), (162, (0, 65)), (165, (0, 66)), (168, (0, 67)), (171, (0, 68)), (174, (0, 69)), (177, (0, 70)), (180, (0, 4)), (191, (0, 1)), (194, (0, 5)), (198, (0, 2)), (220, (0, 16)), (226, (0, 18)), (232, (0, 17)), (246, (0, 32)), (268, (0, 40)), (287, (0, 51)), (290, (0, 52)), (293, (0, 53)), (303, (0, 50)), (313, (0, 57)), (322, (0, 58)), (347, (0, 71)), (350, (0, 72)), (353, (0, 73)), (356, (0, 74)), (359, (0, 75))] : List (Nat × (Nat × Nat))), FFz 0 q.1 q.2.1 q.2.2
  exact List.forall_mem_cons.mpr ⟨zff0_7, List.forall_mem_cons.mpr ⟨zff0_13, List.forall_mem_cons.mpr ⟨zff0_17, List.forall_mem_cons.mpr ⟨zff0_20, List.forall_mem_cons.mpr ⟨zff0_23, List.forall_mem_cons.mpr ⟨zff0_26, List.forall_mem_cons.mpr ⟨zff0_29, List.forall_mem_cons.mpr ⟨zff0_32, List.forall_mem_cons.mpr ⟨zff0_35, List.forall_mem_cons.mpr ⟨zff0_38, List.forall_mem_cons.mpr ⟨zff0_41, List.forall_mem_cons.mpr ⟨zff0_44, List.forall_mem_cons.mpr ⟨zff0_47, List.forall_mem_cons.mpr ⟨zff0_50, List.forall_mem_cons.mpr ⟨zff0_53, List.forall_mem_cons.mpr ⟨zff0_56, List.forall_mem_cons.mpr ⟨zff0_59, List.forall_mem_cons.mpr ⟨zff0_62, List.forall_mem_cons.mpr ⟨zff0_65, List.forall_mem_cons.mpr ⟨zff0_68, List.forall_mem_cons.mpr ⟨zff0_71, List.forall_mem_cons.mpr ⟨zff0_74, List.forall_mem_cons.mpr ⟨zff0_77, List.forall_mem_cons.mpr ⟨zff0_80, List.forall_mem_cons.mpr ⟨zff0_83, List.forall_mem_cons.mpr ⟨zff0_86, List.forall_mem_cons.mpr ⟨zff0_89, List.forall_mem_cons.mpr ⟨zff0_92, List.forall_mem_cons.mpr ⟨zff0_95, List.forall_mem_cons.mpr ⟨zff0_98, List.forall_mem_cons.mpr ⟨zff0_101, List.forall_mem_cons.mpr ⟨zff0_104, List.forall_mem_cons.mpr ⟨zff0_107, List.forall_mem_cons.mpr ⟨zff0_110, List.forall_mem_cons.mpr ⟨zff0_113, List.forall_mem_cons.mpr ⟨zff0_116, List.forall_mem_cons.mpr ⟨zff0_119, List.forall_mem_cons.mpr ⟨zff0_122, List.forall_mem_cons.mpr ⟨zff0_125, List.forall_mem_cons.mpr ⟨zff0_128, List.forall_mem_cons.mpr ⟨zff0_131, List.forall_mem_cons.mpr ⟨zff0_134, List.forall_mem_cons.mpr ⟨zff0_137, List.forall_mem_cons.mpr ⟨zff0_140, List.forall_mem_cons.mpr ⟨zff0_143, List.forall_mem_cons.mpr ⟨zff0_146, List.forall_mem_cons.mpr ⟨zff0_149, List.forall_mem_cons.mpr ⟨zff0_152, List.forall_mem_cons.mpr ⟨zff0_155, List.forall_mem_cons.mpr ⟨zff0_158, List.forall_mem_cons.mpr ⟨zff0_162, List.forall_mem_cons.mpr ⟨zff0_165, List.forall_mem_cons.mpr ⟨zff0_168, List.forall_mem_cons.mpr ⟨zff0_171, List.forall_mem_cons.mpr ⟨zff0_174, List.forall_mem_cons.mpr ⟨zff0_177, List.forall_mem_cons.mpr ⟨zff0_180, List.forall_mem_cons.mpr ⟨zff0_191, List.forall_mem_cons.mpr ⟨zff0_194, List.forall_mem_cons.mpr ⟨zff0_198, List.forall_mem_cons.mpr ⟨zff0_220, List.forall_mem_cons.mpr ⟨zff0_226, List.forall_mem_cons.mpr ⟨zff0_232, List.forall_mem_cons.mpr ⟨zff0_246, List.forall_mem_cons.mpr ⟨zff0_268, List.forall_mem_cons.mpr ⟨zff0_287, List.forall_mem_cons.mpr ⟨zff0_290, List.forall_mem_cons.mpr ⟨zff0_293, List.forall_mem_cons.mpr ⟨zff0_303, List.forall_mem_cons.mpr ⟨zff0_313, List.forall_mem_cons.mpr ⟨zff0_322, List.forall_mem_cons.mpr ⟨zff0_347, List.forall_mem_cons.mpr ⟨zff0_350, List.forall_mem_cons.mpr ⟨zff0_353, List.forall_mem_cons.mpr ⟨zff0_356, List.forall_mem_cons.mpr ⟨zff0_359, fun _ h => absurd h List.not_mem_nil⟩⟩⟩⟩⟩⟩⟩⟩⟩⟩⟩⟩⟩⟩⟩⟩⟩⟩⟩⟩⟩⟩⟩⟩⟩⟩⟩⟩⟩⟩⟩⟩⟩⟩⟩⟩⟩⟩⟩⟩⟩⟩⟩⟩⟩⟩⟩⟩⟩⟩⟩⟩⟩⟩⟩⟩⟩⟩⟩⟩⟩⟩⟩⟩⟩⟩⟩⟩⟩⟩⟩⟩⟩⟩⟩⟩
set_option maxRecDepth 20000 in
theorem zff1_9 : FFz 1 9 1 0 := ⟨tb2 207 rfl rfl, by decide, rfl, rfl⟩
set_option maxRecDepth 20000 in
theorem zff1_13 : FFz 1 13 1 1 := ⟨tb2 208 rfl rfl, by decide, rfl, rfl⟩
set_option maxRecDepth 20000 in
theorem zff1_17 : FFz 1 17 1 2 := ⟨tb2 209 rfl rfl, by decide, rfl, rfl⟩
set_option maxRecDepth 20000 in
theorem zff1_20 : FFz 1 20 1 3 := ⟨tb2 210 rfl rfl, by decide, rfl, rfl⟩
set_option maxRecDepth 20000 in
theorem zff1_27 : FFz 1 27 1 4 := ⟨tb2 211 rfl rfl, by decide, rfl, rfl⟩
set_option maxRecDepth 20000 in
theorem zff1_31 : FFz 1 31 1 5 := ⟨tb2 212 rfl rfl, by decide, rfl, rfl⟩
set_option maxRecDepth 20000 in
theorem zff1_37 : FFz 1 37 1 6 := ⟨tb2 213 rfl rfl, by decide, rfl, rfl⟩
set_option maxRecDepth 20000 in
theorem zff1_57 : FFz 1 57 1 7 := ⟨tb2 214 rfl rfl, by decide, rfl, rfl⟩
set_option maxRecDepth 20000 in
theorem zff1_66 : FFz 1 66 1 8 := ⟨tb2 215 rfl rfl, by decide, rfl, rfl⟩
set_option maxRecDepth 20000 in
theorem zff1_75 : FFz 1 75 1 9 := ⟨tb2 216 rfl rfl, by decide, rfl, rfl⟩
set_option maxRecDepth 20000 in
theorem zff1_82 : FFz 1 82 1 10 := ⟨tb2 217 rfl rfl, by decide, rfl, rfl⟩
set_option maxRecDepth 20000 in
theorem zff1_106 : FFz 1 106 3 1 := ⟨tb1 145 rfl rfl, by decide, rfl, rfl⟩
set_option maxRecDepth 20000 in
theorem zff1_154 : FFz 1 154 3 0 := ⟨tb1 138 rfl rfl, by decide, rfl, rfl⟩
set_option maxRecDepth 20000 in
theorem zff1_158 : FFz 1 158 8 6 := ⟨tb1 69 rfl rfl, by decide, rfl, rfl⟩
set_option maxRecDepth 20000 in
theorem zff1_174 : FFz 1 174 8 0 := ⟨tb1 49 rfl rfl, by decide, rfl, rfl⟩
set_option maxRecDepth 20000 in
theorem zff1_178 : FFz 1 178 8 2 := ⟨tb1 54 rfl rfl, by decide, rfl, rfl⟩
set_option maxRecDepth 20000 in
theorem zff1_181 : FFz 1 181 8 4 := ⟨tb1 59 rfl rfl, by decide, rfl, rfl⟩
set_option maxRecDepth 20000 in
theorem zff1_185 : FFz 1 185 8 1 := ⟨tb1 51 rfl rfl, by decide, rfl, rfl⟩
set_option maxRecDepth 20000 in
theorem zff1_188 : FFz 1 188 3 8 := ⟨tb1 156 rfl rfl, by decide, rfl, rfl⟩
set_option maxRecDepth 20000 in
theorem zff1_200 : FFz 1 200 3 11 := ⟨tb1 161 rfl rfl, by decide, rfl, rfl⟩
set_option maxRecDepth 20000 in
theorem zff1_210 : FFz 1 210 3 15 := ⟨tb1 167 rfl rfl, by decide, rfl, rfl⟩
set_option maxRecDepth 20000 in
theorem zff1_213 : FFz 1 213 3 12 := ⟨tb1 163 rfl rfl, by decide, rfl, rfl⟩
set_option maxRecDepth 20000 in
theorem zff1_225 : FFz 1 225 3 2 := ⟨tb1 147 rfl rfl, by decide, rfl, rfl⟩
set_option maxRecDepth 20000 in
theorem zffC1 : ∀ q ∈ pft.getD 1 [], FFz 1 q.1 q.2.1 q.2.2 := by
  show ∀ q ∈ ([(9, (1, 0)), (13, (1, 1)), (17, (1, 2)), (20, (1, 3)), (27, (1, 4)), (31, (1, 5)), (37, (1, 6)), (57, (1, 7)), (66, (1, 8)), (75, (1, 9)), (82, (1, 10)), (106, (3, 1)), (154, (3, 0)), (158, (8, 6)), (174, (8, 0)), (178, (8, 2)), (181, (8, 4)), (185, (8, 1)), (188, (3, 8)), (200, (3, 11)), (210, (3, 15)), (213, (3, 12)), (225, (3, 2))] : List (Nat × (Nat × Nat))), FFz 1 q.1 q.2.1 q.2.2
  exact List.forall_mem_cons.mpr ⟨zff1_9, List.forall_mem_cons.mpr ⟨zff1_13, List.forall_mem_cons.mpr ⟨zff1_17, List.forall_mem_cons.mpr ⟨zff1_20, List.forall_mem_cons.mpr ⟨zff1_27, List.forall_mem_cons.mpr ⟨zff1_31, List.forall_mem_cons.mpr ⟨zff1_37, List.forall_mem_cons.mpr ⟨zff1_57, List.forall_mem_cons.mpr ⟨zff1_66, List.forall_mem_cons.mpr ⟨zff1_75, List.forall_mem_cons.mpr ⟨zff1_82, List.forall_mem_cons.mpr ⟨zff1_106, List.forall_mem_cons.mpr ⟨zff1_154, List.forall_mem_cons.mpr ⟨zff1_158, List.forall_mem_cons.mpr ⟨zff1_174, List.forall_mem_cons.mpr ⟨zff1_178, List.forall_mem_cons.mpr ⟨zff1_181, List.forall_mem_cons.mpr ⟨zff1_185, List.forall_mem_cons.mpr ⟨zff1_188, List.forall_mem_cons.mpr ⟨zff1_200, List.forall_mem_cons.mpr ⟨zff1_210, List.forall_mem_cons.mpr ⟨zff1_213, List.forall_mem_cons.mpr ⟨zff1_225, fun _ h => absurd h List.not_mem_nil⟩⟩⟩⟩⟩⟩⟩⟩⟩⟩⟩⟩⟩⟩⟩⟩⟩⟩⟩⟩⟩⟩⟩
set_option maxRecDepth 20000 in
theorem zff2_9 : FFz 2 9 2 3 := ⟨tb2 133 rfl rfl, by decide, rfl, rfl⟩
set_option maxRecDepth 20000 in
theorem zff2_15 : FFz 2 15 2 4 := ⟨tb2 134 rfl rfl, by decide, rfl, rfl⟩
set_option maxRecDepth 20000 in
theorem zff2_18 : FFz 2 18 2 0 := ⟨tb2 130 rfl rfl, by decide, rfl, rfl⟩
set_option maxRecDepth 20000 in
theorem zff2_22 : FFz 2 22 2 1 := ⟨tb2 131 rfl rfl, by decide, rfl, rfl⟩
set_option maxRecDepth 20000 in
theorem zff2_26 : FFz 2 26 2 2 := ⟨tb2 132 rfl rfl, by decide, rfl, rfl⟩
set_option maxRecDepth 20000 in
theorem zff2_30 : FFz 2 30 3 0 := ⟨tb1 136 rfl rfl, by decide, rfl, rfl⟩
set_option maxRecDepth 20000 in
theorem zff2_36 : FFz 2 36 2 5 := ⟨tb2 135 rfl rfl, by decide, rfl, rfl⟩
set_option maxRecDepth 20000 in
theorem zff2_37 : FFz 2 37 3 1 := ⟨tb1 143 rfl rfl, by decide, rfl, rfl⟩
set_option maxRecDepth 20000 in
theorem zff2_41 : FFz 2 41 2 6 := ⟨tb2 136 rfl rfl, by decide, rfl, rfl⟩
set_option maxRecDepth 20000 in
theorem zff2_42 : FFz 2 42 8 6 := ⟨tb1 66 rfl rfl, by decide, rfl, rfl⟩
set_option maxRecDepth 20000 in
theorem zff2_48 : FFz 2 48 3 2 := ⟨tb1 146 rfl rfl, by decide, rfl, rfl⟩
set_option maxRecDepth 20000 in
theorem zff2_57 : FFz 2 57 10 4 := ⟨tb2 59 rfl rfl, by decide, rfl, rfl⟩
set_option maxRecDepth 20000 in
theorem zff2_64 : FFz 2 64 10 1 := ⟨tb2 46 rfl rfl, by decide, rfl, rfl⟩
set_option maxRecDepth 20000 in
theorem zff2_67 : FFz 2 67 10 0 := ⟨tb2 43 rfl rfl, by decide, rfl, rfl⟩
set_option maxRecDepth 20000 in
theorem zff2_80 : FFz 2 80 10 2 := ⟨tb2 51 rfl rfl, by decide, rfl, rfl⟩
set_option maxRecDepth 20000 in
theorem zff2_83 : FFz 2 83 10 3 := ⟨tb2 56 rfl rfl, by decide, rfl, rfl⟩
set_option maxRecDepth 20000 in
theorem zff2_99 : FFz 2 99 12 3 := ⟨tb1 237 rfl rfl, by decide, rfl, rfl⟩
set_option maxRecDepth 20000 in
theorem zff2_119 : FFz 2 119 12 4 := ⟨tb1 239 rfl rfl, by decide, rfl, rfl⟩
set_option maxRecDepth 20000 in
theorem zff2_120 : FFz 2 120 12 0 := ⟨tb1 230 rfl rfl, by decide, rfl, rfl⟩
set_option maxRecDepth 20000 in
theorem zff2_123 : FFz 2 123 12 2 := ⟨tb1 234 rfl rfl, by decide, rfl, rfl⟩
set_option maxRecDepth 20000 in
theorem zff2_126 : FFz 2 126 12 1 := ⟨tb1 232 rfl rfl, by decide, rfl, rfl⟩
set_option maxRecDepth 20000 in
theorem zff2_132 : FFz 2 132 12 10 := ⟨tb2 11 rfl rfl, by decide, rfl, rfl⟩
set_option maxRecDepth 20000 in
theorem zff2_135 : FFz 2 135 12 7 := ⟨tb2 4 rfl rfl, by decide, rfl, rfl⟩
set_option maxRecDepth 20000 in
theorem zff2_138 : FFz 2 138 12 6 := ⟨tb2 2 rfl rfl, by decide, rfl, rfl⟩
set_option maxRecDepth 20000 in
theorem zff2_142 : FFz 2 142 12 9 := ⟨tb2 8 rfl rfl, by decide, rfl, rfl⟩
set_option maxRecDepth 20000 in
theorem zff2_145 : FFz 2 145 6 4 := ⟨tb1 111 rfl rfl, by decide, rfl, rfl⟩
set_option maxRecDepth 20000 in
theorem zff2_150 : FFz 2 150 6 0 := ⟨tb1 97 rfl rfl, by decide, rfl, rfl⟩
set_option maxRecDepth 20000 in
theorem zff2_159 : FFz 2 159 6 2 := ⟨tb1 105 rfl rfl, by decide, rfl, rfl⟩
set_option maxRecDepth 20000 in
theorem zff2_165 : FFz 2 165 8 4 := ⟨tb1 61 rfl rfl, by decide, rfl, rfl⟩
set_option maxRecDepth 20000 in
theorem zff2_172 : FFz 2 172 6 3 := ⟨tb1 109 rfl rfl, by decide, rfl, rfl⟩
set_option maxRecDepth 20000 in
theorem zff2_173 : FFz 2 173 6 1 := ⟨tb1 101 rfl rfl, by decide, rfl, rfl⟩
set_option maxRecDepth 20000 in
theorem zff2_174 : FFz 2 174 10 5 := ⟨tb2 62 rfl rfl, by decide, rfl, rfl⟩
set_option maxRecDepth 20000 in
theorem zff2_184 : FFz 2 184 12 8 := ⟨tb2 6 rfl rfl, by decide, rfl, rfl⟩
set_option maxRecDepth 20000 in
theorem zffC2 : ∀ q ∈ pft.getD 2 [], FFz 2 q.1 q.2.1 q.2.2 := by
  show ∀ q ∈ ([(9, (2, 3)), (15, (2, 4)), (18, (2, 0)), (22, (2, 1)), (26, (2, 2)), (30, (3, 0)), (36, (2, 5)), (37, (3, 1)), (41, (2, 6)), (42, (8, 6)), (48, (3, 2)), (57, (10, 4)), (64, (10, 1)), (67, (10, 0)), (80, (10, 2)), (83, (10, 3)), (99, (12, 3)), (119, (12, 4)), (120, (12, 0)), (123, (12, 2)), (126, (12, 1)), (132, (12, 10)), (135, (12, 7)), (138, (12, 6)), (142, (12, 9)), (145, (6, 4)), (150, (6, 0)), (159, (6, 2)), (165, (8, 4)), (172, (6, 3)), (173, (6, 1)), (174, (10, 5)), (184, (12, 8))] : List (Nat × (Nat × Nat))), FFz 2 q.1 q.2.1 q.2.2
  exact List.forall_mem_cons.mpr ⟨zff2_9, List.forall_mem_cons.mpr ⟨zff2_15, List.forall_mem_cons.mpr ⟨zff2_18, List.forall_mem_cons.mpr ⟨zff2_22, List.forall_mem_cons.mpr ⟨zff2_26, List.forall_mem_cons.mpr ⟨zff2_30, List.forall_mem_cons.mpr ⟨zff2_36, List.forall_mem_cons.mpr ⟨zff2_37, List.forall_mem_cons.mpr ⟨zff2_41, List.forall_mem_cons.mpr ⟨zff2_42, List.forall_mem_cons.mpr ⟨zff2_48, List.forall_mem_cons.mpr ⟨zff2_57, List.forall_mem_cons.mpr ⟨zff2_64, List.forall_mem_cons.mpr ⟨zff2_67, List.forall_mem_cons.mpr ⟨zff2_80, List.forall_mem_cons.mpr ⟨zff2_83, List.forall_mem_cons.mpr ⟨zff2_99, List.forall_mem_cons.mpr ⟨zff2_119, List.forall_mem_cons.mpr ⟨zff2_120, List.forall_mem_cons.mpr ⟨zff2_123, List.forall_mem_cons.mpr ⟨zff2_126, List.forall_mem_cons.mpr ⟨zff2_132, List.forall_mem_cons.mpr ⟨zff2_135, List.forall_mem_cons.mpr ⟨zff2_138, List.forall_mem_cons.mpr ⟨zff2_142, List.forall_mem_cons.mpr ⟨zff2_145, List.forall_mem_cons.mpr ⟨zff2_150, List.forall_mem_cons.mpr ⟨zff2_159, List.forall_mem_cons.mpr ⟨zff2_165, List.forall_mem_cons.mpr ⟨zff2_172, List.forall_mem_cons.mpr ⟨zff2_173, List.forall_mem_cons.mpr ⟨zff2_174, List.forall_mem_cons.mpr ⟨zff2_184, fun _ h => absurd h List.not_mem_nil⟩⟩⟩⟩⟩⟩⟩⟩⟩⟩⟩⟩⟩⟩⟩⟩⟩⟩⟩⟩⟩⟩⟩⟩⟩⟩⟩⟩⟩⟩⟩⟩⟩
set_option maxRecDepth 20000 in
theorem zff3_12 : FFz 3 12 3 0 := ⟨tb1 134 rfl rfl, by decide, rfl, rfl⟩
set_option maxRecDepth 20000 in
theorem zff3_21 : FFz 3 21 3 1 := ⟨tb1 140 rfl rfl, by decide, rfl, rfl⟩
set_option maxRecDepth 20000 in
theorem zff3_25 : FFz 3 25 3 3 := ⟨tb1 148 rfl rfl, by decide, rfl, rfl⟩
set_option maxRecDepth 20000 in
theorem zff3_29 : FFz 3 29 3 4 := ⟨tb1 149 rfl rfl, by decide, rfl, rfl⟩
set_option maxRecDepth 20000 in
theorem zff3_32 : FFz 3 32 3 5 := ⟨tb1 150 rfl rfl, by decide, rfl, rfl⟩
set_option maxRecDepth 20000 in
theorem zff3_35 : FFz 3 35 3 7 := ⟨tb1 153 rfl rfl, by decide, rfl, rfl⟩
set_option maxRecDepth 20000 in
theorem zff3_38 : FFz 3 38 3 8 := ⟨tb1 155 rfl rfl, by decide, rfl, rfl⟩
set_option maxRecDepth 20000 in
theorem zff3_41 : FFz 3 41 3 9 := ⟨tb1 158 rfl rfl, by decide, rfl, rfl⟩
set_option maxRecDepth 20000 in
theorem zff3_44 : FFz 3 44 3 11 := ⟨tb1 160 rfl rfl, by decide, rfl, rfl⟩
set_option maxRecDepth 20000 in
theorem zff3_47 : FFz 3 47 3 12 := ⟨tb1 162 rfl rfl, by decide, rfl, rfl⟩
set_option maxRecDepth 20000 in
theorem zff3_50 : FFz 3 50 3 13 := ⟨tb1 164 rfl rfl, by decide, rfl, rfl⟩
set_option maxRecDepth 20000 in
theorem zff3_53 : FFz 3 53 3 14 := ⟨tb1 165 rfl rfl, by decide, rfl, rfl⟩
set_option maxRecDepth 20000 in
theorem zff3_56 : FFz 3 56 8 6 := ⟨tb1 65 rfl rfl, by decide, rfl, rfl⟩
set_option maxRecDepth 20000 in
theorem zff3_60 : FFz 3 60 3 6 := ⟨tb1 151 rfl rfl, by decide, rfl, rfl⟩
set_option maxRecDepth 20000 in
theorem zff3_63 : FFz 3 63 3 15 := ⟨tb1 166 rfl rfl, by decide, rfl, rfl⟩
set_option maxRecDepth 20000 in
theorem zff3_82 : FFz 3 82 8 0 := ⟨tb1 48 rfl rfl, by decide, rfl, rfl⟩
set_option maxRecDepth 20000 in
theorem zff3_85 : FFz 3 85 3 10 := ⟨tb1 159 rfl rfl, by decide, rfl, rfl⟩
set_option maxRecDepth 20000 in
theorem zff3_96 : FFz 3 96 8 2 := ⟨tb1 55 rfl rfl, by decide, rfl, rfl⟩
set_option maxRecDepth 20000 in
theorem zffC3 : ∀ q ∈ pft.getD 3 [], FFz 3 q.1 q.2.1 q.2.2 := by
  show ∀ q ∈ ([(12, (3, 0)), (21, (3, 1)), (25, (3, 3)), (29, (3, 4)), (32, (3, 5)), (35, (3, 7)), (38, (3, 8)), (41, (3, 9)), (44, (3, 11)), (47, (3, 12)), (50, (3, 13)), (53, (3, 14)), (56, (8, 6)), (60, (3, 6)), (63, (3, 15)), (82, (8, 0)), (85, (3, 10)), (96, (8, 2))] : List (Nat × (Nat × Nat))), FFz 3 q.1 q.2.1 q.2.2
  exact List.forall_mem_cons.mpr ⟨zff3_12, List.forall_mem_cons.mpr ⟨zff3_21, List.forall_mem_cons.mpr ⟨zff3_25, List.forall_mem_cons.mpr ⟨zff3_29, List.forall_mem_cons.mpr ⟨zff3_32, List.forall_mem_cons.mpr ⟨zff3_35, List.forall_mem_cons.mpr ⟨zff3_38, List.forall_mem_cons.mpr ⟨zff3_41, List.forall_mem_cons.mpr ⟨zff3_44, List.forall_mem_cons.mpr ⟨zff3_47, List.forall_mem_cons.mpr ⟨zff3_50, List.forall_mem_cons.mpr ⟨zff3_53, List.forall_mem_cons.mpr ⟨zff3_56, List.forall_mem_cons.mpr ⟨zff3_60, List.forall_mem_cons.mpr ⟨zff3_63, List.forall_mem_cons.mpr ⟨zff3_82, List.forall_mem_cons.mpr ⟨zff3_85, List.forall_mem_cons.mpr ⟨zff3_96, fun _ h => absurd h List.not_mem_nil⟩⟩⟩⟩⟩⟩⟩⟩⟩⟩⟩⟩⟩⟩⟩⟩⟩⟩
set_option maxRecDepth 20000 in
theorem zff4_9 : FFz 4 9 4 0 := ⟨tb2 86 rfl rfl, by decide, rfl, rfl⟩
set_option maxRecDepth 20000 in
theorem zff4_15 : FFz 4 15 4 1 := ⟨tb2 87 rfl rfl, by decide, rfl, rfl⟩
set_option maxRecDepth 20000 in
theorem zff4_19 : FFz 4 19 12 3 := ⟨tb1 236 rfl rfl, by decide, rfl, rfl⟩
set_option maxRecDepth 20000 in
theorem zff4_25 : FFz 4 25 3 1 := ⟨tb1 142 rfl rfl, by decide, rfl, rfl⟩
set_option maxRecDepth 20000 in
theorem zff4_31 : FFz 4 31 6 2 := ⟨tb1 103 rfl rfl, by decide, rfl, rfl⟩
set_option maxRecDepth 20000 in
theorem zff4_36 : FFz 4 36 10 2 := ⟨tb2 48 rfl rfl, by decide, rfl, rfl⟩
set_option maxRecDepth 20000 in
theorem zff4_45 : FFz 4 45 10 3 := ⟨tb2 54 rfl rfl, by decide, rfl, rfl⟩
set_option maxRecDepth 20000 in
theorem zff4_48 : FFz 4 48 6 1 := ⟨tb1 99 rfl rfl, by decide, rfl, rfl⟩
set_option maxRecDepth 20000 in
theorem zff4_49 : FFz 4 49 6 0 := ⟨tb1 96 rfl rfl, by decide, rfl, rfl⟩
set_option maxRecDepth 20000 in
theorem zff4_52 : FFz 4 52 6 3 := ⟨tb1 108 rfl rfl, by decide, rfl, rfl⟩
set_option maxRecDepth 20000 in
theorem zff4_53 : FFz 4 53 3 0 := ⟨tb1 139 rfl rfl, by decide, rfl, rfl⟩
set_option maxRecDepth 20000 in
theorem zff4_57 : FFz 4 57 8 3 := ⟨tb1 57 rfl rfl, by decide, rfl, rfl⟩
set_option maxRecDepth 20000 in
theorem zffC4 : ∀ q ∈ pft.getD 4 [], FFz 4 q.1 q.2.1 q.2.2 := by
  show ∀ q ∈ ([(9, (4, 0)), (15, (4, 1)), (19, (12, 3)), (25, (3, 1)), (31, (6, 2)), (36, (10, 2)), (45, (10, 3)), (48, (6, 1)), (49, (6, 0)), (52, (6, 3)), (53, (3, 0)), (57, (8, 3))] : List (Nat × (Nat × Nat))), FFz 4 q.1 q.2.1 q.2.2
  exact List.forall_mem_cons.mpr ⟨zff4_9, List.forall_mem_cons.mpr ⟨zff4_15, List.forall_mem_cons.mpr ⟨zff4_19, List.forall_mem_cons.mpr ⟨zff4_25, List.forall_mem_cons.mpr ⟨zff4_31, List.forall_mem_cons.mpr ⟨zff4_36, List.forall_mem_cons.mpr ⟨zff4_45, List.forall_mem_cons.mpr ⟨zff4_48, List.forall_mem_cons.mpr ⟨zff4_49, List.forall_mem_cons.mpr ⟨zff4_52, List.forall_mem_cons.mpr ⟨zff4_53, List.forall_mem_cons.mpr ⟨zff4_57, fun _ h => absurd h List.not_mem_nil⟩⟩⟩⟩⟩⟩⟩⟩⟩⟩⟩⟩
set_option maxRecDepth 20000 in
theorem zff5_9 : FFz 5 9 5 2 := ⟨tb2 175 rfl rfl, by decide, rfl, rfl⟩
set_option maxRecDepth 20000 in
theorem zff5_15 : FFz 5 15 5 3 := ⟨tb2 176 rfl rfl, by decide, rfl, rfl⟩
set_option maxRecDepth 20000 in
theorem zff5_20 : FFz 5 20 5 4 := ⟨tb2 177 rfl rfl, by decide, rfl, rfl⟩
set_option maxRecDepth 20000 in
theorem zff5_23 : FFz 5 23 5 5 := ⟨tb2 178 rfl rfl, by decide, rfl, rfl⟩
set_option maxRecDepth 20000 in
theorem zff5_26 : FFz 5 26 5 6 := ⟨tb2 179 rfl rfl, by decide, rfl, rfl⟩
set_option maxRecDepth 20000 in
theorem zff5_29 : FFz 5 29 5 7 := ⟨tb2 180 rfl rfl, by decide, rfl, rfl⟩
set_option maxRecDepth 20000 in
theorem zff5_32 : FFz 5 32 5 8 := ⟨tb2 181 rfl rfl, by decide, rfl, rfl⟩
set_option maxRecDepth 20000 in
theorem zff5_35 : FFz 5 35 5 0 := ⟨tb2 173 rfl rfl, by decide, rfl, rfl⟩
set_option maxRecDepth 20000 in
theorem zff5_39 : FFz 5 39 5 1 := ⟨tb2 174 rfl rfl, by decide, rfl, rfl⟩
set_option maxRecDepth 20000 in
theorem zff5_43 : FFz 5 43 3 1 := ⟨tb1 141 rfl rfl, by decide, rfl, rfl⟩
set_option maxRecDepth 20000 in
theorem zff5_57 : FFz 5 57 10 4 := ⟨tb2 58 rfl rfl, by decide, rfl, rfl⟩
set_option maxRecDepth 20000 in
theorem zff5_63 : FFz 5 63 10 0 := ⟨tb2 42 rfl rfl, by decide, rfl, rfl⟩
set_option maxRecDepth 20000 in
theorem zff5_70 : FFz 5 70 3 7 := ⟨tb1 154 rfl rfl, by decide, rfl, rfl⟩
set_option maxRecDepth 20000 in
theorem zff5_73 : FFz 5 73 10 2 := ⟨tb2 49 rfl rfl, by decide, rfl, rfl⟩
set_option maxRecDepth 20000 in
theorem zff5_76 : FFz 5 76 10 3 := ⟨tb2 53 rfl rfl, by decide, rfl, rfl⟩
set_option maxRecDepth 20000 in
theorem zff5_93 : FFz 5 93 6 7 := ⟨tb1 116 rfl rfl, by decide, rfl, rfl⟩
set_option maxRecDepth 20000 in
theorem zff5_96 : FFz 5 96 6 0 := ⟨tb1 95 rfl rfl, by decide, rfl, rfl⟩
set_option maxRecDepth 20000 in
theorem zff5_103 : FFz 5 103 6 1 := ⟨tb1 100 rfl rfl, by decide, rfl, rfl⟩
set_option maxRecDepth 20000 in
theorem zff5_104 : FFz 5 104 6 2 := ⟨tb1 104 rfl rfl, by decide, rfl, rfl⟩
set_option maxRecDepth 20000 in
theorem zff5_107 : FFz 5 107 6 3 := ⟨tb1 107 rfl rfl, by decide, rfl, rfl⟩
set_option maxRecDepth 20000 in
theorem zff5_108 : FFz 5 108 5 9 := ⟨tb2 182 rfl rfl, by decide, rfl, rfl⟩
set_option maxRecDepth 20000 in
theorem zff5_111 : FFz 5 111 5 10 := ⟨tb2 183 rfl rfl, by decide, rfl, rfl⟩
set_option maxRecDepth 20000 in
theorem zff5_114 : FFz 5 114 3 6 := ⟨tb1 152 rfl rfl, by decide, rfl, rfl⟩
set_option maxRecDepth 20000 in
theorem zff5_117 : FFz 5 117 3 0 := ⟨tb1 137 rfl rfl, by decide, rfl, rfl⟩
set_option maxRecDepth 20000 in
theorem zff5_121 : FFz 5 121 8 6 := ⟨tb1 68 rfl rfl, by decide, rfl, rfl⟩
set_option maxRecDepth 20000 in
theorem zff5_124 : FFz 5 124 8 0 := ⟨tb1 47 rfl rfl, by decide, rfl, rfl⟩
set_option maxRecDepth 20000 in
theorem zff5_148 : FFz 5 148 8 4 := ⟨tb1 60 rfl rfl, by decide, rfl, rfl⟩
set_option maxRecDepth 20000 in
theorem zff5_152 : FFz 5 152 3 8 := ⟨tb1 157 rfl rfl, by decide, rfl, rfl⟩
set_option maxRecDepth 20000 in
theorem zffC5 : ∀ q ∈ pft.getD 5 [], FFz 5 q.1 q.2.1 q.2.2 := by
  show ∀ q ∈ ([(9, (5, 2)), (15, (5, 3)), (20, (5, 4)), (23, (5, 5)), (26, (5, 6)), (29, (5, 7)), (32, (5, 8)), (35, (5, 0)), (39, (5, 1)), (43, (3, 1)), (57, (10, 4)), (63, (10, 0)), (70, (3, 7)), (73, (10, 2)), (76, (10, 3)), (93, (6, 7)), (96, (6, 0)), (103, (6, 1)), (104, (6, 2)), (107, (6, 3)), (108, (5, 9)), (111, (5, 10)), (114, (3, 6)), (117, (3, 0)), (121, (8, 6)), (124, (8, 0)), (148, (8, 4)), (152, (3, 8))] : List (Nat × (Nat × Nat))), FFz 5 q.1 q.2.1 q.2.2
  exact List.forall_mem_cons.mpr ⟨zff5_9, List.forall_mem_cons.mpr ⟨zff5_15, List.forall_mem_cons.mpr ⟨zff5_20, List.forall_mem_cons.mpr ⟨zff5_23, List.forall_mem_cons.mpr ⟨zff5_26, List.forall_mem_cons.mpr ⟨zff5_29, List.forall_mem_cons.mpr ⟨zff5_32, List.forall_mem_cons.mpr ⟨zff5_35, List.forall_mem_cons.mpr ⟨zff5_39, List.forall_mem_cons.mpr ⟨zff5_43, List.forall_mem_cons.mpr ⟨zff5_57, List.forall_mem_cons.mpr ⟨zff5_63, List.forall_mem_cons.mpr ⟨zff5_70, List.forall_mem_cons.mpr ⟨zff5_73, List.forall_mem_cons.mpr ⟨zff5_76, List.forall_mem_cons.mpr ⟨zff5_93, List.forall_mem_cons.mpr ⟨zff5_96, List.forall_mem_cons.mpr ⟨zff5_103, List.forall_mem_cons.mpr ⟨zff5_104, List.forall_mem_cons.mpr ⟨zff5_107, List.forall_mem_cons.mpr ⟨zff5_108, List.forall_mem_cons.mpr ⟨zff5_111, List.forall_mem_cons.mpr ⟨zff5_114, List.forall_mem_cons.mpr ⟨zff5_117, List.forall_mem_cons.mpr ⟨zff5_121, List.forall_mem_cons.mpr ⟨zff5_124, List.forall_mem_cons.mpr ⟨zff5_148, List.forall_mem_cons.mpr ⟨zff5_152, fun _ h => absurd h List.not_mem_nil⟩⟩⟩⟩⟩⟩⟩⟩⟩⟩⟩⟩⟩⟩⟩⟩⟩⟩⟩⟩⟩⟩⟩⟩⟩⟩⟩⟩
set_option maxRecDepth 20000 in
theorem zff6_9 : FFz 6 9 6 0 := ⟨tb1 94 rfl rfl, by decide, rfl, rfl⟩
set_option maxRecDepth 20000 in
theorem zff6_15 : FFz 6 15 6 1 := ⟨tb1 98 rfl rfl, by decide, rfl, rfl⟩
set_option maxRecDepth 20000 in
theorem zff6_18 : FFz 6 18 6 2 := ⟨tb1 102 rfl rfl, by decide, rfl, rfl⟩
set_option maxRecDepth 20000 in
theorem zff6_21 : FFz 6 21 6 3 := ⟨tb1 106 rfl rfl, by decide, rfl, rfl⟩
set_option maxRecDepth 20000 in
theorem zff6_24 : FFz 6 24 6 4 := ⟨tb1 110 rfl rfl, by decide, rfl, rfl⟩
set_option maxRecDepth 20000 in
theorem zff6_27 : FFz 6 27 6 5 := ⟨tb1 112 rfl rfl, by decide, rfl, rfl⟩
set_option maxRecDepth 20000 in
theorem zff6_30 : FFz 6 30 6 6 := ⟨tb1 114 rfl rfl, by decide, rfl, rfl⟩
set_option maxRecDepth 20000 in
theorem zff6_33 : FFz 6 33 6 7 := ⟨tb1 115 rfl rfl, by decide, rfl, rfl⟩
set_option maxRecDepth 20000 in
theorem zffC6 : ∀ q ∈ pft.getD 6 [], FFz 6 q.1 q.2.1 q.2.2 := by
  show ∀ q ∈ ([(9, (6, 0)), (15, (6, 1)), (18, (6, 2)), (21, (6, 3)), (24, (6, 4)), (27, (6, 5)), (30, (6, 6)), (33, (6, 7))] : List (Nat × (Nat × Nat))), FFz 6 q.1 q.2.1 q.2.2
  exact List.forall_mem_cons.mpr ⟨zff6_9, List.forall_mem_cons.mpr ⟨zff6_15, List.forall_mem_cons.mpr ⟨zff6_18, List.forall_mem_cons.mpr ⟨zff6_21, List.forall_mem_cons.mpr ⟨zff6_24, List.forall_mem_cons.mpr ⟨zff6_27, List.forall_mem_cons.mpr ⟨zff6_30, List.forall_mem_cons.mpr ⟨zff6_33, fun _ h => absurd h List.not_mem_nil⟩⟩⟩⟩⟩⟩⟩⟩
set_option maxRecDepth 20000 in
theorem zff7_9 : FFz 7 9 7 7 := ⟨tb2 106 rfl rfl, by decide, rfl, rfl⟩
set_option maxRecDepth 20000 in
theorem zff7_15 : FFz 7 15 7 0 := ⟨tb2 99 rfl rfl, by decide, rfl, rfl⟩
set_option maxRecDepth 20000 in
theorem zff7_19 : FFz 7 19 7 1 := ⟨tb2 100 rfl rfl, by decide, rfl, rfl⟩
set_option maxRecDepth 20000 in
theorem zff7_23 : FFz 7 23 7 2 := ⟨tb2 101 rfl rfl, by decide, rfl, rfl⟩
set_option maxRecDepth 20000 in
theorem zff7_31 : FFz 7 31 7 5 := ⟨tb2 104 rfl rfl, by decide, rfl, rfl⟩
set_option maxRecDepth 20000 in
theorem zff7_35 : FFz 7 35 7 6 := ⟨tb2 105 rfl rfl, by decide, rfl, rfl⟩
set_option maxRecDepth 20000 in
theorem zff7_57 : FFz 7 57 7 3 := ⟨tb2 102 rfl rfl, by decide, rfl, rfl⟩
set_option maxRecDepth 20000 in
theorem zff7_72 : FFz 7 72 7 4 := ⟨tb2 103 rfl rfl, by decide, rfl, rfl⟩
set_option maxRecDepth 20000 in
theorem zff7_78 : FFz 7 78 11 1 := ⟨tb1 210 rfl rfl, by decide, rfl, rfl⟩
set_option maxRecDepth 20000 in
theorem zff7_127 : FFz 7 127 12 9 := ⟨tb2 9 rfl rfl, by decide, rfl, rfl⟩
set_option maxRecDepth 20000 in
theorem zff7_151 : FFz 7 151 10 6 := ⟨tb2 64 rfl rfl, by decide, rfl, rfl⟩
set_option maxRecDepth 20000 in
theorem zff7_161 : FFz 7 161 11 0 := ⟨tb1 208 rfl rfl, by decide, rfl, rfl⟩
set_option maxRecDepth 20000 in
theorem zff7_163 : FFz 7 163 11 2 := ⟨tb1 212 rfl rfl, by decide, rfl, rfl⟩
set_option maxRecDepth 20000 in
theorem zffC7 : ∀ q ∈ pft.getD 7 [], FFz 7 q.1 q.2.1 q.2.2 := by
  show ∀ q ∈ ([(9, (7, 7)), (15, (7, 0)), (19, (7, 1)), (23, (7, 2)), (31, (7, 5)), (35, (7, 6)), (57, (7, 3)), (72, (7, 4)), (78, (11, 1)), (127, (12, 9)), (151, (10, 6)), (161, (11, 0)), (163, (11, 2))] : List (Nat × (Nat × Nat))), FFz 7 q.1 q.2.1 q.2.2
  exact List.forall_mem_cons.mpr ⟨zff7_9, List.forall_mem_cons.mpr ⟨zff7_15, List.forall_mem_cons.mpr ⟨zff7_19, List.forall_mem_cons.mpr ⟨zff7_23, List.forall_mem_cons.mpr ⟨zff7_31, List.forall_mem_cons.mpr ⟨zff7_35, List.forall_mem_cons.mpr ⟨zff7_57, List.forall_mem_cons.mpr ⟨zff7_72, List.forall_mem_cons.mpr ⟨zff7_78, List.forall_mem_cons.mpr ⟨zff7_127, List.forall_mem_cons.mpr ⟨zff7_151, List.forall_mem_cons.mpr ⟨zff7_161, List.forall_mem_cons.mpr ⟨zff7_163, fun _ h => absurd h List.not_mem_nil⟩⟩⟩⟩⟩⟩⟩⟩⟩⟩⟩⟩⟩
set_option maxRecDepth 20000 in
theorem zff8_9 : FFz 8 9 8 0 := ⟨tb1 46 rfl rfl, by decide, rfl, rfl⟩
set_option maxRecDepth 20000 in
theorem zff8_15 : FFz 8 15 8 1 := ⟨tb1 50 rfl rfl, by decide, rfl, rfl⟩
set_option maxRecDepth 20000 in
theorem zff8_18 : FFz 8 18 8 2 := ⟨tb1 52 rfl rfl, by decide, rfl, rfl⟩
set_option maxRecDepth 20000 in
theorem zff8_21 : FFz 8 21 8 3 := ⟨tb1 56 rfl rfl, by decide, rfl, rfl⟩
set_option maxRecDepth 20000 in
theorem zff8_25 : FFz 8 25 8 4 := ⟨tb1 58 rfl rfl, by decide, rfl, rfl⟩
set_option maxRecDepth 20000 in
theorem zff8_28 : FFz 8 28 8 5 := ⟨tb1 62 rfl rfl, by decide, rfl, rfl⟩
set_option maxRecDepth 20000 in
theorem zff8_31 : FFz 8 31 8 6 := ⟨tb1 64 rfl rfl, by decide, rfl, rfl⟩
set_option maxRecDepth 20000 in
theorem zffC8 : ∀ q ∈ pft.getD 8 [], FFz 8 q.1 q.2.1 q.2.2 := by
  show ∀ q ∈ ([(9, (8, 0)), (15, (8, 1)), (18, (8, 2)), (21, (8, 3)), (25, (8, 4)), (28, (8, 5)), (31, (8, 6))] : List (Nat × (Nat × Nat))), FFz 8 q.1 q.2.1 q.2.2
  exact List.forall_mem_cons.mpr ⟨zff8_9, List.forall_mem_cons.mpr ⟨zff8_15, List.forall_mem_cons.mpr ⟨zff8_18, List.forall_mem_cons.mpr ⟨zff8_21, List.forall_mem_cons.mpr ⟨zff8_25, List.forall_mem_cons.mpr ⟨zff8_28, List.forall_mem_cons.mpr ⟨zff8_31, fun _ h => absurd h List.not_mem_nil⟩⟩⟩⟩⟩⟩⟩
set_option maxRecDepth 20000 in
theorem zff9_9 : FFz 9 9 9 0 := ⟨tb2 158 rfl rfl, by decide, rfl, rfl⟩
set_option maxRecDepth 20000 in
theorem zff9_15 : FFz 9 15 9 1 := ⟨tb2 159 rfl rfl, by decide, rfl, rfl⟩
set_option maxRecDepth 20000 in
theorem zff9_19 : FFz 9 19 3 0 := ⟨tb1 135 rfl rfl, by decide, rfl, rfl⟩
set_option maxRecDepth 20000 in
theorem zff9_25 : FFz 9 25 8 2 := ⟨tb1 53 rfl rfl, by decide, rfl, rfl⟩
set_option maxRecDepth 20000 in
theorem zff9_31 : FFz 9 31 3 1 := ⟨tb1 144 rfl rfl, by decide, rfl, rfl⟩
set_option maxRecDepth 20000 in
theorem zff9_45 : FFz 9 45 8 6 := ⟨tb1 67 rfl rfl, by decide, rfl, rfl⟩
set_option maxRecDepth 20000 in
theorem zff9_49 : FFz 9 49 10 4 := ⟨tb2 60 rfl rfl, by decide, rfl, rfl⟩
set_option maxRecDepth 20000 in
theorem zff9_52 : FFz 9 52 10 0 := ⟨tb2 44 rfl rfl, by decide, rfl, rfl⟩
set_option maxRecDepth 20000 in
theorem zff9_55 : FFz 9 55 10 2 := ⟨tb2 50 rfl rfl, by decide, rfl, rfl⟩
set_option maxRecDepth 20000 in
theorem zff9_58 : FFz 9 58 10 3 := ⟨tb2 55 rfl rfl, by decide, rfl, rfl⟩
set_option maxRecDepth 20000 in
theorem zff9_79 : FFz 9 79 8 5 := ⟨tb1 63 rfl rfl, by decide, rfl, rfl⟩
set_option maxRecDepth 20000 in
theorem zff9_86 : FFz 9 86 6 5 := ⟨tb1 113 rfl rfl, by decide, rfl, rfl⟩
set_option maxRecDepth 20000 in
theorem zffC9 : ∀ q ∈ pft.getD 9 [], FFz 9 q.1 q.2.1 q.2.2 := by
  show ∀ q ∈ ([(9, (9, 0)), (15, (9, 1)), (19, (3, 0)), (25, (8, 2)), (31, (3, 1)), (45, (8, 6)), (49, (10, 4)), (52, (10, 0)), (55, (10, 2)), (58, (10, 3)), (79, (8, 5)), (86, (6, 5))] : List (Nat × (Nat × Nat))), FFz 9 q.1 q.2.1 q.2.2
  exact List.forall_mem_cons.mpr ⟨zff9_9, List.forall_mem_cons.mpr ⟨zff9_15, List.forall_mem_cons.mpr ⟨zff9_19, List.forall_mem_cons.mpr ⟨zff9_25, List.forall_mem_cons.mpr ⟨zff9_31, List.forall_mem_cons.mpr ⟨zff9_45, List.forall_mem_cons.mpr ⟨zff9_49, List.forall_mem_cons.mpr ⟨zff9_52, List.forall_mem_cons.mpr ⟨zff9_55, List.forall_mem_cons.mpr ⟨zff9_58, List.forall_mem_cons.mpr ⟨zff9_79, List.forall_mem_cons.mpr ⟨zff9_86, fun _ h => absurd h List.not_mem_nil⟩⟩⟩⟩⟩⟩⟩⟩⟩⟩⟩⟩
set_option maxRecDepth 20000 in
theorem zff10_9 : FFz 10 9 10 0 := ⟨tb2 41 rfl rfl, by decide, rfl, rfl⟩
set_option maxRecDepth 20000 in
theorem zff10_15 : FFz 10 15 10 1 := ⟨tb2 45 rfl rfl, by decide, rfl, rfl⟩
set_option maxRecDepth 20000 in
theorem zff10_18 : FFz 10 18 10 2 := ⟨tb2 47 rfl rfl, by decide, rfl, rfl⟩
set_option maxRecDepth 20000 in
theorem zff10_21 : FFz 10 21 10 3 := ⟨tb2 52 rfl rfl, by decide, rfl, rfl⟩
set_option maxRecDepth 20000 in
theorem zff10_24 : FFz 10 24 10 5 := ⟨tb2 61 rfl rfl, by decide, rfl, rfl⟩
set_option maxRecDepth 20000 in
theorem zff10_27 : FFz 10 27 10 4 := ⟨tb2 57 rfl rfl, by decide, rfl, rfl⟩
set_option maxRecDepth 20000 in
theorem zff10_31 : FFz 10 31 10 6 := ⟨tb2 63 rfl rfl, by decide, rfl, rfl⟩
set_option maxRecDepth 20000 in
theorem zffC10 : ∀ q ∈ pft.getD 10 [], FFz 10 q.1 q.2.1 q.2.2 := by
  show ∀ q ∈ ([(9, (10, 0)), (15, (10, 1)), (18, (10, 2)), (21, (10, 3)), (24, (10, 5)), (27, (10, 4)), (31, (10, 6))] : List (Nat × (Nat × Nat))), FFz 10 q.1 q.2.1 q.2.2
  exact List.forall_mem_cons.mpr ⟨zff10_9, List.forall_mem_cons.mpr ⟨zff10_15, List.forall_mem_cons.mpr ⟨zff10_18, List.forall_mem_cons.mpr ⟨zff10_21, List.forall_mem_cons.mpr ⟨zff10_24, List.forall_mem_cons.mpr ⟨zff10_27, List.forall_mem_cons.mpr ⟨zff10_31, fun _ h => absurd h List.not_mem_nil⟩⟩⟩⟩⟩⟩⟩
set_option maxRecDepth 20000 in
theorem zff11_9 : FFz 11 9 11 0 := ⟨tb1 207 rfl rfl, by decide, rfl, rfl⟩
set_option maxRecDepth 20000 in
theorem zff11_15 : FFz 11 15 11 1 := ⟨tb1 209 rfl rfl, by decide, rfl, rfl⟩
set_option maxRecDepth 20000 in
theorem zff11_18 : FFz 11 18 11 2 := ⟨tb1 211 rfl rfl, by decide, rfl, rfl⟩
set_option maxRecDepth 20000 in
theorem zff11_21 : FFz 11 21 11 3 := ⟨tb1 213 rfl rfl, by decide, rfl, rfl⟩
set_option maxRecDepth 20000 in
theorem zffC11 : ∀ q ∈ pft.getD 11 [], FFz 11 q.1 q.2.1 q.2.2 := by
  show ∀ q ∈ ([(9, (11, 0)), (15, (11, 1)), (18, (11, 2)), (21, (11, 3))] : List (Nat × (Nat × Nat))), FFz 11 q.1 q.2.1 q.2.2
  exact List.forall_mem_cons.mpr ⟨zff11_9, List.forall_mem_cons.mpr ⟨zff11_15, List.forall_mem_cons.mpr ⟨zff11_18, List.forall_mem_cons.mpr ⟨zff11_21, fun _ h => absurd h List.not_mem_nil⟩⟩⟩⟩
set_option maxRecDepth 20000 in
theorem zff12_9 : FFz 12 9 12 0 := ⟨tb1 229 rfl rfl, by decide, rfl, rfl⟩
set_option maxRecDepth 20000 in
theorem zff12_15 : FFz 12 15 12 1 := ⟨tb1 231 rfl rfl, by decide, rfl, rfl⟩
set_option maxRecDepth 20000 in
theorem zff12_18 : FFz 12 18 12 2 := ⟨tb1 233 rfl rfl, by decide, rfl, rfl⟩
set_option maxRecDepth 20000 in
theorem zff12_21 : FFz 12 21 12 3 := ⟨tb1 235 rfl rfl, by decide, rfl, rfl⟩
set_option maxRecDepth 20000 in
theorem zff12_24 : FFz 12 24 12 5 := ⟨tb2 0 rfl rfl, by decide, rfl, rfl⟩
set_option maxRecDepth 20000 in
theorem zff12_27 : FFz 12 27 12 6 := ⟨tb2 1 rfl rfl, by decide, rfl, rfl⟩
set_option maxRecDepth 20000 in
theorem zff12_31 : FFz 12 31 12 7 := ⟨tb2 3 rfl rfl, by decide, rfl, rfl⟩
set_option maxRecDepth 20000 in
theorem zff12_34 : FFz 12 34 12 8 := ⟨tb2 5 rfl rfl, by decide, rfl, rfl⟩
set_option maxRecDepth 20000 in
theorem zff12_37 : FFz 12 37 12 9 := ⟨tb2 7 rfl rfl, by decide, rfl, rfl⟩
set_option maxRecDepth 20000 in
theorem zff12_40 : FFz 12 40 12 4 := ⟨tb1 238 rfl rfl, by decide, rfl, rfl⟩
set_option maxRecDepth 20000 in
theorem zff12_44 : FFz 12 44 12 10 := ⟨tb2 10 rfl rfl, by decide, rfl, rfl⟩
set_option maxRecDepth 20000 in
theorem zffC12 : ∀ q ∈ pft.getD 12 [], FFz 12 q.1 q.2.1 q.2.2 := by
  show ∀ q ∈ ([(9, (12, 0)), (15, (12, 1)), (18, (12, 2)), (21, (12, 3)), (24, (12, 5)), (27, (12, 6)), (31, (12, 7)), (34, (12, 8)), (37, (12, 9)), (40, (12, 4)), (44, (12, 10))] : List (Nat × (Nat × Nat))), FFz 12 q.1 q.2.1 q.2.2
  exact List.forall_mem_cons.mpr ⟨zff12_9, List.forall_mem_cons.mpr ⟨zff12_15, List.forall_mem_cons.mpr ⟨zff12_18, List.forall_mem_cons.mpr ⟨zff12_21, List.forall_mem_cons.mpr ⟨zff12_24, List.forall_mem_cons.mpr ⟨zff12_27, List.forall_mem_cons.mpr ⟨zff12_31, List.forall_mem_cons.mpr ⟨zff12_34, List.forall_mem_cons.mpr ⟨zff12_37, List.forall_mem_cons.mpr ⟨zff12_40, List.forall_mem_cons.mpr ⟨zff12_44, fun _ h => absurd h List.not_mem_nil⟩⟩⟩⟩⟩⟩⟩⟩⟩⟩⟩
set_option maxRecDepth 20000 in
theorem zffC13 : ∀ q ∈ pft.getD 13 [], FFz 13 q.1 q.2.1 q.2.2 := fun _ h => absurd h List.not_mem_nil
set_option maxRecDepth 20000 in
theorem zffC14 : ∀ q ∈ pft.getD 14 [], FFz 14 q.1 q.2.1 q.2.2 := fun _ h => absurd h List.not_mem_nil
theorem ffAll : ∀ c, c < 15 → ∀ q ∈ pft.getD c [], FFz c q.1 q.2.1 q.2.2 := lt_s (lt_s (lt_s (lt_s (lt_s (lt_s (lt_s (lt_s (lt_s (lt_s (lt_s (lt_s (lt_s (lt_s (lt_s lt_0 zffC0) zffC1) zffC2) zffC3) zffC4) zffC5) zffC6) zffC7) zffC8) zffC9) zffC10) zffC11) zffC12) zffC13) zffC14
def FC (c : Nat) : Prop := (∀ w ∈ u_ws (clsN c) (TZ c) (nfZ c), w ∈ TBW) ∧ (∀ k, k < nfZ c → parseFieldDescriptor (TZ c k).2.2.1 = some (tyZ c k)) ∧ (∀ a, a < nfZ c → ∀ b, b < nfZ c → a ≠ b → (TZ c a).2.1 ≠ (TZ c b).2.1)
set_option maxRecDepth 20000 in
theorem zfcw0 : ∀ w ∈ u_ws (clsN 0) (TZ 0) (nfZ 0), w ∈ TBW := by
  show ∀ w ∈ [u_lay (clsN 0) (TZ 0) 0, u_lay (clsN 0) (TZ 0) 1, u_lay (clsN 0) (TZ 0) 2, u_lay (clsN 0) (TZ 0) 3, u_lay (clsN 0) (TZ 0) 4, u_lay (clsN 0) (TZ 0) 5, u_lay (clsN 0) (TZ 0) 6, u_lay (clsN 0) (TZ 0) 7, u_lay (clsN 0) (TZ 0) 8, u_lay (clsN 0) (TZ 0) 9, u_lay (clsN 0) (TZ 0) 10, u_lay (clsN 0) (TZ 0) 11, u_lay (clsN 0) (TZ 0) 12, u_lay (clsN 0) (TZ 0) 13, u_lay (clsN 0) (TZ 0) 14, u_lay (clsN 0) (TZ 0) 15, u_lay (clsN 0) (TZ 0) 16, u_lay (clsN 0) (TZ 0) 17, u_lay (clsN 0) (TZ 0) 18, u_lay (clsN 0) (TZ 0) 19, u_lay (clsN 0) (TZ 0) 20, u_lay (clsN 0) (TZ 0) 21, u_lay (clsN 0) (TZ 0) 22, u_lay (clsN 0) (TZ 0) 23, u_lay (clsN 0) (TZ 0) 24, u_lay (clsN 0) (TZ 0) 25, u_lay (clsN 0) (TZ 0) 26, u_lay (clsN 0) (TZ 0) 27, u_lay (clsN 0) (TZ 0) 28, u_lay (clsN 0) (TZ 0) 29, u_lay (clsN 0) (TZ 0) 30, u_lay (clsN 0) (TZ 0) 31, u_lay (clsN 0) (TZ 0) 32, u_lay (clsN 0) (TZ 0) 33, u_lay (clsN 0) (TZ 0) 34, u_lay (clsN 0) (TZ 0) 35, u_lay (clsN 0) (TZ 0) 36, u_lay (clsN 0) (TZ 0) 37, u_lay (clsN 0) (TZ 0) 38, u_lay (clsN 0) (TZ 0) 39, u_lay (clsN 0) (TZ 0) 40, u_lay (clsN 0) (TZ 0) 41, u_lay (clsN 0) (TZ 0) 42, u_lay (clsN 0) (TZ 0) 43, u_lay (clsN 0) (TZ 0) 44, u_lay (clsN 0) (TZ 0) 45, u_lay (clsN 0) (TZ 0) 46, u_lay (clsN 0) (TZ 0) 47, u_lay (clsN 0) (TZ 0) 48, u_lay (clsN 0) (TZ 0) 49, u_lay (clsN 0) (TZ 0) 50, u_lay (clsN 0) (TZ 0) 51, u_lay (clsN 0) (TZ 0) 52, u_lay (clsN 0) (TZ 0) 53, u_lay (clsN 0) (TZ 0) 54, u_lay (clsN 0) (TZ 0) 55, u_lay (clsN 0) (TZ 0) 56, u_lay (clsN 0) (TZ 0) 57, u_lay (clsN 0) (TZ 0) 58, u_lay (clsN 0) (TZ 0) 59, u_lay (clsN 0) (TZ 0) 60, u_lay (clsN 0) (TZ 0) 61, u_lay (clsN 0) (TZ 0) 62, u_lay (clsN 0) (TZ 0) 63, u_lay (clsN 0) (TZ 0) 64, u_lay (clsN 0) (TZ 0) 65, u_lay (clsN 0) (TZ 0) 66, u_lay (clsN 0) (TZ 0) 67, u_lay (clsN 0) (TZ 0) 68, u_lay (clsN 0) (TZ 0) 69, u_lay (clsN 0) (TZ 0) 70, u_lay (clsN 0) (TZ 0) 71, u_lay (clsN 0) (TZ 0) 72, u_lay (clsN 0) (TZ 0) 73, u_lay (clsN 0) (TZ 0) 74, u_lay (clsN 0) (TZ 0) 75], w ∈ TBW
  exact List.forall_mem_cons.mpr ⟨tb6 3 rfl rfl, List.forall_mem_cons.mpr ⟨tb6 5 rfl rfl, List.forall_mem_cons.mpr ⟨tb6 7 rfl rfl, List.forall_mem_cons.mpr ⟨tb6 9 rfl rfl, List.forall_mem_cons.mpr ⟨tb6 11 rfl rfl, List.forall_mem_cons.mpr ⟨tb6 13 rfl rfl, List.forall_mem_cons.mpr ⟨tb6 15 rfl rfl, List.forall_mem_cons.mpr ⟨tb6 17 rfl rfl, List.forall_mem_cons.mpr ⟨tb6 19 rfl rfl, List.forall_mem_cons.mpr ⟨tb6 21 rfl rfl, List.forall_mem_cons.mpr ⟨tb6 23 rfl rfl, List.forall_mem_cons.mpr ⟨tb6 25 rfl rfl, List.forall_mem_cons.mpr ⟨tb6 27 rfl rfl, List.forall_mem_cons.mpr ⟨tb6 29 rfl rfl, List.forall_mem_cons.mpr ⟨tb6 31 rfl rfl, List.forall_mem_cons.mpr ⟨tb6 33 rfl rfl, List.forall_mem_cons.mpr ⟨tb6 35 rfl rfl, List.forall_mem_cons.mpr ⟨tb6 37 rfl rfl, List.forall_mem_cons.mpr ⟨tb6 39 rfl rfl, List.forall_mem_cons.mpr ⟨tb6 41 rfl rfl, List.forall_mem_cons.mpr ⟨tb6 43 rfl rfl, List.forall_mem_cons.mpr ⟨tb6 45 rfl rfl, List.forall_mem_cons.mpr ⟨tb6 47 rfl rfl, List.forall_mem_cons.mpr ⟨tb6 49 rfl rfl, List.forall_mem_cons.mpr ⟨tb6 51 rfl rfl, List.forall_mem_cons.mpr ⟨tb6 53 rfl rfl, List.forall_mem_cons.mpr ⟨tb6 55 rfl rfl, List.forall_mem_cons.mpr ⟨tb6 57 rfl rfl, List.forall_mem_cons.mpr ⟨tb6 59 rfl rfl, List.forall_mem_cons.mpr ⟨tb6 61 rfl rfl, List.forall_mem_cons.mpr ⟨tb6 63 rfl rfl, List.forall_mem_cons.mpr ⟨tb6 65 rfl rfl, List.forall_mem_cons.mpr ⟨tb6 67 rfl rfl, List.forall_mem_cons.mpr ⟨tb6 69 rfl rfl, List.forall_mem_cons.mpr ⟨tb6 71 rfl rfl, List.forall_mem_cons.mpr ⟨tb6 73 rfl rfl, List.forall_mem_cons.mpr ⟨tb6 75 rfl rfl, List.forall_mem_cons.mpr ⟨tb6 77 rfl rfl, List.forall_mem_cons.mpr ⟨tb6 79 rfl rfl, List.forall_mem_cons.mpr ⟨tb6 81 rfl rfl, List.forall_mem_cons.mpr ⟨tb6 83 rfl rfl, List.forall_mem_cons.mpr ⟨tb6 85 rfl rfl, List.forall_mem_cons.mpr ⟨tb6 87 rfl rfl, List.forall_mem_cons.mpr ⟨tb6 89 rfl rfl, List.forall_mem_cons.mpr ⟨tb6 91 rfl rfl, List.forall_mem_cons.mpr ⟨tb6 93 rfl rfl, List.forall_mem_cons.mpr ⟨tb6 95 rfl rfl, List.forall_mem_cons.mpr ⟨tb6 97 rfl rfl, List.forall_mem_cons.mpr ⟨tb6 99 rfl rfl, List.forall_mem_cons.mpr ⟨tb6 101 rfl rfl, List.forall_mem_cons.mpr ⟨tb6 103 rfl rfl, List.forall_mem_cons.mpr ⟨tb6 105 rfl rfl, List.forall_mem_cons.mpr ⟨tb6 107 rfl rfl, List.forall_mem_cons.mpr ⟨tb6 109 rfl rfl, List.forall_mem_cons.mpr ⟨tb6 111 rfl rfl, List.forall_mem_cons.mpr ⟨tb6 113 rfl rfl, List.forall_mem_cons.mpr ⟨tb6 115 rfl rfl, List.forall_mem_cons.mpr ⟨tb6 117 rfl rfl, List.forall_mem_cons.mpr ⟨tb6 119 rfl rfl, List.forall_mem_cons.mpr ⟨tb6 121 rfl rfl, List.forall_mem_cons.mpr ⟨tb6 123 rfl rfl, List.forall_mem_cons.mpr ⟨tb6 125 rfl rfl, List.forall_mem_cons.mpr ⟨tb6 127 rfl rfl, List.forall_mem_cons.mpr ⟨tb6 129 rfl rfl, List.forall_mem_cons.mpr ⟨tb6 131 rfl rfl, List.forall_mem_cons.mpr ⟨tb6 133 rfl rfl, List.forall_mem_cons.mpr ⟨tb6 135 rfl rfl, List.forall_mem_cons.mpr ⟨tb6 137 rfl rfl, List.forall_mem_cons.mpr ⟨tb6 139 rfl rfl, List.forall_mem_cons.mpr ⟨tb6 141 rfl rfl, List.forall_mem_cons.mpr ⟨tb6 143 rfl rfl, List.forall_mem_cons.mpr ⟨tb6 145 rfl rfl, List.forall_mem_cons.mpr ⟨tb6 147 rfl rfl, List.forall_mem_cons.mpr ⟨tb6 149 rfl rfl, List.forall_mem_cons.mpr ⟨tb6 151 rfl rfl, List.forall_mem_cons.mpr ⟨tb6 153 rfl rfl, fun _ h => absurd h List.not_mem_nil⟩⟩⟩⟩⟩⟩⟩⟩⟩⟩⟩⟩⟩⟩⟩⟩⟩⟩⟩⟩⟩⟩⟩⟩⟩⟩⟩⟩⟩⟩⟩⟩⟩⟩⟩⟩⟩⟩⟩⟩⟩⟩⟩⟩⟩⟩⟩⟩⟩⟩⟩⟩⟩⟩⟩⟩⟩⟩⟩⟩⟩⟩⟩⟩⟩⟩⟩⟩⟩⟩⟩⟩⟩⟩⟩⟩
set_option maxRecDepth 20000 in
theorem zfc0 : FC 0 := ⟨zfcw0, by decide +kernel, by decide +kernel⟩
set_option maxRecDepth 20000 in
theorem zfcw1 : ∀ w ∈ u_ws (clsN 1) (TZ 1) (nfZ 1), w ∈ TBW := by
  show ∀ w ∈ [u_lay (clsN 1) (TZ 1) 0, u_lay (clsN 1) (TZ 1) 1, u_lay (clsN 1) (TZ 1) 2, u_lay (clsN 1) (TZ 1) 3, u_lay (clsN 1) (TZ 1) 4, u_lay (clsN 1) (TZ 1) 5, u_lay (clsN 1) (TZ 1) 6, u_lay (clsN 1) (TZ 1) 7, u_lay (clsN 1) (TZ 1) 8, u_lay (clsN 1) (TZ 1) 9, u_lay (clsN 1) (TZ 1) 10], w ∈ TBW
  exact List.forall_mem_cons.mpr ⟨tb2 218 rfl rfl, List.forall_mem_cons.mpr ⟨tb2 220 rfl rfl, List.forall_mem_cons.mpr ⟨tb2 222 rfl rfl, List.forall_mem_cons.mpr ⟨tb2 224 rfl rfl, List.forall_mem_cons.mpr ⟨tb2 226 rfl rfl, List.forall_mem_cons.mpr ⟨tb2 228 rfl rfl, List.forall_mem_cons.mpr ⟨tb2 230 rfl rfl, List.forall_mem_cons.mpr ⟨tb2 232 rfl rfl, List.forall_mem_cons.mpr ⟨tb2 234 rfl rfl, List.forall_mem_cons.mpr ⟨tb2 236 rfl rfl, List.forall_mem_cons.mpr ⟨tb2 238 rfl rfl, fun _ h => absurd h List.not_mem_nil⟩⟩⟩⟩⟩⟩⟩⟩⟩⟩⟩
set_option maxRecDepth 20000 in
theorem zfc1 : FC 1 := ⟨zfcw1, by decide +kernel, by decide +kernel⟩
set_option maxRecDepth 20000 in
theorem zfcw2 : ∀ w ∈ u_ws (clsN 2) (TZ 2) (nfZ 2), w ∈ TBW := by
  show ∀ w ∈ [u_lay (clsN 2) (TZ 2) 0, u_lay (clsN 2) (TZ 2) 1, u_lay (clsN 2) (TZ 2) 2, u_lay (clsN 2) (TZ 2) 3, u_lay (clsN 2) (TZ 2) 4, u_lay (clsN 2) (TZ 2) 5, u_lay (clsN 2) (TZ 2) 6], w ∈ TBW
  exact List.forall_mem_cons.mpr ⟨tb2 137 rfl rfl, List.forall_mem_cons.mpr ⟨tb2 139 rfl rfl, List.forall_mem_cons.mpr ⟨tb2 141 rfl rfl, List.forall_mem_cons.mpr ⟨tb2 143 rfl rfl, List.forall_mem_cons.mpr ⟨tb2 145 rfl rfl, List.forall_mem_cons.mpr ⟨tb2 147 rfl rfl, List.forall_mem_cons.mpr ⟨tb2 149 rfl rfl, fun _ h => absurd h List.not_mem_nil⟩⟩⟩⟩⟩⟩⟩
set_option maxRecDepth 20000 in
theorem zfc2 : FC 2 := ⟨zfcw2, by decide +kernel, by decide +kernel⟩
set_option maxRecDepth 20000 in
theorem zfcw3 : ∀ w ∈ u_ws (clsN 3) (TZ 3) (nfZ 3), w ∈ TBW := by
  show ∀ w ∈ [u_lay (clsN 3) (TZ 3) 0, u_lay (clsN 3) (TZ 3) 1, u_lay (clsN 3) (TZ 3) 2, u_lay (clsN 3) (TZ 3) 3, u_lay (clsN 3) (TZ 3) 4, u_lay (clsN 3) (TZ 3) 5, u_lay (clsN 3) (TZ 3) 6, u_lay (clsN 3) (TZ 3) 7, u_lay (clsN 3) (TZ 3) 8, u_lay (clsN 3) (TZ 3) 9, u_lay (clsN 3) (TZ 3) 10, u_lay (clsN 3) (TZ 3) 11, u_lay (clsN 3) (TZ 3) 12, u_lay (clsN 3) (TZ 3) 13, u_lay (clsN 3) (TZ 3) 14, u_lay (clsN 3) (TZ 3) 15], w ∈ TBW
  exact List.forall_mem_cons.mpr ⟨tb1 168 rfl rfl, List.forall_mem_cons.mpr ⟨tb1 170 rfl rfl, List.forall_mem_cons.mpr ⟨tb1 172 rfl rfl, List.forall_mem_cons.mpr ⟨tb1 174 rfl rfl, List.forall_mem_cons.mpr ⟨tb1 176 rfl rfl, List.forall_mem_cons.mpr ⟨tb1 178 rfl rfl, List.forall_mem_cons.mpr ⟨tb1 180 rfl rfl, List.forall_mem_cons.mpr ⟨tb1 182 rfl rfl, List.forall_mem_cons.mpr ⟨tb1 184 rfl rfl, List.forall_mem_cons.mpr ⟨tb1 186 rfl rfl, List.forall_mem_cons.mpr ⟨tb1 188 rfl rfl, List.forall_mem_cons.mpr ⟨tb1 190 rfl rfl, List.forall_mem_cons.mpr ⟨tb1 192 rfl rfl, List.forall_mem_cons.mpr ⟨tb1 194 rfl rfl, List.forall_mem_cons.mpr ⟨tb1 196 rfl rfl, List.forall_mem_cons.mpr ⟨tb1 198 rfl rfl, fun _ h => absurd h List.not_mem_nil⟩⟩⟩⟩⟩⟩⟩⟩⟩⟩⟩⟩⟩⟩⟩⟩
set_option maxRecDepth 20000 in
theorem zfc3 : FC 3 := ⟨zfcw3, by decide +kernel, by decide +kernel⟩
set_option maxRecDepth 20000 in
theorem zfcw4 : ∀ w ∈ u_ws (clsN 4) (TZ 4) (nfZ 4), w ∈ TBW := by
  show ∀ w ∈ [u_lay (clsN 4) (TZ 4) 0, u_lay (clsN 4) (TZ 4) 1], w ∈ TBW
  exact List.forall_mem_cons.mpr ⟨tb2 88 rfl rfl, List.forall_mem_cons.mpr ⟨tb2 90 rfl rfl, fun _ h => absurd h List.not_mem_nil⟩⟩
set_option maxRecDepth 20000 in
theorem zfc4 : FC 4 := ⟨zfcw4, by decide +kernel, by decide +kernel⟩
set_option maxRecDepth 20000 in
theorem zfcw5 : ∀ w ∈ u_ws (clsN 5) (TZ 5) (nfZ 5), w ∈ TBW := by
  show ∀ w ∈ [u_lay (clsN 5) (TZ 5) 0, u_lay (clsN 5) (TZ 5) 1, u_lay (clsN 5) (TZ 5) 2, u_lay (clsN 5) (TZ 5) 3, u_lay (clsN 5) (TZ 5) 4, u_lay (clsN 5) (TZ 5) 5, u_lay (clsN 5) (TZ 5) 6, u_lay (clsN 5) (TZ 5) 7, u_lay (clsN 5) (TZ 5) 8, u_lay (clsN 5) (TZ 5) 9, u_lay (clsN 5) (TZ 5) 10], w ∈ TBW
  exact List.forall_mem_cons.mpr ⟨tb2 184 rfl rfl, List.forall_mem_cons.mpr ⟨tb2 186 rfl rfl, List.forall_mem_cons.mpr ⟨tb2 188 rfl rfl, List.forall_mem_cons.mpr ⟨tb2 190 rfl rfl, List.forall_mem_cons.mpr ⟨tb2 192 rfl rfl, List.forall_mem_cons.mpr ⟨tb2 194 rfl rfl, List.forall_mem_cons.mpr ⟨tb2 196 rfl rfl, List.forall_mem_cons.mpr ⟨tb2 198 rfl rfl, List.forall_mem_cons.mpr ⟨tb2 200 rfl rfl, List.forall_mem_cons.mpr ⟨tb2 202 rfl rfl, List.forall_mem_cons.mpr ⟨tb2 204 rfl rfl, fun _ h => absurd h List.not_mem_nil⟩⟩⟩⟩⟩⟩⟩⟩⟩⟩⟩
set_option maxRecDepth 20000 in
theorem zfc5 : FC 5 := ⟨zfcw5, by decide +kernel, by decide +kernel⟩
set_option maxRecDepth 20000 in
theorem zfcw6 : ∀ w ∈ u_ws (clsN 6) (TZ 6) (nfZ 6), w ∈ TBW := by
  show ∀ w ∈ [u_lay (clsN 6) (TZ 6) 0, u_lay (clsN 6) (TZ 6) 1, u_lay (clsN 6) (TZ 6) 2, u_lay (clsN 6) (TZ 6) 3, u_lay (clsN 6) (TZ 6) 4, u_lay (clsN 6) (TZ 6) 5, u_lay (clsN 6) (TZ 6) 6, u_lay (clsN 6) (TZ 6) 7], w ∈ TBW
  exact List.forall_mem_cons.mpr ⟨tb1 117 rfl rfl, List.forall_mem_cons.mpr ⟨tb1 119 rfl rfl, List.forall_mem_cons.mpr ⟨tb1 121 rfl rfl, List.forall_mem_cons.mpr ⟨tb1 123 rfl rfl, List.forall_mem_cons.mpr ⟨tb1 125 rfl rfl, List.forall_mem_cons.mpr ⟨tb1 127 rfl rfl, List.forall_mem_cons.mpr ⟨tb1 129 rfl rfl, List.forall_mem_cons.mpr ⟨tb1 131 rfl rfl, fun _ h => absurd h List.not_mem_nil⟩⟩⟩⟩⟩⟩⟩⟩
set_option maxRecDepth 20000 in
theorem zfc6 : FC 6 := ⟨zfcw6, by decide +kernel, by decide +kernel⟩
set_option maxRecDepth 20000 in
theorem zfcw7 : ∀ w ∈ u_ws (clsN 7) (TZ 7) (nfZ 7), w ∈ TBW := by
  show ∀ w ∈ [u_lay (clsN 7) (TZ 7) 0, u_lay (clsN 7) (TZ 7) 1, u_lay (clsN 7) (TZ 7) 2, u_lay (clsN 7) (TZ 7) 3, u_lay (clsN 7) (TZ 7) 4, u_lay (clsN 7) (TZ 7) 5, u_lay (clsN 7) (TZ 7) 6, u_lay (clsN 7) (TZ 7) 7], w ∈ TBW
  exact List.forall_mem_cons.mpr ⟨tb2 107 rfl rfl, List.forall_mem_cons.mpr ⟨tb2 109 rfl rfl, List.forall_mem_cons.mpr ⟨tb2 111 rfl rfl, List.forall_mem_cons.mpr ⟨tb2 113 rfl rfl, List.forall_mem_cons.mpr ⟨tb2 115 rfl rfl, List.forall_mem_cons.mpr ⟨tb2 117 rfl rfl, List.forall_mem_cons.mpr ⟨tb2 119 rfl rfl, List.forall_mem_cons.mpr ⟨tb2 121 rfl rfl, fun _ h => absurd h List.not_mem_nil⟩⟩⟩⟩⟩⟩⟩⟩
set_option maxRecDepth 20000 in
theorem zfc7 : FC 7 := ⟨zfcw7, by decide +kernel, by decide +kernel⟩
set_option maxRecDepth 20000 in
theorem zfcw8 : ∀ w ∈ u_ws (clsN 8) (TZ 8) (nfZ 8), w ∈ TBW := by
  show ∀ w ∈ [u_lay (clsN 8) (TZ 8) 0, u_lay (clsN 8) (TZ 8) 1, u_lay (clsN 8) (TZ 8) 2, u_lay (clsN 8) (TZ 8) 3, u_lay (clsN 8) (TZ 8) 4, u_lay (clsN 8) (TZ 8) 5, u_lay (clsN 8) (TZ 8) 6], w ∈ TBW
  exact List.forall_mem_cons.mpr ⟨tb1 70 rfl rfl, List.forall_mem_cons.mpr ⟨tb1 72 rfl rfl, List.forall_mem_cons.mpr ⟨tb1 74 rfl rfl, List.forall_mem_cons.mpr ⟨tb1 76 rfl rfl, List.forall_mem_cons.mpr ⟨tb1 78 rfl rfl, List.forall_mem_cons.mpr ⟨tb1 80 rfl rfl, List.forall_mem_cons.mpr ⟨tb1 82 rfl rfl, fun _ h => absurd h List.not_mem_nil⟩⟩⟩⟩⟩⟩⟩
set_option maxRecDepth 20000 in
theorem zfc8 : FC 8 := ⟨zfcw8, by decide +kernel, by decide +kernel⟩
set_option maxRecDepth 20000 in
theorem zfcw9 : ∀ w ∈ u_ws (clsN 9) (TZ 9) (nfZ 9), w ∈ TBW := by
  show ∀ w ∈ [u_lay (clsN 9) (TZ 9) 0, u_lay (clsN 9) (TZ 9) 1], w ∈ TBW
  exact List.forall_mem_cons.mpr ⟨tb2 160 rfl rfl, List.forall_mem_cons.mpr ⟨tb2 162 rfl rfl, fun _ h => absurd h List.not_mem_nil⟩⟩
set_option maxRecDepth 20000 in
theorem zfc9 : FC 9 := ⟨zfcw9, by decide +kernel, by decide +kernel⟩
set_option maxRecDepth 20000 in
theorem zfcw10 : ∀ w ∈ u_ws (clsN 10) (TZ 10) (nfZ 10), w ∈ TBW := by
  show ∀ w ∈ [u_lay (clsN 10) (TZ 10) 0, u_lay (clsN 10) (TZ 10) 1, u_lay (clsN 10) (TZ 10) 2, u_lay (clsN 10) (TZ 10) 3, u_lay (clsN 10) (TZ 10) 4, u_lay (clsN 10) (TZ 10) 5, u_lay (clsN 10) (TZ 10) 6], w ∈ TBW
  exact List.forall_mem_cons.mpr ⟨tb2 65 rfl rfl, List.forall_mem_cons.mpr ⟨tb2 67 rfl rfl, List.forall_mem_cons.mpr ⟨tb2 69 rfl rfl, List.forall_mem_cons.mpr ⟨tb2 71 rfl rfl, List.forall_mem_cons.mpr ⟨tb2 73 rfl rfl, List.forall_mem_cons.mpr ⟨tb2 75 rfl rfl, List.forall_mem_cons.mpr ⟨tb2 77 rfl rfl, fun _ h => absurd h List.not_mem_nil⟩⟩⟩⟩⟩⟩⟩
set_option maxRecDepth 20000 in
theorem zfc10 : FC 10 := ⟨zfcw10, by decide +kernel, by decide +kernel⟩
set_option maxRecDepth 20000 in
theorem zfcw11 : ∀ w ∈ u_ws (clsN 11) (TZ 11) (nfZ 11), w ∈ TBW := by
  show ∀ w ∈ [u_lay (clsN 11) (TZ 11) 0, u_lay (clsN 11) (TZ 11) 1, u_lay (clsN 11) (TZ 11) 2, u_lay (clsN 11) (TZ 11) 3], w ∈ TBW
  exact List.forall_mem_cons.mpr ⟨tb1 214 rfl rfl, List.forall_mem_cons.mpr ⟨tb1 216 rfl rfl, List.forall_mem_cons.mpr ⟨tb1 218 rfl rfl, List.forall_mem_cons.mpr ⟨tb1 220 rfl rfl, fun _ h => absurd h List.not_mem_nil⟩⟩⟩⟩
set_option maxRecDepth 20000 in
theorem zfc11 : FC 11 := ⟨zfcw11, by decide +kernel, by decide +kernel⟩
set_option maxRecDepth 20000 in
theorem zfcw12 : ∀ w ∈ u_ws (clsN 12) (TZ 12) (nfZ 12), w ∈ TBW := by
  show ∀ w ∈ [u_lay (clsN 12) (TZ 12) 0, u_lay (clsN 12) (TZ 12) 1, u_lay (clsN 12) (TZ 12) 2, u_lay (clsN 12) (TZ 12) 3, u_lay (clsN 12) (TZ 12) 4, u_lay (clsN 12) (TZ 12) 5, u_lay (clsN 12) (TZ 12) 6, u_lay (clsN 12) (TZ 12) 7, u_lay (clsN 12) (TZ 12) 8, u_lay (clsN 12) (TZ 12) 9, u_lay (clsN 12) (TZ 12) 10], w ∈ TBW
  exact List.forall_mem_cons.mpr ⟨tb2 12 rfl rfl, List.forall_mem_cons.mpr ⟨tb2 14 rfl rfl, List.forall_mem_cons.mpr ⟨tb2 16 rfl rfl, List.forall_mem_cons.mpr ⟨tb2 18 rfl rfl, List.forall_mem_cons.mpr ⟨tb2 20 rfl rfl, List.forall_mem_cons.mpr ⟨tb2 22 rfl rfl, List.forall_mem_cons.mpr ⟨tb2 24 rfl rfl, List.forall_mem_cons.mpr ⟨tb2 26 rfl rfl, List.forall_mem_cons.mpr ⟨tb2 28 rfl rfl, List.forall_mem_cons.mpr ⟨tb2 30 rfl rfl, List.forall_mem_cons.mpr ⟨tb2 32 rfl rfl, fun _ h => absurd h List.not_mem_nil⟩⟩⟩⟩⟩⟩⟩⟩⟩⟩⟩
set_option maxRecDepth 20000 in
theorem zfc12 : FC 12 := ⟨zfcw12, by decide +kernel, by decide +kernel⟩
theorem fcAll : ∀ c, c < 13 → FC c := lt_s (lt_s (lt_s (lt_s (lt_s (lt_s (lt_s (lt_s (lt_s (lt_s (lt_s (lt_s (lt_s lt_0 zfc0) zfc1) zfc2) zfc3) zfc4) zfc5) zfc6) zfc7) zfc8) zfc9) zfc10) zfc11) zfc12
def FT (ci k : Nat) : Prop := (fkd ci k = 0 → tyZ ci k = .int ∧ (TZ ci k).2.2.2 = false) ∧ (fkd ci k = 1 → tyZ ci k = .boolean ∧ (TZ ci k).2.2.2 = false) ∧ (fkd ci k = 2 → (TZ ci k).2.2.2 = false ∧ ((tyZ ci k).isReference = true ∧ ∀ a, fits (tyZ ci k) (.ref a) = true))
theorem zft0_0 : FT 0 0 := ⟨(fun h => absurd h (by decide)), (fun h => absurd h (by decide)), (fun h => absurd h (by decide))⟩
theorem zft0_1 : FT 0 1 := ⟨(fun _ => ⟨rfl, rfl⟩), (fun h => absurd h (by decide)), (fun h => absurd h (by decide))⟩
theorem zft0_2 : FT 0 2 := ⟨(fun _ => ⟨rfl, rfl⟩), (fun h => absurd h (by decide)), (fun h => absurd h (by decide))⟩
theorem zft0_3 : FT 0 3 := ⟨(fun _ => ⟨rfl, rfl⟩), (fun h => absurd h (by decide)), (fun h => absurd h (by decide))⟩
theorem zft0_4 : FT 0 4 := ⟨(fun _ => ⟨rfl, rfl⟩), (fun h => absurd h (by decide)), (fun h => absurd h (by decide))⟩
theorem zft0_5 : FT 0 5 := ⟨(fun h => absurd h (by decide)), (fun _ => ⟨rfl, rfl⟩), (fun h => absurd h (by decide))⟩
theorem zft0_6 : FT 0 6 := ⟨(fun h => absurd h (by decide)), (fun h => absurd h (by decide)), (fun h => absurd h (by decide))⟩
theorem zft0_7 : FT 0 7 := ⟨(fun h => absurd h (by decide)), (fun h => absurd h (by decide)), (fun h => absurd h (by decide))⟩
theorem zft0_8 : FT 0 8 := ⟨(fun h => absurd h (by decide)), (fun h => absurd h (by decide)), (fun h => absurd h (by decide))⟩
theorem zft0_9 : FT 0 9 := ⟨(fun h => absurd h (by decide)), (fun h => absurd h (by decide)), (fun h => absurd h (by decide))⟩
theorem zft0_10 : FT 0 10 := ⟨(fun h => absurd h (by decide)), (fun h => absurd h (by decide)), (fun h => absurd h (by decide))⟩
theorem zft0_11 : FT 0 11 := ⟨(fun h => absurd h (by decide)), (fun h => absurd h (by decide)), (fun h => absurd h (by decide))⟩
theorem zft0_12 : FT 0 12 := ⟨(fun h => absurd h (by decide)), (fun h => absurd h (by decide)), (fun h => absurd h (by decide))⟩
theorem zft0_13 : FT 0 13 := ⟨(fun h => absurd h (by decide)), (fun h => absurd h (by decide)), (fun h => absurd h (by decide))⟩
theorem zft0_14 : FT 0 14 := ⟨(fun h => absurd h (by decide)), (fun h => absurd h (by decide)), (fun h => absurd h (by decide))⟩
theorem zft0_15 : FT 0 15 := ⟨(fun h => absurd h (by decide)), (fun h => absurd h (by decide)), (fun h => absurd h (by decide))⟩
theorem zft0_16 : FT 0 16 := ⟨(fun _ => ⟨rfl, rfl⟩), (fun h => absurd h (by decide)), (fun h => absurd h (by decide))⟩
theorem zft0_17 : FT 0 17 := ⟨(fun _ => ⟨rfl, rfl⟩), (fun h => absurd h (by decide)), (fun h => absurd h (by decide))⟩
theorem zft0_18 : FT 0 18 := ⟨(fun _ => ⟨rfl, rfl⟩), (fun h => absurd h (by decide)), (fun h => absurd h (by decide))⟩
theorem zft0_19 : FT 0 19 := ⟨(fun h => absurd h (by decide)), (fun h => absurd h (by decide)), (fun h => absurd h (by decide))⟩
theorem zft0_20 : FT 0 20 := ⟨(fun h => absurd h (by decide)), (fun h => absurd h (by decide)), (fun h => absurd h (by decide))⟩
theorem zft0_21 : FT 0 21 := ⟨(fun h => absurd h (by decide)), (fun h => absurd h (by decide)), (fun h => absurd h (by decide))⟩
theorem zft0_22 : FT 0 22 := ⟨(fun h => absurd h (by decide)), (fun h => absurd h (by decide)), (fun h => absurd h (by decide))⟩
theorem zft0_23 : FT 0 23 := ⟨(fun h => absurd h (by decide)), (fun h => absurd h (by decide)), (fun h => absurd h (by decide))⟩
theorem zft0_24 : FT 0 24 := ⟨(fun h => absurd h (by decide)), (fun h => absurd h (by decide)), (fun h => absurd h (by decide))⟩
theorem zft0_25 : FT 0 25 := ⟨(fun h => absurd h (by decide)), (fun h => absurd h (by decide)), (fun h => absurd h (by decide))⟩
theorem zft0_26 : FT 0 26 := ⟨(fun h => absurd h (by decide)), (fun h => absurd h (by decide)), (fun h => absurd h (by decide))⟩
theorem zft0_27 : FT 0 27 := ⟨(fun h => absurd h (by decide)), (fun h => absurd h (by decide)), (fun h => absurd h (by decide))⟩
theorem zft0_28 : FT 0 28 := ⟨(fun h => absurd h (by decide)), (fun h => absurd h (by decide)), (fun h => absurd h (by decide))⟩
theorem zft0_29 : FT 0 29 := ⟨(fun h => absurd h (by decide)), (fun h => absurd h (by decide)), (fun h => absurd h (by decide))⟩
theorem zft0_30 : FT 0 30 := ⟨(fun h => absurd h (by decide)), (fun h => absurd h (by decide)), (fun h => absurd h (by decide))⟩
theorem zft0_31 : FT 0 31 := ⟨(fun h => absurd h (by decide)), (fun h => absurd h (by decide)), (fun h => absurd h (by decide))⟩
theorem zft0_32 : FT 0 32 := ⟨(fun _ => ⟨rfl, rfl⟩), (fun h => absurd h (by decide)), (fun h => absurd h (by decide))⟩
theorem zft0_33 : FT 0 33 := ⟨(fun h => absurd h (by decide)), (fun h => absurd h (by decide)), (fun h => absurd h (by decide))⟩
theorem zft0_34 : FT 0 34 := ⟨(fun h => absurd h (by decide)), (fun h => absurd h (by decide)), (fun h => absurd h (by decide))⟩
theorem zft0_35 : FT 0 35 := ⟨(fun h => absurd h (by decide)), (fun h => absurd h (by decide)), (fun h => absurd h (by decide))⟩
theorem zft0_36 : FT 0 36 := ⟨(fun h => absurd h (by decide)), (fun h => absurd h (by decide)), (fun h => absurd h (by decide))⟩
theorem zft0_37 : FT 0 37 := ⟨(fun h => absurd h (by decide)), (fun h => absurd h (by decide)), (fun h => absurd h (by decide))⟩
theorem zft0_38 : FT 0 38 := ⟨(fun h => absurd h (by decide)), (fun h => absurd h (by decide)), (fun h => absurd h (by decide))⟩
theorem zft0_39 : FT 0 39 := ⟨(fun h => absurd h (by decide)), (fun h => absurd h (by decide)), (fun h => absurd h (by decide))⟩
theorem zft0_40 : FT 0 40 := ⟨(fun _ => ⟨rfl, rfl⟩), (fun h => absurd h (by decide)), (fun h => absurd h (by decide))⟩
theorem zft0_41 : FT 0 41 := ⟨(fun h => absurd h (by decide)), (fun h => absurd h (by decide)), (fun h => absurd h (by decide))⟩
theorem zft0_42 : FT 0 42 := ⟨(fun h => absurd h (by decide)), (fun h => absurd h (by decide)), (fun h => absurd h (by decide))⟩
theorem zft0_43 : FT 0 43 := ⟨(fun h => absurd h (by decide)), (fun h => absurd h (by decide)), (fun h => absurd h (by decide))⟩
theorem zft0_44 : FT 0 44 := ⟨(fun h => absurd h (by decide)), (fun h => absurd h (by decide)), (fun h => absurd h (by decide))⟩
theorem zft0_45 : FT 0 45 := ⟨(fun h => absurd h (by decide)), (fun h => absurd h (by decide)), (fun h => absurd h (by decide))⟩
theorem zft0_46 : FT 0 46 := ⟨(fun h => absurd h (by decide)), (fun h => absurd h (by decide)), (fun h => absurd h (by decide))⟩
theorem zft0_47 : FT 0 47 := ⟨(fun h => absurd h (by decide)), (fun h => absurd h (by decide)), (fun h => absurd h (by decide))⟩
theorem zft0_48 : FT 0 48 := ⟨(fun h => absurd h (by decide)), (fun h => absurd h (by decide)), (fun h => absurd h (by decide))⟩
theorem zft0_49 : FT 0 49 := ⟨(fun h => absurd h (by decide)), (fun h => absurd h (by decide)), (fun h => absurd h (by decide))⟩
theorem zft0_50 : FT 0 50 := ⟨(fun _ => ⟨rfl, rfl⟩), (fun h => absurd h (by decide)), (fun h => absurd h (by decide))⟩
theorem zft0_51 : FT 0 51 := ⟨(fun _ => ⟨rfl, rfl⟩), (fun h => absurd h (by decide)), (fun h => absurd h (by decide))⟩
theorem zft0_52 : FT 0 52 := ⟨(fun _ => ⟨rfl, rfl⟩), (fun h => absurd h (by decide)), (fun h => absurd h (by decide))⟩
theorem zft0_53 : FT 0 53 := ⟨(fun _ => ⟨rfl, rfl⟩), (fun h => absurd h (by decide)), (fun h => absurd h (by decide))⟩
theorem zft0_54 : FT 0 54 := ⟨(fun h => absurd h (by decide)), (fun h => absurd h (by decide)), (fun h => absurd h (by decide))⟩
theorem zft0_55 : FT 0 55 := ⟨(fun h => absurd h (by decide)), (fun h => absurd h (by decide)), (fun h => absurd h (by decide))⟩
theorem zft0_56 : FT 0 56 := ⟨(fun h => absurd h (by decide)), (fun h => absurd h (by decide)), (fun h => absurd h (by decide))⟩
theorem zft0_57 : FT 0 57 := ⟨(fun _ => ⟨rfl, rfl⟩), (fun h => absurd h (by decide)), (fun h => absurd h (by decide))⟩
theorem zft0_58 : FT 0 58 := ⟨(fun _ => ⟨rfl, rfl⟩), (fun h => absurd h (by decide)), (fun h => absurd h (by decide))⟩
theorem zft0_59 : FT 0 59 := ⟨(fun h => absurd h (by decide)), (fun h => absurd h (by decide)), (fun h => absurd h (by decide))⟩
theorem zft0_60 : FT 0 60 := ⟨(fun h => absurd h (by decide)), (fun h => absurd h (by decide)), (fun h => absurd h (by decide))⟩
theorem zft0_61 : FT 0 61 := ⟨(fun h => absurd h (by decide)), (fun h => absurd h (by decide)), (fun h => absurd h (by decide))⟩
theorem zft0_62 : FT 0 62 := ⟨(fun h => absurd h (by decide)), (fun h => absurd h (by decide)), (fun h => absurd h (by decide))⟩
theorem zft0_63 : FT 0 63 := ⟨(fun h => absurd h (by decide)), (fun h => absurd h (by decide)), (fun h => absurd h (by decide))⟩
theorem zft0_64 : FT 0 64 := ⟨(fun h => absurd h (by decide)), (fun h => absurd h (by decide)), (fun h => absurd h (by decide))⟩
theorem zft0_65 : FT 0 65 := ⟨(fun h => absurd h (by decide)), (fun h => absurd h (by decide)), (fun h => absurd h (by decide))⟩
theorem zft0_66 : FT 0 66 := ⟨(fun h => absurd h (by decide)), (fun h => absurd h (by decide)), (fun h => absurd h (by decide))⟩
theorem zft0_67 : FT 0 67 := ⟨(fun h => absurd h (by decide)), (fun h => absurd h (by decide)), (fun h => absurd h (by decide))⟩
theorem zft0_68 : FT 0 68 := ⟨(fun h => absurd h (by decide)), (fun h => absurd h (by decide)), (fun h => absurd h (by decide))⟩
theorem zft0_69 : FT 0 69 := ⟨(fun h => absurd h (by decide)), (fun h => absurd h (by decide)), (fun h => absurd h (by decide))⟩
theorem zft0_70 : FT 0 70 := ⟨(fun h => absurd h (by decide)), (fun h => absurd h (by decide)), (fun h => absurd h (by decide))⟩
theorem zft0_71 : FT 0 71 := ⟨(fun _ => ⟨rfl, rfl⟩), (fun h => absurd h (by decide)), (fun h => absurd h (by decide))⟩
theorem zft0_72 : FT 0 72 := ⟨(fun _ => ⟨rfl, rfl⟩), (fun h => absurd h (by decide)), (fun h => absurd h (by decide))⟩
theorem zft0_73 : FT 0 73 := ⟨(fun _ => ⟨rfl, rfl⟩), (fun h => absurd h (by decide)), (fun h => absurd h (by decide))⟩
theorem zft0_74 : FT 0 74 := ⟨(fun _ => ⟨rfl, rfl⟩), (fun h => absurd h (by decide)), (fun h => absurd h (by decide))⟩
theorem zft0_75 : FT 0 75 := ⟨(fun h => absurd h (by decide)), (fun _ => ⟨rfl, rfl⟩), (fun h => absurd h (by decide))⟩
theorem zftC0 : ∀ k, k < nfZ 0 → FT 0 k := lt_s (lt_s (lt_s (lt_s (lt_s (lt_s (lt_s (lt_s (lt_s (lt_s (lt_s (lt_s (lt_s (lt_s (lt_s (lt_s (lt_s (lt_s (lt_s (lt_s (lt_s (lt_s (lt_s (lt_s (lt_s (lt_s (lt_s (lt_s (lt_s (lt_s (lt_s (lt_s (lt_s (lt_s (lt_s (lt_s (lt_s (lt_s (lt_s (lt_s (lt_s (lt_s (lt_s (lt_s (lt_s (lt_s (lt_s (lt_s (lt_s (lt_s (lt_s (lt_s (lt_s (lt_s (lt_s (lt_s (lt_s (lt_s (lt_s (lt_s (lt_s (lt_s (lt_s (lt_s (lt_s (lt_s (lt_s (lt_s (lt_s (lt_s (lt_s (lt_s (lt_s (lt_s (lt_s (lt_s lt_0 zft0_0) zft0_1) zft0_2) zft0_3) zft0_4) zft0_5) zft0_6) zft0_7) zft0_8) zft0_9) zft0_10) zft0_11) zft0_12) zft0_13) zft0_14) zft0_15) zft0_16) zft0_17) zft0_18) zft0_19) zft0_20) zft0_21) zft0_22) zft0_23) zft0_24) zft0_25) zft0_26) zft0_27) zft0_28) zft0_29) zft0_30) zft0_31) zft0_32) zft0_33) zft0_34) zft0_35) zft0_36) zft0_37) zft0_38) zft0_39) zft0_40) zft0_41) zft0_42) zft0_43) zft0_44) zft0_45) zft0_46) zft0_47) zft0_48) zft0_49) zft0_50) zft0_51) zft0_52) zft0_53) zft0_54) zft0_55) zft0_56) zft0_57) zft0_58) zft0_59) zft0_60) zft0_61) zft0_62) zft0_63) zft0_64) zft0_65) zft0_66) zft0_67) zft0_68) zft0_69) zft0_70) zft0_71) zft0_72) zft0_73) zft0_74) zft0_75
theorem zft1_0 : FT 1 0 := ⟨(fun h => absurd h (by decide)), (fun h => absurd h (by decide)), (fun h => absurd h (by decide))⟩
theorem zft1_1 : FT 1 1 := ⟨(fun _ => ⟨rfl, rfl⟩), (fun h => absurd h (by decide)), (fun h => absurd h (by decide))⟩
theorem zft1_2 : FT 1 2 := ⟨(fun _ => ⟨rfl, rfl⟩), (fun h => absurd h (by decide)), (fun h => absurd h (by decide))⟩
theorem zft1_3 : FT 1 3 := ⟨(fun h => absurd h (by decide)), (fun _ => ⟨rfl, rfl⟩), (fun h => absurd h (by decide))⟩
theorem zft1_4 : FT 1 4 := ⟨(fun h => absurd h (by decide)), (fun h => absurd h (by decide)), (fun _ => ⟨rfl, rfl, fun _ => rfl⟩)⟩
theorem zft1_5 : FT 1 5 := ⟨(fun h => absurd h (by decide)), (fun h => absurd h (by decide)), (fun _ => ⟨rfl, rfl, fun _ => rfl⟩)⟩
theorem zft1_6 : FT 1 6 := ⟨(fun h => absurd h (by decide)), (fun h => absurd h (by decide)), (fun h => absurd h (by decide))⟩
theorem zft1_7 : FT 1 7 := ⟨(fun h => absurd h (by decide)), (fun h => absurd h (by decide)), (fun h => absurd h (by decide))⟩
theorem zft1_8 : FT 1 8 := ⟨(fun h => absurd h (by decide)), (fun h => absurd h (by decide)), (fun h => absurd h (by decide))⟩
theorem zft1_9 : FT 1 9 := ⟨(fun h => absurd h (by decide)), (fun h => absurd h (by decide)), (fun h => absurd h (by decide))⟩
theorem zft1_10 : FT 1 10 := ⟨(fun h => absurd h (by decide)), (fun h => absurd h (by decide)), (fun h => absurd h (by decide))⟩
theorem zftC1 : ∀ k, k < nfZ 1 → FT 1 k := lt_s (lt_s (lt_s (lt_s (lt_s (lt_s (lt_s (lt_s (lt_s (lt_s (lt_s lt_0 zft1_0) zft1_1) zft1_2) zft1_3) zft1_4) zft1_5) zft1_6) zft1_7) zft1_8) zft1_9) zft1_10
theorem zft2_0 : FT 2 0 := ⟨(fun h => absurd h (by decide)), (fun h => absurd h (by decide)), (fun h => absurd h (by decide))⟩
theorem zft2_1 : FT 2 1 := ⟨(fun h => absurd h (by decide)), (fun h => absurd h (by decide)), (fun h => absurd h (by decide))⟩
theorem zft2_2 : FT 2 2 := ⟨(fun h => absurd h (by decide)), (fun h => absurd h (by decide)), (fun h => absurd h (by decide))⟩
theorem zft2_3 : FT 2 3 := ⟨(fun h => absurd h (by decide)), (fun h => absurd h (by decide)), (fun h => absurd h (by decide))⟩
theorem zft2_4 : FT 2 4 := ⟨(fun h => absurd h (by decide)), (fun h => absurd h (by decide)), (fun h => absurd h (by decide))⟩
theorem zft2_5 : FT 2 5 := ⟨(fun h => absurd h (by decide)), (fun h => absurd h (by decide)), (fun _ => ⟨rfl, rfl, fun _ => rfl⟩)⟩
theorem zft2_6 : FT 2 6 := ⟨(fun h => absurd h (by decide)), (fun h => absurd h (by decide)), (fun _ => ⟨rfl, rfl, fun _ => rfl⟩)⟩
theorem zftC2 : ∀ k, k < nfZ 2 → FT 2 k := lt_s (lt_s (lt_s (lt_s (lt_s (lt_s (lt_s lt_0 zft2_0) zft2_1) zft2_2) zft2_3) zft2_4) zft2_5) zft2_6
theorem zft3_0 : FT 3 0 := ⟨(fun h => absurd h (by decide)), (fun h => absurd h (by decide)), (fun h => absurd h (by decide))⟩
theorem zft3_1 : FT 3 1 := ⟨(fun h => absurd h (by decide)), (fun h => absurd h (by decide)), (fun h => absurd h (by decide))⟩
theorem zft3_2 : FT 3 2 := ⟨(fun _ => ⟨rfl, rfl⟩), (fun h => absurd h (by decide)), (fun h => absurd h (by decide))⟩
theorem zft3_3 : FT 3 3 := ⟨(fun h => absurd h (by decide)), (fun h => absurd h (by decide)), (fun h => absurd h (by decide))⟩
theorem zft3_4 : FT 3 4 := ⟨(fun h => absurd h (by decide)), (fun h => absurd h (by decide)), (fun h => absurd h (by decide))⟩
theorem zft3_5 : FT 3 5 := ⟨(fun h => absurd h (by decide)), (fun h => absurd h (by decide)), (fun h => absurd h (by decide))⟩
theorem zft3_6 : FT 3 6 := ⟨(fun _ => ⟨rfl, rfl⟩), (fun h => absurd h (by decide)), (fun h => absurd h (by decide))⟩
theorem zft3_7 : FT 3 7 := ⟨(fun h => absurd h (by decide)), (fun h => absurd h (by decide)), (fun h => absurd h (by decide))⟩
theorem zft3_8 : FT 3 8 := ⟨(fun h => absurd h (by decide)), (fun h => absurd h (by decide)), (fun h => absurd h (by decide))⟩
theorem zft3_9 : FT 3 9 := ⟨(fun h => absurd h (by decide)), (fun h => absurd h (by decide)), (fun h => absurd h (by decide))⟩
theorem zft3_10 : FT 3 10 := ⟨(fun _ => ⟨rfl, rfl⟩), (fun h => absurd h (by decide)), (fun h => absurd h (by decide))⟩
theorem zft3_11 : FT 3 11 := ⟨(fun h => absurd h (by decide)), (fun h => absurd h (by decide)), (fun h => absurd h (by decide))⟩
theorem zft3_12 : FT 3 12 := ⟨(fun h => absurd h (by decide)), (fun h => absurd h (by decide)), (fun h => absurd h (by decide))⟩
theorem zft3_13 : FT 3 13 := ⟨(fun h => absurd h (by decide)), (fun h => absurd h (by decide)), (fun h => absurd h (by decide))⟩
theorem zft3_14 : FT 3 14 := ⟨(fun h => absurd h (by decide)), (fun h => absurd h (by decide)), (fun h => absurd h (by decide))⟩
theorem zft3_15 : FT 3 15 := ⟨(fun _ => ⟨rfl, rfl⟩), (fun h => absurd h (by decide)), (fun h => absurd h (by decide))⟩
theorem zftC3 : ∀ k, k < nfZ 3 → FT 3 k := lt_s (lt_s (lt_s (lt_s (lt_s (lt_s (lt_s (lt_s (lt_s (lt_s (lt_s (lt_s (lt_s (lt_s (lt_s (lt_s lt_0 zft3_0) zft3_1) zft3_2) zft3_3) zft3_4) zft3_5) zft3_6) zft3_7) zft3_8) zft3_9) zft3_10) zft3_11) zft3_12) zft3_13) zft3_14) zft3_15
theorem zft4_0 : FT 4 0 := ⟨(fun h => absurd h (by decide)), (fun h => absurd h (by decide)), (fun h => absurd h (by decide))⟩
theorem zft4_1 : FT 4 1 := ⟨(fun h => absurd h (by decide)), (fun h => absurd h (by decide)), (fun h => absurd h (by decide))⟩
theorem zftC4 : ∀ k, k < nfZ 4 → FT 4 k := lt_s (lt_s lt_0 zft4_0) zft4_1
theorem zft5_0 : FT 5 0 := ⟨(fun h => absurd h (by decide)), (fun h => absurd h (by decide)), (fun h => absurd h (by decide))⟩
theorem zft5_1 : FT 5 1 := ⟨(fun h => absurd h (by decide)), (fun h => absurd h (by decide)), (fun h => absurd h (by decide))⟩
theorem zft5_2 : FT 5 2 := ⟨(fun h => absurd h (by decide)), (fun h => absurd h (by decide)), (fun h => absurd h (by decide))⟩
theorem zft5_3 : FT 5 3 := ⟨(fun h => absurd h (by decide)), (fun h => absurd h (by decide)), (fun h => absurd h (by decide))⟩
theorem zft5_4 : FT 5 4 := ⟨(fun h => absurd h (by decide)), (fun h => absurd h (by decide)), (fun h => absurd h (by decide))⟩
theorem zft5_5 : FT 5 5 := ⟨(fun h => absurd h (by decide)), (fun h => absurd h (by decide)), (fun h => absurd h (by decide))⟩
theorem zft5_6 : FT 5 6 := ⟨(fun h => absurd h (by decide)), (fun h => absurd h (by decide)), (fun h => absurd h (by decide))⟩
theorem zft5_7 : FT 5 7 := ⟨(fun h => absurd h (by decide)), (fun h => absurd h (by decide)), (fun h => absurd h (by decide))⟩
theorem zft5_8 : FT 5 8 := ⟨(fun h => absurd h (by decide)), (fun h => absurd h (by decide)), (fun h => absurd h (by decide))⟩
theorem zft5_9 : FT 5 9 := ⟨(fun _ => ⟨rfl, rfl⟩), (fun h => absurd h (by decide)), (fun h => absurd h (by decide))⟩
theorem zft5_10 : FT 5 10 := ⟨(fun _ => ⟨rfl, rfl⟩), (fun h => absurd h (by decide)), (fun h => absurd h (by decide))⟩
theorem zftC5 : ∀ k, k < nfZ 5 → FT 5 k := lt_s (lt_s (lt_s (lt_s (lt_s (lt_s (lt_s (lt_s (lt_s (lt_s (lt_s lt_0 zft5_0) zft5_1) zft5_2) zft5_3) zft5_4) zft5_5) zft5_6) zft5_7) zft5_8) zft5_9) zft5_10
theorem zft6_0 : FT 6 0 := ⟨(fun h => absurd h (by decide)), (fun h => absurd h (by decide)), (fun h => absurd h (by decide))⟩
theorem zft6_1 : FT 6 1 := ⟨(fun h => absurd h (by decide)), (fun h => absurd h (by decide)), (fun h => absurd h (by decide))⟩
theorem zft6_2 : FT 6 2 := ⟨(fun h => absurd h (by decide)), (fun h => absurd h (by decide)), (fun h => absurd h (by decide))⟩
theorem zft6_3 : FT 6 3 := ⟨(fun h => absurd h (by decide)), (fun h => absurd h (by decide)), (fun h => absurd h (by decide))⟩
theorem zft6_4 : FT 6 4 := ⟨(fun h => absurd h (by decide)), (fun h => absurd h (by decide)), (fun h => absurd h (by decide))⟩
theorem zft6_5 : FT 6 5 := ⟨(fun h => absurd h (by decide)), (fun h => absurd h (by decide)), (fun h => absurd h (by decide))⟩
theorem zft6_6 : FT 6 6 := ⟨(fun h => absurd h (by decide)), (fun h => absurd h (by decide)), (fun h => absurd h (by decide))⟩
theorem zft6_7 : FT 6 7 := ⟨(fun _ => ⟨rfl, rfl⟩), (fun h => absurd h (by decide)), (fun h => absurd h (by decide))⟩
theorem zftC6 : ∀ k, k < nfZ 6 → FT 6 k := lt_s (lt_s (lt_s (lt_s (lt_s (lt_s (lt_s (lt_s lt_0 zft6_0) zft6_1) zft6_2) zft6_3) zft6_4) zft6_5) zft6_6) zft6_7
theorem zft7_0 : FT 7 0 := ⟨(fun h => absurd h (by decide)), (fun h => absurd h (by decide)), (fun h => absurd h (by decide))⟩
theorem zft7_1 : FT 7 1 := ⟨(fun h => absurd h (by decide)), (fun h => absurd h (by decide)), (fun h => absurd h (by decide))⟩
theorem zft7_2 : FT 7 2 := ⟨(fun h => absurd h (by decide)), (fun h => absurd h (by decide)), (fun h => absurd h (by decide))⟩
theorem zft7_3 : FT 7 3 := ⟨(fun h => absurd h (by decide)), (fun h => absurd h (by decide)), (fun _ => ⟨rfl, rfl, fun _ => rfl⟩)⟩
theorem zft7_4 : FT 7 4 := ⟨(fun _ => ⟨rfl, rfl⟩), (fun h => absurd h (by decide)), (fun h => absurd h (by decide))⟩
theorem zft7_5 : FT 7 5 := ⟨(fun _ => ⟨rfl, rfl⟩), (fun h => absurd h (by decide)), (fun h => absurd h (by decide))⟩
theorem zft7_6 : FT 7 6 := ⟨(fun _ => ⟨rfl, rfl⟩), (fun h => absurd h (by decide)), (fun h => absurd h (by decide))⟩
theorem zft7_7 : FT 7 7 := ⟨(fun h => absurd h (by decide)), (fun h => absurd h (by decide)), (fun h => absurd h (by decide))⟩
theorem zftC7 : ∀ k, k < nfZ 7 → FT 7 k := lt_s (lt_s (lt_s (lt_s (lt_s (lt_s (lt_s (lt_s lt_0 zft7_0) zft7_1) zft7_2) zft7_3) zft7_4) zft7_5) zft7_6) zft7_7
theorem zft8_0 : FT 8 0 := ⟨(fun h => absurd h (by decide)), (fun h => absurd h (by decide)), (fun h => absurd h (by decide))⟩
theorem zft8_1 : FT 8 1 := ⟨(fun h => absurd h (by decide)), (fun h => absurd h (by decide)), (fun h => absurd h (by decide))⟩
theorem zft8_2 : FT 8 2 := ⟨(fun h => absurd h (by decide)), (fun h => absurd h (by decide)), (fun h => absurd h (by decide))⟩
theorem zft8_3 : FT 8 3 := ⟨(fun h => absurd h (by decide)), (fun h => absurd h (by decide)), (fun h => absurd h (by decide))⟩
theorem zft8_4 : FT 8 4 := ⟨(fun h => absurd h (by decide)), (fun h => absurd h (by decide)), (fun h => absurd h (by decide))⟩
theorem zft8_5 : FT 8 5 := ⟨(fun h => absurd h (by decide)), (fun h => absurd h (by decide)), (fun h => absurd h (by decide))⟩
theorem zft8_6 : FT 8 6 := ⟨(fun _ => ⟨rfl, rfl⟩), (fun h => absurd h (by decide)), (fun h => absurd h (by decide))⟩
theorem zftC8 : ∀ k, k < nfZ 8 → FT 8 k := lt_s (lt_s (lt_s (lt_s (lt_s (lt_s (lt_s lt_0 zft8_0) zft8_1) zft8_2) zft8_3) zft8_4) zft8_5) zft8_6
theorem zft9_0 : FT 9 0 := ⟨(fun h => absurd h (by decide)), (fun h => absurd h (by decide)), (fun h => absurd h (by decide))⟩
theorem zft9_1 : FT 9 1 := ⟨(fun h => absurd h (by decide)), (fun h => absurd h (by decide)), (fun h => absurd h (by decide))⟩
theorem zftC9 : ∀ k, k < nfZ 9 → FT 9 k := lt_s (lt_s lt_0 zft9_0) zft9_1
theorem zft10_0 : FT 10 0 := ⟨(fun h => absurd h (by decide)), (fun h => absurd h (by decide)), (fun h => absurd h (by decide))⟩
theorem zft10_1 : FT 10 1 := ⟨(fun h => absurd h (by decide)), (fun h => absurd h (by decide)), (fun h => absurd h (by decide))⟩
theorem zft10_2 : FT 10 2 := ⟨(fun h => absurd h (by decide)), (fun h => absurd h (by decide)), (fun h => absurd h (by decide))⟩
theorem zft10_3 : FT 10 3 := ⟨(fun h => absurd h (by decide)), (fun h => absurd h (by decide)), (fun h => absurd h (by decide))⟩
theorem zft10_4 : FT 10 4 := ⟨(fun _ => ⟨rfl, rfl⟩), (fun h => absurd h (by decide)), (fun h => absurd h (by decide))⟩
theorem zft10_5 : FT 10 5 := ⟨(fun h => absurd h (by decide)), (fun h => absurd h (by decide)), (fun h => absurd h (by decide))⟩
theorem zft10_6 : FT 10 6 := ⟨(fun _ => ⟨rfl, rfl⟩), (fun h => absurd h (by decide)), (fun h => absurd h (by decide))⟩
theorem zftC10 : ∀ k, k < nfZ 10 → FT 10 k := lt_s (lt_s (lt_s (lt_s (lt_s (lt_s (lt_s lt_0 zft10_0) zft10_1) zft10_2) zft10_3) zft10_4) zft10_5) zft10_6
theorem zft11_0 : FT 11 0 := ⟨(fun h => absurd h (by decide)), (fun h => absurd h (by decide)), (fun h => absurd h (by decide))⟩
theorem zft11_1 : FT 11 1 := ⟨(fun h => absurd h (by decide)), (fun h => absurd h (by decide)), (fun h => absurd h (by decide))⟩
theorem zft11_2 : FT 11 2 := ⟨(fun h => absurd h (by decide)), (fun h => absurd h (by decide)), (fun h => absurd h (by decide))⟩
theorem zft11_3 : FT 11 3 := ⟨(fun _ => ⟨rfl, rfl⟩), (fun h => absurd h (by decide)), (fun h => absurd h (by decide))⟩
theorem zftC11 : ∀ k, k < nfZ 11 → FT 11 k := lt_s (lt_s (lt_s (lt_s lt_0 zft11_0) zft11_1) zft11_2) zft11_3
theorem zft12_0 : FT 12 0 := ⟨(fun h => absurd h (by decide)), (fun h => absurd h (by decide)), (fun h => absurd h (by decide))⟩
theorem zft12_1 : FT 12 1 := ⟨(fun h => absurd h (by decide)), (fun h => absurd h (by decide)), (fun h => absurd h (by decide))⟩
theorem zft12_2 : FT 12 2 := ⟨(fun h => absurd h (by decide)), (fun h => absurd h (by decide)), (fun h => absurd h (by decide))⟩
theorem zft12_3 : FT 12 3 := ⟨(fun h => absurd h (by decide)), (fun h => absurd h (by decide)), (fun h => absurd h (by decide))⟩
theorem zft12_4 : FT 12 4 := ⟨(fun _ => ⟨rfl, rfl⟩), (fun h => absurd h (by decide)), (fun h => absurd h (by decide))⟩
theorem zft12_5 : FT 12 5 := ⟨(fun h => absurd h (by decide)), (fun h => absurd h (by decide)), (fun h => absurd h (by decide))⟩
theorem zft12_6 : FT 12 6 := ⟨(fun h => absurd h (by decide)), (fun h => absurd h (by decide)), (fun h => absurd h (by decide))⟩
theorem zft12_7 : FT 12 7 := ⟨(fun h => absurd h (by decide)), (fun h => absurd h (by decide)), (fun h => absurd h (by decide))⟩
theorem zft12_8 : FT 12 8 := ⟨(fun h => absurd h (by decide)), (fun h => absurd h (by decide)), (fun h => absurd h (by decide))⟩
theorem zft12_9 : FT 12 9 := ⟨(fun h => absurd h (by decide)), (fun h => absurd h (by decide)), (fun h => absurd h (by decide))⟩
theorem zft12_10 : FT 12 10 := ⟨(fun _ => ⟨rfl, rfl⟩), (fun h => absurd h (by decide)), (fun h => absurd h (by decide))⟩
theorem zftC12 : ∀ k, k < nfZ 12 → FT 12 k := lt_s (lt_s (lt_s (lt_s (lt_s (lt_s (lt_s (lt_s (lt_s (lt_s (lt_s lt_0 zft12_0) zft12_1) zft12_2) zft12_3) zft12_4) zft12_5) zft12_6) zft12_7) zft12_8) zft12_9) zft12_10
theorem ftAll : ∀ c, c < 13 → ∀ k, k < nfZ c → FT c k := lt_s (lt_s (lt_s (lt_s (lt_s (lt_s (lt_s (lt_s (lt_s (lt_s (lt_s (lt_s (lt_s lt_0 zftC0) zftC1) zftC2) zftC3) zftC4) zftC5) zftC6) zftC7) zftC8) zftC9) zftC10) zftC11) zftC12
def FN (c idx : Nat) (v : Int) : Prop := Cond.constant (clsN c) idx (i32 v) ∈ TBW ∧ (i32 v).toInt = v
set_option maxRecDepth 20000 in
theorem zfn0_219 : FN 0 219 65535 := ⟨tb6 229 rfl rfl, by decide +kernel⟩
set_option maxRecDepth 20000 in
theorem zfnC0 : ∀ q ∈ pct.getD 0 [], FN 0 q.1 q.2 := by
  show ∀ q ∈ ([(219, 65535)] : List (Nat × Int)), FN 0 q.1 q.2
  exact List.forall_mem_cons.mpr ⟨zfn0_219, fun _ h => absurd h List.not_mem_nil⟩
set_option maxRecDepth 20000 in
theorem zfnC1 : ∀ q ∈ pct.getD 1 [], FN 1 q.1 q.2 := fun _ h => absurd h List.not_mem_nil
set_option maxRecDepth 20000 in
theorem zfnC2 : ∀ q ∈ pct.getD 2 [], FN 2 q.1 q.2 := fun _ h => absurd h List.not_mem_nil
set_option maxRecDepth 20000 in
theorem zfnC3 : ∀ q ∈ pct.getD 3 [], FN 3 q.1 q.2 := fun _ h => absurd h List.not_mem_nil
set_option maxRecDepth 20000 in
theorem zfnC4 : ∀ q ∈ pct.getD 4 [], FN 4 q.1 q.2 := fun _ h => absurd h List.not_mem_nil
set_option maxRecDepth 20000 in
theorem zfn5_92 : FN 5 92 16777216 := ⟨tb4 190 rfl rfl, by decide +kernel⟩
set_option maxRecDepth 20000 in
theorem zfnC5 : ∀ q ∈ pct.getD 5 [], FN 5 q.1 q.2 := by
  show ∀ q ∈ ([(92, 16777216)] : List (Nat × Int)), FN 5 q.1 q.2
  exact List.forall_mem_cons.mpr ⟨zfn5_92, fun _ h => absurd h List.not_mem_nil⟩
set_option maxRecDepth 20000 in
theorem zfnC6 : ∀ q ∈ pct.getD 6 [], FN 6 q.1 q.2 := fun _ h => absurd h List.not_mem_nil
set_option maxRecDepth 20000 in
theorem zfn7_137 : FN 7 137 65535 := ⟨tb3 183 rfl rfl, by decide +kernel⟩
set_option maxRecDepth 20000 in
theorem zfnC7 : ∀ q ∈ pct.getD 7 [], FN 7 q.1 q.2 := by
  show ∀ q ∈ ([(137, 65535)] : List (Nat × Int)), FN 7 q.1 q.2
  exact List.forall_mem_cons.mpr ⟨zfn7_137, fun _ h => absurd h List.not_mem_nil⟩
set_option maxRecDepth 20000 in
theorem zfnC8 : ∀ q ∈ pct.getD 8 [], FN 8 q.1 q.2 := fun _ h => absurd h List.not_mem_nil
set_option maxRecDepth 20000 in
theorem zfnC9 : ∀ q ∈ pct.getD 9 [], FN 9 q.1 q.2 := fun _ h => absurd h List.not_mem_nil
set_option maxRecDepth 20000 in
theorem zfnC10 : ∀ q ∈ pct.getD 10 [], FN 10 q.1 q.2 := fun _ h => absurd h List.not_mem_nil
set_option maxRecDepth 20000 in
theorem zfn11_36 : FN 11 36 65536 := ⟨tb3 129 rfl rfl, by decide +kernel⟩
set_option maxRecDepth 20000 in
theorem zfn11_43 : FN 11 43 65535 := ⟨tb3 133 rfl rfl, by decide +kernel⟩
set_option maxRecDepth 20000 in
theorem zfnC11 : ∀ q ∈ pct.getD 11 [], FN 11 q.1 q.2 := by
  show ∀ q ∈ ([(36, 65536), (43, 65535)] : List (Nat × Int)), FN 11 q.1 q.2
  exact List.forall_mem_cons.mpr ⟨zfn11_36, List.forall_mem_cons.mpr ⟨zfn11_43, fun _ h => absurd h List.not_mem_nil⟩⟩
set_option maxRecDepth 20000 in
theorem zfnC12 : ∀ q ∈ pct.getD 12 [], FN 12 q.1 q.2 := fun _ h => absurd h List.not_mem_nil
set_option maxRecDepth 20000 in
theorem zfnC13 : ∀ q ∈ pct.getD 13 [], FN 13 q.1 q.2 := fun _ h => absurd h List.not_mem_nil
set_option maxRecDepth 20000 in
theorem zfnC14 : ∀ q ∈ pct.getD 14 [], FN 14 q.1 q.2 := fun _ h => absurd h List.not_mem_nil
theorem fnAll : ∀ c, c < 15 → ∀ q ∈ pct.getD c [], FN c q.1 q.2 := lt_s (lt_s (lt_s (lt_s (lt_s (lt_s (lt_s (lt_s (lt_s (lt_s (lt_s (lt_s (lt_s (lt_s (lt_s lt_0 zfnC0) zfnC1) zfnC2) zfnC3) zfnC4) zfnC5) zfnC6) zfnC7) zfnC8) zfnC9) zfnC10) zfnC11) zfnC12) zfnC13) zfnC14
