/-! THE CLASS: the two circuits, by their distance o -/
theorem obCO_58 {o : Nat} (ho : o = 0 ∨ o = 26) : obC (58 + o) = 3 := by rcases ho with rfl | rfl <;> rfl
theorem obCO_59 {o : Nat} (ho : o = 0 ∨ o = 26) : obC (59 + o) = 8 := by rcases ho with rfl | rfl <;> rfl
theorem aN1O_60 {o : Nat} (ho : o = 0 ∨ o = 26) : aN1 (60 + o) = 24 := by rcases ho with rfl | rfl <;> rfl
theorem aN1O_61 {o : Nat} (ho : o = 0 ∨ o = 26) : aN1 (61 + o) = 24 := by rcases ho with rfl | rfl <;> rfl
theorem aN1O_62 {o : Nat} (ho : o = 0 ∨ o = 26) : aN1 (62 + o) = 24 := by rcases ho with rfl | rfl <;> rfl
theorem aN2O_63 {o : Nat} (ho : o = 0 ∨ o = 26) : aN2 (63 + o) = 24 := by rcases ho with rfl | rfl <;> rfl
theorem aN2O_64 {o : Nat} (ho : o = 0 ∨ o = 26) : aN2 (64 + o) = 24 := by rcases ho with rfl | rfl <;> rfl
theorem aN2O_65 {o : Nat} (ho : o = 0 ∨ o = 26) : aN2 (65 + o) = 24 := by rcases ho with rfl | rfl <;> rfl
theorem obCO_66 {o : Nat} (ho : o = 0 ∨ o = 26) : obC (66 + o) = 6 := by rcases ho with rfl | rfl <;> rfl
theorem aN1O_67 {o : Nat} (ho : o = 0 ∨ o = 26) : aN1 (67 + o) = 225 := by rcases ho with rfl | rfl <;> rfl
theorem aN1O_68 {o : Nat} (ho : o = 0 ∨ o = 26) : aN1 (68 + o) = 225 := by rcases ho with rfl | rfl <;> rfl
theorem aN1O_69 {o : Nat} (ho : o = 0 ∨ o = 26) : aN1 (69 + o) = 225 := by rcases ho with rfl | rfl <;> rfl
theorem aN1O_70 {o : Nat} (ho : o = 0 ∨ o = 26) : aN1 (70 + o) = 225 := by rcases ho with rfl | rfl <;> rfl
theorem aN1O_71 {o : Nat} (ho : o = 0 ∨ o = 26) : aN1 (71 + o) = 225 := by rcases ho with rfl | rfl <;> rfl
theorem aN1O_72 {o : Nat} (ho : o = 0 ∨ o = 26) : aN1 (72 + o) = 225 := by rcases ho with rfl | rfl <;> rfl
theorem aN1O_73 {o : Nat} (ho : o = 0 ∨ o = 26) : aN1 (73 + o) = 225 := by rcases ho with rfl | rfl <;> rfl
theorem aN1O_74 {o : Nat} (ho : o = 0 ∨ o = 26) : aN1 (74 + o) = 840 := by rcases ho with rfl | rfl <;> rfl
theorem aN1O_75 {o : Nat} (ho : o = 0 ∨ o = 26) : aN1 (75 + o) = 840 := by rcases ho with rfl | rfl <;> rfl
theorem aN1O_76 {o : Nat} (ho : o = 0 ∨ o = 26) : aN1 (76 + o) = 840 := by rcases ho with rfl | rfl <;> rfl
theorem aN1O_77 {o : Nat} (ho : o = 0 ∨ o = 26) : aN1 (77 + o) = 24 := by rcases ho with rfl | rfl <;> rfl
theorem aN1O_78 {o : Nat} (ho : o = 0 ∨ o = 26) : aN1 (78 + o) = 24 := by rcases ho with rfl | rfl <;> rfl
theorem aN1O_79 {o : Nat} (ho : o = 0 ∨ o = 26) : aN1 (79 + o) = 24 := by rcases ho with rfl | rfl <;> rfl
theorem aN1O_80 {o : Nat} (ho : o = 0 ∨ o = 26) : aN1 (80 + o) = 24 := by rcases ho with rfl | rfl <;> rfl
theorem aN1O_81 {o : Nat} (ho : o = 0 ∨ o = 26) : aN1 (81 + o) = 24 := by rcases ho with rfl | rfl <;> rfl
theorem aN1O_82 {o : Nat} (ho : o = 0 ∨ o = 26) : aN1 (82 + o) = 24 := by rcases ho with rfl | rfl <;> rfl
theorem aN1O_83 {o : Nat} (ho : o = 0 ∨ o = 26) : aN1 (83 + o) = 24 := by rcases ho with rfl | rfl <;> rfl
theorem fcnO_58_0 {o : Nat} (ho : o = 0 ∨ o = 26) : fcn (58 + o) 0 = 59 + o := by rcases ho with rfl | rfl <;> rfl
theorem fcnO_58_1 {o : Nat} (ho : o = 0 ∨ o = 26) : fcn (58 + o) 1 = 66 + o := by rcases ho with rfl | rfl <;> rfl
theorem fcnO_58_3 {o : Nat} (ho : o = 0 ∨ o = 26) : fcn (58 + o) 3 = 74 + o := by rcases ho with rfl | rfl <;> rfl
theorem fcnO_58_4 {o : Nat} (ho : o = 0 ∨ o = 26) : fcn (58 + o) 4 = 75 + o := by rcases ho with rfl | rfl <;> rfl
theorem fcnO_58_5 {o : Nat} (ho : o = 0 ∨ o = 26) : fcn (58 + o) 5 = 76 + o := by rcases ho with rfl | rfl <;> rfl
theorem fcnO_58_7 {o : Nat} (ho : o = 0 ∨ o = 26) : fcn (58 + o) 7 = 77 + o := by rcases ho with rfl | rfl <;> rfl
theorem fcnO_58_8 {o : Nat} (ho : o = 0 ∨ o = 26) : fcn (58 + o) 8 = 78 + o := by rcases ho with rfl | rfl <;> rfl
theorem fcnO_58_9 {o : Nat} (ho : o = 0 ∨ o = 26) : fcn (58 + o) 9 = 79 + o := by rcases ho with rfl | rfl <;> rfl
theorem fcnO_58_11 {o : Nat} (ho : o = 0 ∨ o = 26) : fcn (58 + o) 11 = 80 + o := by rcases ho with rfl | rfl <;> rfl
theorem fcnO_58_12 {o : Nat} (ho : o = 0 ∨ o = 26) : fcn (58 + o) 12 = 81 + o := by rcases ho with rfl | rfl <;> rfl
theorem fcnO_58_13 {o : Nat} (ho : o = 0 ∨ o = 26) : fcn (58 + o) 13 = 82 + o := by rcases ho with rfl | rfl <;> rfl
theorem fcnO_58_14 {o : Nat} (ho : o = 0 ∨ o = 26) : fcn (58 + o) 14 = 83 + o := by rcases ho with rfl | rfl <;> rfl
theorem fcnO_59_0 {o : Nat} (ho : o = 0 ∨ o = 26) : fcn (59 + o) 0 = 60 + o := by rcases ho with rfl | rfl <;> rfl
theorem fcnO_59_1 {o : Nat} (ho : o = 0 ∨ o = 26) : fcn (59 + o) 1 = 61 + o := by rcases ho with rfl | rfl <;> rfl
theorem fcnO_59_2 {o : Nat} (ho : o = 0 ∨ o = 26) : fcn (59 + o) 2 = 62 + o := by rcases ho with rfl | rfl <;> rfl
theorem fcnO_59_3 {o : Nat} (ho : o = 0 ∨ o = 26) : fcn (59 + o) 3 = 63 + o := by rcases ho with rfl | rfl <;> rfl
theorem fcnO_59_4 {o : Nat} (ho : o = 0 ∨ o = 26) : fcn (59 + o) 4 = 64 + o := by rcases ho with rfl | rfl <;> rfl
theorem fcnO_59_5 {o : Nat} (ho : o = 0 ∨ o = 26) : fcn (59 + o) 5 = 65 + o := by rcases ho with rfl | rfl <;> rfl
theorem fcnO_66_0 {o : Nat} (ho : o = 0 ∨ o = 26) : fcn (66 + o) 0 = 67 + o := by rcases ho with rfl | rfl <;> rfl
theorem fcnO_66_1 {o : Nat} (ho : o = 0 ∨ o = 26) : fcn (66 + o) 1 = 68 + o := by rcases ho with rfl | rfl <;> rfl
theorem fcnO_66_2 {o : Nat} (ho : o = 0 ∨ o = 26) : fcn (66 + o) 2 = 69 + o := by rcases ho with rfl | rfl <;> rfl
theorem fcnO_66_3 {o : Nat} (ho : o = 0 ∨ o = 26) : fcn (66 + o) 3 = 70 + o := by rcases ho with rfl | rfl <;> rfl
theorem fcnO_66_4 {o : Nat} (ho : o = 0 ∨ o = 26) : fcn (66 + o) 4 = 71 + o := by rcases ho with rfl | rfl <;> rfl
theorem fcnO_66_5 {o : Nat} (ho : o = 0 ∨ o = 26) : fcn (66 + o) 5 = 72 + o := by rcases ho with rfl | rfl <;> rfl
theorem fcnO_66_6 {o : Nat} (ho : o = 0 ∨ o = 26) : fcn (66 + o) 6 = 73 + o := by rcases ho with rfl | rfl <;> rfl
