/-! A small machine of my own: cells by number, ints as Int, one run function; what it answers, the machine answers (part 'sound'). -/
abbrev AV : Type := Nat × Int
abbrev Mem : Type := Nat → Nat → Int
def aI (z : Int) : AV := (0, z)
def aR (k : Nat) : AV := (1, (k : Int))
def aL (z : Int) : AV := (2, z)
def aD (z : Int) : AV := (3, z)
def aU : AV := (4, 0)
def aJ : AV := (5, 0)
def mu (s : Mem) (k j : Nat) (v : Int) : Mem := fun a b => if a = k ∧ b = j then v else s a b
theorem seal_ex {α : Type} (a : α) : ∃ f : α, f = a := ⟨a, rfl⟩
/-- a definition that nothing looks into but by its row -/
noncomputable def sealZ {α : Type} (a : α) : α := Classical.choose (seal_ex a)
theorem sealZ_eq {α : Type} (a : α) : sealZ a = a := Classical.choose_spec (seal_ex a)
noncomputable def wrap : Int → Int := sealZ (fun x => (x + 2147483648) % 4294967296 - 2147483648)
theorem wrap_def (x : Int) : wrap x = (x + 2147483648) % 4294967296 - 2147483648 := by unfold wrap; rw [sealZ_eq]
def inI (x : Int) : Prop := -2147483648 ≤ x ∧ x ≤ 2147483647
def i32 (x : Int) : Int32 := Int32.ofInt x
noncomputable def iand : Int → Int → Int := sealZ (fun x y => (i32 x &&& i32 y).toInt)
theorem iand_def (x y : Int) : iand x y = (i32 x &&& i32 y).toInt := by unfold iand; rw [sealZ_eq]
noncomputable def ior : Int → Int → Int := sealZ (fun x y => (i32 x ||| i32 y).toInt)
theorem ior_def (x y : Int) : ior x y = (i32 x ||| i32 y).toInt := by unfold ior; rw [sealZ_eq]
noncomputable def ixor : Int → Int → Int := sealZ (fun x y => (i32 x ^^^ i32 y).toInt)
theorem ixor_def (x y : Int) : ixor x y = (i32 x ^^^ i32 y).toInt := by unfold ixor; rw [sealZ_eq]
noncomputable def ishl : Int → Int → Int := sealZ (fun x y => (i32 x <<< (i32 y &&& 31)).toInt)
theorem ishl_def (x y : Int) : ishl x y = (i32 x <<< (i32 y &&& 31)).toInt := by unfold ishl; rw [sealZ_eq]
noncomputable def ishr : Int → Int → Int := sealZ (fun x y => (i32 x >>> (i32 y &&& 31)).toInt)
theorem ishr_def (x y : Int) : ishr x y = (i32 x >>> (i32 y &&& 31)).toInt := by unfold ishr; rw [sealZ_eq]
noncomputable def lushrZ : Int → Int → Int := sealZ (fun x y => ((Int64.ofInt x).toUInt64 >>> ((i32 y).toInt64.toUInt64 &&& Int64.toUInt64 63)).toInt64.toInt)
theorem lushrZ_def (x y : Int) : lushrZ x y = ((Int64.ofInt x).toUInt64 >>> ((i32 y).toInt64.toUInt64 &&& Int64.toUInt64 63)).toInt64.toInt := by unfold lushrZ; rw [sealZ_eq]
noncomputable def lshrZ : Int → Int → Int := sealZ (fun x y => ((Int64.ofInt x) >>> ((i32 y).toInt64 &&& 63)).toInt)
theorem lshrZ_def (x y : Int) : lshrZ x y = ((Int64.ofInt x) >>> ((i32 y).toInt64 &&& 63)).toInt := by unfold lshrZ; rw [sealZ_eq]
noncomputable def i2cZ : Int → Int := sealZ (fun x => x % 65536)
theorem i2cZ_def (x : Int) : i2cZ x = x % 65536 := by unfold i2cZ; rw [sealZ_eq]
noncomputable def l2iZ : Int → Int := sealZ (fun x => (Int64.ofInt x).toInt32.toInt)
theorem l2iZ_def (x : Int) : l2iZ x = (Int64.ofInt x).toInt32.toInt := by unfold l2iZ; rw [sealZ_eq]
/-- a double by its bits -/
def dU (z : Int) : UInt64 := UInt64.ofNat z.toNat
noncomputable def dz0 : Int := sealZ ((FP.dconst0.toNat : Nat) : Int)
theorem dz0_def : dz0 = ((FP.dconst0.toNat : Nat) : Int) := by unfold dz0; rw [sealZ_eq]
noncomputable def i2dZ : Int → Int := sealZ (fun x => (((FP.i2d (i32 x)).toNat : Nat) : Int))
theorem i2dZ_def (x : Int) : i2dZ x = (((FP.i2d (i32 x)).toNat : Nat) : Int) := by unfold i2dZ; rw [sealZ_eq]
noncomputable def ddivZ : Int → Int → Int := sealZ (fun x y => (((FP.ddiv (dU x) (dU y)).toNat : Nat) : Int))
theorem ddivZ_def (x y : Int) : ddivZ x y = (((FP.ddiv (dU x) (dU y)).toNat : Nat) : Int) := by unfold ddivZ; rw [sealZ_eq]
/-- the quotient is a number -/
def dnum (x y : Int) : Prop := vf_n64 (FP.ddiv (dU x) (dU y))
def cpM (s : Mem) (a sp b dp n : Nat) : Mem := fun k j => if k = b ∧ dp ≤ j ∧ j < dp + n then s a (sp + (j - dp)) else s k j
abbrev Res : Type := Nat × AV × Mem
abbrev Cfg : Type := Nat × List AV × List AV × Mem
def nx (pc : Nat) (ls st : List AV) (s : Mem) : Option (Cfg ⊕ Res) := some (.inl (pc, ls, st, s))
def rI (z : Int) (s : Mem) : Option Res := some (1, aI z, s)
def rV (s : Mem) : Option Res := some (0, aU, s)
def rD (z : Int) (s : Mem) : Option Res := some (2, aD z, s)
def rT (e : Nat) (s : Mem) : Option Res := some (10 + e, aU, s)
def pI {α : Type} (st : List AV) (k : Int → List AV → Option α) : Option α := match st with
  | (0, z) :: r => k z r
  | _ => none
def pR {α : Type} (st : List AV) (k : Nat → List AV → Option α) : Option α := match st with
  | (1, z) :: r => if 0 ≤ z then k z.toNat r else none
  | _ => none
def pL {α : Type} (st : List AV) (k : Int → List AV → Option α) : Option α := match st with
  | (2, z) :: r => k z r
  | _ => none
def pD {α : Type} (st : List AV) (k : Int → List AV → Option α) : Option α := match st with
  | (3, z) :: r => k z r
  | _ => none
def gI {α : Type} (ls : List AV) (i : Nat) (k : Int → Option α) : Option α := match ls[i]? with
  | some (0, z) => k z
  | _ => none
def gR {α : Type} (ls : List AV) (i : Nat) (k : AV → Option α) : Option α := match ls[i]? with
  | some (1, z) => k (1, z)
  | _ => none
def gL {α : Type} (ls : List AV) (i : Nat) (k : AV → Option α) : Option α := match ls[i]? with
  | some (2, z) => k (2, z)
  | _ => none
def tg (pc : Nat) (off : Int) : Nat := ((pc : Int) + off).toNat
def stL {α : Type} (lg : Nat) (ls : List AV) (i : Nat) (v : AV) (k : List AV → Option α) : Option α :=
  if i < ls.length ∧ i ≠ lg ∧ i ≠ lg + 1 then k (ls.set i v) else none
-- the tables
def lyt : List (Nat × Nat) := [(0, 0), (1, 200), (1, 220), (1, 220), (1, 220), (1, 220), (1, 120), (1, 120), (1, 120), (1, 120), (1, 4), (1, 4), (1, 440), (1, 440), (1, 440), (1, 440), (1, 440), (1, 440), (1, 440), (1, 440), (1, 1320), (1, 220), (1, 220), (1, 8), (1, 8), (1, 120), (1, 120), (1, 120), (1, 120), (1, 120), (1, 120), (1, 4), (1, 26), (1, 26), (1, 26), (1, 48), (1, 48), (1, 48), (1, 48), (1, 48), (1, 48), (1, 2200), (1, 2200), (1, 2200), (1, 24), (1, 24), (1, 24), (1, 24), (1, 24), (2, 24), (2, 5), (2, 5), (2, 5), (1, 5), (1, 5), (1, 5), (0, 1), (3, 200), (0, 3), (0, 8), (1, 24), (1, 24), (1, 24), (2, 24), (2, 24), (2, 24), (0, 6), (1, 225), (1, 225), (1, 225), (1, 225), (1, 225), (1, 225), (1, 225), (1, 840), (1, 840), (1, 840), (1, 24), (1, 24), (1, 24), (1, 24), (1, 24), (1, 24), (1, 24), (0, 3), (0, 8), (1, 24), (1, 24), (1, 24), (2, 24), (2, 24), (2, 24), (0, 6), (1, 225), (1, 225), (1, 225), (1, 225), (1, 225), (1, 225), (1, 225), (1, 840), (1, 840), (1, 840), (1, 24), (1, 24), (1, 24), (1, 24), (1, 24), (1, 24), (1, 24), (0, 11), (1, 201), (1, 201), (1, 201), (0, 12), (1, 201), (1, 201), (1, 201), (1, 201), (1, 200), (2, 200), (1, 200), (1, 200), (1, 200), (0, 10), (1, 200), (1, 200), (1, 200), (1, 200), (1, 200), (0, 4), (0, 7), (2, 3), (0, 2), (1, 26), (1, 26), (0, 9), (0, 5), (1, 1065), (1, 24), (4, 3), (1, 24), (1, 24), (1, 24), (4, 3), (1, 24), (1, 24), (1, 24), (1, 3), (1, 3), (1, 24)]
def fkt : List (List Nat) := [[3, 0, 0, 0, 0, 1, 3, 3, 3, 3, 3, 3, 3, 3, 3, 3, 0, 0, 0, 3, 3, 3, 3, 3, 3, 3, 3, 3, 3, 3, 3, 3, 0, 3, 3, 3, 3, 3, 3, 3, 0, 3, 3, 3, 3, 3, 3, 3, 3, 3, 0, 0, 0, 0, 3, 3, 3, 0, 0, 3, 3, 3, 3, 3, 3, 3, 3, 3, 3, 3, 3, 0, 0, 0, 0, 1], [3, 0, 0, 1, 2, 2, 3, 3, 3, 3, 3], [3, 3, 3, 3, 3, 2, 2], [3, 3, 0, 3, 3, 3, 0, 3, 3, 3, 0, 3, 3, 3, 3, 0], [3, 3], [3, 3, 3, 3, 3, 3, 3, 3, 3, 0, 0], [3, 3, 3, 3, 3, 3, 3, 0], [3, 3, 3, 2, 0, 0, 0, 3], [3, 3, 3, 3, 3, 3, 0], [3, 3], [3, 3, 3, 3, 0, 3, 0], [3, 3, 3, 0], [3, 3, 3, 3, 0, 3, 3, 3, 3, 3, 0]]
def fct : List (Nat × List Nat) := [(0, [1, 0, 0, 0, 0, 0, 2, 3, 4, 5, 6, 7, 8, 9, 10, 11, 0, 0, 0, 12, 13, 14, 15, 16, 17, 18, 19, 20, 21, 22, 23, 24, 0, 25, 26, 27, 28, 29, 30, 31, 0, 32, 33, 34, 35, 36, 37, 38, 39, 40, 0, 0, 0, 0, 41, 42, 43, 0, 0, 44, 45, 46, 47, 48, 49, 50, 51, 52, 53, 54, 55, 0, 0, 0, 0, 0]), (56, [57, 0, 0, 0, 0, 0, 110, 131, 133, 136, 137]), (58, [59, 66, 0, 74, 75, 76, 0, 77, 78, 79, 0, 80, 81, 82, 83, 0]), (59, [60, 61, 62, 63, 64, 65, 0]), (66, [67, 68, 69, 70, 71, 72, 73, 0]), (84, [85, 92, 0, 100, 101, 102, 0, 103, 104, 105, 0, 106, 107, 108, 109, 0]), (85, [86, 87, 88, 89, 90, 91, 0]), (92, [93, 94, 95, 96, 97, 98, 99, 0]), (110, [111, 112, 113, 0]), (114, [115, 116, 117, 118, 0, 119, 120, 121, 122, 123, 0]), (124, [125, 126, 127, 128, 0, 129, 0]), (130, [114, 124]), (131, [110, 114, 124, 0, 0, 0, 0, 132]), (133, [114, 124, 130, 134, 135, 0, 0]), (136, [124, 130]), (137, [124, 130, 138, 139, 140, 144, 148, 149, 150, 0, 0])]
def rct : List (Nat × List Nat) := [(140, [141, 142, 143]), (144, [145, 146, 147])]
def pft : List (List (Nat × (Nat × Nat))) := [[(7, (0, 0)), (13, (0, 3)), (17, (0, 6)), (20, (0, 7)), (23, (0, 8)), (26, (0, 9)), (29, (0, 10)), (32, (0, 11)), (35, (0, 12)), (38, (0, 13)), (41, (0, 14)), (44, (0, 15)), (47, (0, 19)), (50, (0, 20)), (53, (0, 21)), (56, (0, 22)), (59, (0, 23)), (62, (0, 24)), (65, (0, 25)), (68, (0, 26)), (71, (0, 27)), (74, (0, 28)), (77, (0, 29)), (80, (0, 30)), (83, (0, 31)), (86, (0, 33)), (89, (0, 34)), (92, (0, 35)), (95, (0, 36)), (98, (0, 37)), (101, (0, 38)), (104, (0, 39)), (107, (0, 41)), (110, (0, 42)), (113, (0, 43)), (116, (0, 44)), (119, (0, 45)), (122, (0, 46)), (125, (0, 47)), (128, (0, 48)), (131, (0, 49)), (134, (0, 54)), (137, (0, 55)), (140, (0, 56)), (143, (0, 59)), (146, (0, 60)), (149, (0, 61)), (152, (0, 62)), (155, (0, 63)), (158, (0, 64)), (162, (0, 65)), (165, (0, 66)), (168, (0, 67)), (171, (0, 68)), (174, (0, 69)), (177, (0, 70)), (180, (0, 4)), (191, (0, 1)), (194, (0, 5)), (198, (0, 2)), (220, (0, 16)), (226, (0, 18)), (232, (0, 17)), (246, (0, 32)), (268, (0, 40)), (287, (0, 51)), (290, (0, 52)), (293, (0, 53)), (303, (0, 50)), (313, (0, 57)), (322, (0, 58)), (347, (0, 71)), (350, (0, 72)), (353, (0, 73)), (356, (0, 74)), (359, (0, 75))], [(9, (1, 0)), (13, (1, 1)), (17, (1, 2)), (20, (1, 3)), (27, (1, 4)), (31, (1, 5)), (37, (1, 6)), (57, (1, 7)), (66, (1, 8)), (75, (1, 9)), (82, (1, 10)), (106, (3, 1)), (154, (3, 0)), (158, (8, 6)), (174, (8, 0)), (178, (8, 2)), (181, (8, 4)), (185, (8, 1)), (188, (3, 8)), (200, (3, 11)), (210, (3, 15)), (213, (3, 12)), (225, (3, 2))], [(9, (2, 3)), (15, (2, 4)), (18, (2, 0)), (22, (2, 1)), (26, (2, 2)), (30, (3, 0)), (36, (2, 5)), (37, (3, 1)), (41, (2, 6)), (42, (8, 6)), (48, (3, 2)), (57, (10, 4)), (64, (10, 1)), (67, (10, 0)), (80, (10, 2)), (83, (10, 3)), (99, (12, 3)), (119, (12, 4)), (120, (12, 0)), (123, (12, 2)), (126, (12, 1)), (132, (12, 10)), (135, (12, 7)), (138, (12, 6)), (142, (12, 9)), (145, (6, 4)), (150, (6, 0)), (159, (6, 2)), (165, (8, 4)), (172, (6, 3)), (173, (6, 1)), (174, (10, 5)), (184, (12, 8))], [(12, (3, 0)), (21, (3, 1)), (25, (3, 3)), (29, (3, 4)), (32, (3, 5)), (35, (3, 7)), (38, (3, 8)), (41, (3, 9)), (44, (3, 11)), (47, (3, 12)), (50, (3, 13)), (53, (3, 14)), (56, (8, 6)), (60, (3, 6)), (63, (3, 15)), (82, (8, 0)), (85, (3, 10)), (96, (8, 2))], [(9, (4, 0)), (15, (4, 1)), (19, (12, 3)), (25, (3, 1)), (31, (6, 2)), (36, (10, 2)), (45, (10, 3)), (48, (6, 1)), (49, (6, 0)), (52, (6, 3)), (53, (3, 0)), (57, (8, 3))], [(9, (5, 2)), (15, (5, 3)), (20, (5, 4)), (23, (5, 5)), (26, (5, 6)), (29, (5, 7)), (32, (5, 8)), (35, (5, 0)), (39, (5, 1)), (43, (3, 1)), (57, (10, 4)), (63, (10, 0)), (70, (3, 7)), (73, (10, 2)), (76, (10, 3)), (93, (6, 7)), (96, (6, 0)), (103, (6, 1)), (104, (6, 2)), (107, (6, 3)), (108, (5, 9)), (111, (5, 10)), (114, (3, 6)), (117, (3, 0)), (121, (8, 6)), (124, (8, 0)), (148, (8, 4)), (152, (3, 8))], [(9, (6, 0)), (15, (6, 1)), (18, (6, 2)), (21, (6, 3)), (24, (6, 4)), (27, (6, 5)), (30, (6, 6)), (33, (6, 7))], [(9, (7, 7)), (15, (7, 0)), (19, (7, 1)), (23, (7, 2)), (31, (7, 5)), (35, (7, 6)), (57, (7, 3)), (72, (7, 4)), (78, (11, 1)), (127, (12, 9)), (151, (10, 6)), (161, (11, 0)), (163, (11, 2))], [(9, (8, 0)), (15, (8, 1)), (18, (8, 2)), (21, (8, 3)), (25, (8, 4)), (28, (8, 5)), (31, (8, 6))], [(9, (9, 0)), (15, (9, 1)), (19, (3, 0)), (25, (8, 2)), (31, (3, 1)), (45, (8, 6)), (49, (10, 4)), (52, (10, 0)), (55, (10, 2)), (58, (10, 3)), (79, (8, 5)), (86, (6, 5))], [(9, (10, 0)), (15, (10, 1)), (18, (10, 2)), (21, (10, 3)), (24, (10, 5)), (27, (10, 4)), (31, (10, 6))], [(9, (11, 0)), (15, (11, 1)), (18, (11, 2)), (21, (11, 3))], [(9, (12, 0)), (15, (12, 1)), (18, (12, 2)), (21, (12, 3)), (24, (12, 5)), (27, (12, 6)), (31, (12, 7)), (34, (12, 8)), (37, (12, 9)), (40, (12, 4)), (44, (12, 10))], [], []]
def pmt : List (List (Nat × Nat)) := [[(183, 1), (187, 2), (201, 6), (204, 7), (208, 5), (212, 10), (216, 9), (223, 11), (229, 8), (235, 12), (239, 13), (243, 14), (249, 16), (252, 18), (255, 19), (258, 17), (261, 20), (265, 21), (271, 23), (274, 22), (277, 15), (280, 25), (283, 24), (296, 27), (299, 28), (306, 29), (309, 30), (316, 32), (319, 33), (325, 34), (329, 31), (332, 35), (335, 37), (338, 38), (341, 39), (344, 42), (362, 26), (365, 36), (368, 40), (371, 41), (374, 43), (377, 44), (380, 45), (383, 51), (386, 48), (389, 49), (392, 50), (395, 56)], [(86, 75), (102, 157), (110, 123), (116, 77), (125, 149), (131, 102), (135, 110), (143, 111), (151, 92), (165, 90), (191, 145), (196, 96), (207, 97), (218, 146), (222, 147), (228, 148)], [(51, 63), (60, 78), (70, 88), (74, 98), (86, 87), (90, 85), (93, 80), (96, 79), (104, 81), (107, 82), (111, 83), (115, 143), (129, 84), (153, 89), (156, 86), (162, 168), (168, 99), (177, 156), (180, 167)], [(66, 63), (72, 93), (75, 94), (78, 145), (88, 95), (92, 120), (99, 76), (102, 60)], [(41, 101)], [(49, 103), (53, 104), (66, 105), (79, 106), (83, 107), (86, 108), (89, 109), (99, 116), (125, 98), (131, 99), (135, 100), (138, 60), (144, 91), (153, 145)], [(37, 115), (41, 118), (45, 119), (49, 61), (55, 121), (58, 76), (61, 122)], [(27, 124), (38, 138), (42, 128), (45, 129), (48, 125), (51, 126), (54, 127), (61, 112), (66, 161), (69, 153), (75, 142), (84, 139), (87, 141), (91, 130), (95, 154), (99, 135), (102, 137), (105, 131), (108, 133), (111, 132), (114, 162), (117, 140), (121, 163), (124, 134), (130, 164), (133, 166), (138, 113), (142, 116), (145, 136), (148, 114), (154, 156), (157, 155)], [(35, 144)], [(35, 117), (41, 150), (61, 152), (65, 151), (69, 98), (75, 99), (83, 100)], [], [(25, 160), (29, 159), (33, 158), (37, 62)], [(47, 162), (51, 165), (55, 62), (61, 169), (65, 170)], [], []]
def pct : List (List (Nat × Int)) := [[(219, 65535)], [], [], [], [], [(92, 16777216)], [], [(137, 65535)], [], [], [], [(36, 65536), (43, 65535)], [], [], []]
def pxt : List (List (Nat × Nat)) := [[], [(90, 1), (97, 3), (120, 2), (138, 4), (146, 5), (169, 6)], [], [], [], [], [], [], [], [], [], [], [], [], []]
def mtt : List (Nat × Nat × Nat × Nat × Nat × Nat) := [(0, 1, 1, 1, 99, 0), (0, 3, 3, 2, 99, 1), (0, 2, 2, 1, 99, 0), (0, 2, 7, 1, 1, 0), (0, 1, 2, 1, 99, 0), (0, 2, 2, 0, 99, 0), (0, 2, 2, 1, 99, 0), (0, 1, 1, 1, 99, 0), (0, 2, 2, 0, 99, 0), (0, 1, 1, 2, 99, 1), (0, 1, 1, 2, 99, 1), (0, 1, 2, 1, 99, 0), (0, 3, 7, 1, 99, 0), (0, 5, 5, 1, 99, 0), (0, 1, 4, 0, 99, 0), (0, 1, 4, 1, 99, 0), (0, 2, 2, 1, 99, 0), (0, 1, 4, 1, 99, 0), (0, 1, 1, 2, 99, 1), (0, 2, 2, 1, 99, 0), (0, 4, 4, 0, 99, 0), (0, 2, 4, 0, 99, 0), (0, 1, 7, 1, 99, 0), (0, 3, 3, 1, 99, 0), (0, 3, 4, 0, 99, 0), (0, 2, 3, 0, 99, 0), (0, 1, 5, 0, 99, 0), (0, 2, 6, 2, 99, 0), (0, 1, 1, 2, 99, 0), (0, 2, 4, 2, 99, 0), (0, 4, 8, 1, 99, 0), (0, 2, 6, 2, 99, 0), (0, 2, 2, 2, 99, 0), (0, 4, 4, 0, 99, 0), (0, 3, 9, 2, 99, 0), (0, 2, 13, 2, 99, 0), (0, 1, 3, 1, 99, 0), (0, 1, 2, 1, 99, 1), (0, 2, 2, 1, 99, 1), (0, 2, 5, 1, 99, 0), (0, 1, 5, 2, 99, 0), (0, 2, 5, 2, 99, 0), (0, 2, 4, 1, 99, 0), (0, 2, 6, 1, 99, 0), (0, 1, 5, 1, 99, 0), (0, 1, 3, 0, 99, 0), (0, 1, 5, 1, 99, 0), (0, 1, 1, 1, 99, 0), (0, 1, 1, 1, 99, 1), (0, 2, 9, 1, 99, 0), (0, 2, 6, 1, 99, 0), (0, 1, 5, 0, 99, 0), (0, 3, 4, 1, 99, 0), (0, 2, 2, 1, 99, 0), (0, 3, 4, 1, 99, 0), (0, 2, 2, 1, 99, 0), (0, 1, 2, 0, 99, 0), (0, 2, 3, 1, 99, 0), (0, 2, 2, 3, 99, 0), (0, 2, 6, 1, 99, 0), (0, 0, 0, 9, 99, 1), (0, 0, 0, 9, 99, 1), (0, 0, 0, 9, 99, 1), (13, 2, 4, 0, 99, 1), (1, 2, 6, 1, 1, 0), (1, 1, 2, 1, 99, 0), (1, 1, 2, 1, 99, 0), (1, 1, 1, 1, 99, 0), (1, 3, 4, 1, 99, 0), (1, 2, 2, 1, 99, 0), (1, 3, 3, 1, 99, 0), (1, 2, 2, 1, 99, 0), (1, 2, 3, 1, 99, 0), (1, 2, 2, 3, 99, 0), (1, 2, 2, 1, 99, 0), (1, 1, 5, 1, 0, 1), (1, 1, 1, 1, 99, 1), (2, 2, 3, 1, 99, 0), (2, 2, 2, 2, 99, 0), (2, 2, 4, 2, 99, 0), (2, 2, 3, 2, 99, 0), (2, 3, 3, 2, 99, 0), (2, 1, 1, 1, 99, 1), (2, 6, 9, 0, 99, 0), (2, 6, 8, 0, 99, 0), (2, 2, 3, 2, 99, 0), (2, 2, 2, 2, 99, 0), (2, 3, 3, 2, 99, 0), (2, 3, 5, 2, 99, 0), (2, 2, 10, 2, 99, 0), (3, 2, 2, 2, 99, 0), (3, 4, 5, 1, 99, 0), (3, 1, 1, 0, 99, 0), (3, 1, 4, 0, 99, 0), (3, 1, 2, 0, 99, 0), (3, 2, 6, 1, 99, 0), (3, 3, 4, 1, 99, 0), (3, 1, 2, 0, 99, 0), (4, 3, 3, 1, 99, 0), (4, 4, 5, 1, 99, 0), (4, 4, 5, 1, 99, 0), (4, 4, 6, 2, 99, 0), (5, 2, 3, 0, 99, 0), (5, 2, 5, 0, 99, 0), (5, 2, 4, 0, 99, 0), (5, 3, 6, 0, 99, 0), (5, 2, 2, 0, 99, 0), (5, 1, 1, 0, 99, 0), (5, 2, 5, 0, 99, 0), (5, 2, 3, 0, 99, 0), (5, 2, 3, 1, 99, 0), (5, 2, 5, 1, 99, 0), (6, 1, 1, 0, 99, 0), (6, 5, 6, 1, 99, 0), (6, 5, 6, 1, 99, 0), (6, 5, 6, 1, 99, 0), (6, 1, 1, 1, 99, 1), (6, 2, 3, 2, 99, 0), (6, 3, 3, 1, 99, 0), (6, 1, 2, 1, 99, 1), (6, 3, 4, 1, 99, 0), (6, 3, 5, 1, 99, 0), (6, 4, 4, 1, 99, 0), (7, 2, 3, 1, 99, 0), (7, 2, 2, 0, 99, 0), (7, 1, 5, 0, 99, 0), (7, 1, 4, 0, 99, 0), (7, 1, 4, 0, 99, 0), (7, 1, 3, 0, 99, 0), (7, 1, 2, 0, 99, 0), (7, 2, 4, 1, 99, 0), (7, 1, 2, 1, 99, 0), (7, 2, 3, 1, 99, 0), (7, 2, 6, 1, 99, 0), (7, 2, 5, 1, 99, 0), (7, 2, 3, 1, 99, 0), (7, 3, 7, 1, 99, 0), (7, 1, 6, 1, 99, 0), (7, 1, 1, 1, 99, 0), (7, 1, 2, 1, 99, 0), (7, 3, 4, 1, 99, 0), (7, 2, 2, 2, 99, 0), (7, 1, 1, 1, 99, 0), (8, 5, 5, 0, 99, 0), (8, 2, 2, 2, 99, 1), (8, 2, 2, 2, 99, 0), (8, 1, 3, 1, 99, 0), (8, 1, 3, 1, 99, 0), (8, 1, 3, 1, 99, 0), (9, 2, 5, 2, 99, 0), (9, 2, 4, 2, 99, 0), (9, 3, 7, 2, 99, 0), (9, 3, 5, 2, 99, 1), (10, 1, 1, 0, 99, 0), (10, 5, 5, 0, 99, 0), (10, 2, 2, 0, 99, 0), (10, 1, 1, 1, 99, 1), (11, 3, 6, 0, 99, 0), (11, 3, 3, 0, 99, 0), (11, 3, 4, 0, 99, 0), (11, 1, 1, 2, 99, 1), (12, 1, 1, 0, 99, 0), (12, 2, 2, 1, 99, 0), (12, 3, 3, 1, 99, 0), (12, 2, 5, 1, 99, 0), (12, 5, 6, 1, 99, 0), (12, 4, 5, 1, 99, 0), (12, 3, 5, 1, 99, 0), (12, 3, 3, 2, 99, 0), (12, 4, 7, 2, 99, 0), (12, 4, 7, 2, 99, 0)]
def mbt : List ByteArray := [prog_14_method_2_code, prog_14_method_3_code, prog_14_method_4_code, prog_14_method_5_code, prog_14_method_6_code, prog_14_method_7_code, prog_14_method_8_code, prog_14_method_9_code, prog_14_method_10_code, prog_14_method_11_code, prog_14_method_12_code, prog_14_method_13_code, prog_14_method_14_code, prog_14_method_15_code, prog_14_method_16_code, prog_14_method_17_code, prog_14_method_18_code, prog_14_method_19_code, prog_14_method_20_code, prog_14_method_21_code, prog_14_method_22_code, prog_14_method_23_code, prog_14_method_24_code, prog_14_method_25_code, prog_14_method_26_code, prog_14_method_27_code, prog_14_method_28_code, prog_14_method_29_code, prog_14_method_30_code, prog_14_method_31_code, prog_14_method_32_code, prog_14_method_33_code, prog_14_method_34_code, prog_14_method_35_code, prog_14_method_36_code, prog_14_method_37_code, prog_14_method_38_code, prog_14_method_39_code, prog_14_method_40_code, prog_14_method_41_code, prog_14_method_42_code, prog_14_method_43_code, prog_14_method_44_code, prog_14_method_45_code, prog_14_method_46_code, prog_14_method_47_code, prog_14_method_48_code, prog_14_method_49_code, prog_14_method_50_code, prog_14_method_51_code, prog_14_method_52_code, prog_14_method_53_code, prog_14_method_54_code, prog_14_method_55_code, prog_14_method_56_code, prog_14_method_57_code, prog_14_method_58_code, prog_14_method_59_code, prog_14_method_60_code, prog_14_method_61_code, ByteArray.empty, ByteArray.empty, ByteArray.empty, prog_26_method_103_code, prog_1_method_2_code, prog_1_method_3_code, prog_1_method_4_code, prog_1_method_5_code, prog_1_method_6_code, prog_1_method_7_code, prog_1_method_8_code, prog_1_method_9_code, prog_1_method_10_code, prog_1_method_11_code, prog_1_method_12_code, prog_1_method_13_code, prog_1_method_14_code, prog_2_method_2_code, prog_2_method_3_code, prog_2_method_4_code, prog_2_method_5_code, prog_2_method_6_code, prog_2_method_7_code, prog_2_method_8_code, prog_2_method_9_code, prog_2_method_10_code, prog_2_method_11_code, prog_2_method_12_code, prog_2_method_13_code, prog_2_method_14_code, prog_3_method_2_code, prog_3_method_3_code, prog_3_method_4_code, prog_3_method_5_code, prog_3_method_6_code, prog_3_method_7_code, prog_3_method_8_code, prog_3_method_9_code, prog_4_method_2_code, prog_4_method_3_code, prog_4_method_4_code, prog_4_method_5_code, prog_5_method_2_code, prog_5_method_3_code, prog_5_method_4_code, prog_5_method_5_code, prog_5_method_6_code, prog_5_method_7_code, prog_5_method_8_code, prog_5_method_9_code, prog_5_method_10_code, prog_5_method_11_code, prog_6_method_2_code, prog_6_method_3_code, prog_6_method_4_code, prog_6_method_5_code, prog_6_method_6_code, prog_6_method_7_code, prog_6_method_8_code, prog_6_method_9_code, prog_6_method_10_code, prog_6_method_11_code, prog_6_method_12_code, prog_7_method_2_code, prog_7_method_3_code, prog_7_method_4_code, prog_7_method_5_code, prog_7_method_6_code, prog_7_method_7_code, prog_7_method_8_code, prog_7_method_9_code, prog_7_method_10_code, prog_7_method_11_code, prog_7_method_12_code, prog_7_method_13_code, prog_7_method_14_code, prog_7_method_15_code, prog_7_method_16_code, prog_7_method_17_code, prog_7_method_18_code, prog_7_method_19_code, prog_7_method_20_code, prog_7_method_21_code, prog_8_method_2_code, prog_8_method_3_code, prog_8_method_4_code, prog_8_method_5_code, prog_8_method_6_code, prog_8_method_7_code, prog_9_method_2_code, prog_9_method_3_code, prog_9_method_4_code, prog_9_method_5_code, prog_10_method_2_code, prog_10_method_3_code, prog_10_method_4_code, prog_10_method_5_code, prog_11_method_2_code, prog_11_method_3_code, prog_11_method_4_code, prog_11_method_5_code, prog_12_method_2_code, prog_12_method_3_code, prog_12_method_4_code, prog_12_method_5_code, prog_12_method_6_code, prog_12_method_7_code, prog_12_method_8_code, prog_12_method_9_code, prog_12_method_10_code, prog_12_method_11_code]
def mB (y : Nat) : ByteArray := mbt.getD y ByteArray.empty
def kd (r : Nat) : Nat × Nat := lyt.getD r (9, 0)
/-- how long an array of ints (booleans, chars, references) is; 0 if it is none -/
def aN1 (r : Nat) : Int := if (kd r).1 = 1 then ((kd r).2 : Int) else 0
def aN2 (r : Nat) : Int := if (kd r).1 = 2 then ((kd r).2 : Int) else 0
def aN3 (r : Nat) : Int := if (kd r).1 = 3 then ((kd r).2 : Int) else 0
def aN4 (r : Nat) : Int := if (kd r).1 = 4 then ((kd r).2 : Int) else 0
/-- an object's class -/
def obC (r : Nat) : Nat := if (kd r).1 = 0 then (kd r).2 else 999
def fkd (ci k : Nat) : Nat := (fkt.getD ci []).getD k 9
def fcn (r k : Nat) : Nat := ((fct.lookup r).getD []).getD k 0
def rcn (r i : Nat) : Nat := ((rct.lookup r).getD []).getD i 0
def fldV (ci k r : Nat) (s : Mem) : Option AV := match fkd ci k with
  | 0 => some (aI (s r k))
  | 1 => some (aI (s r k))
  | 2 => if 0 ≤ s r k then some (1, s r k) else none
  | 3 => some (aR (fcn r k))
  | _ => none
def pfl (cls idx : Nat) : Option (Nat × Nat) := (pft.getD cls []).lookup idx
def pml (cls idx : Nat) : Option Nat := (pmt.getD cls []).lookup idx
def pcl (cls idx : Nat) : Option Int := (pct.getD cls []).lookup idx
def pxl (cls idx : Nat) : Option Nat := (pxt.getD cls []).lookup idx
/-- a method: its class, how many arguments (with 'this'), its locals, its answer (0 none, 1 int, 2 boolean, 3 double), the place of its long, static or not -/
def mth (y : Nat) : Nat × Nat × Nat × Nat × Nat × Nat := mtt.getD y (0, 0, 0, 9, 99, 0)
def mC (y : Nat) : Nat := (mth y).1
def mNa (y : Nat) : Nat := (mth y).2.1
def mL (y : Nat) : Nat := (mth y).2.2.1
def mRt (y : Nat) : Nat := (mth y).2.2.2.1
def mLg (y : Nat) : Nat := (mth y).2.2.2.2.1
def mSt (y : Nat) : Nat := (mth y).2.2.2.2.2
def flat (as : List AV) : List AV := as.flatMap (fun a => if a.1 = 2 then [a, aU] else [a])
def entry (y : Nat) (as : List AV) : List AV := flat as ++ List.replicate (mL y - (flat as).length) aU
def doCall (C : Nat → List AV → Mem → Option Res) (j : Nat) (pc : Nat) (ls as st : List AV) (s : Mem) : Option (Cfg ⊕ Res) :=
  if st.length ≤ 4 then
    if mRt j = 0 then match C j as s with
      | some (0, _, s') => nx (pc + 3) ls st s'
      | _ => none
    else match C j as s with
      | some (1, (0, z), s') => nx (pc + 3) ls (aI z :: st) s'
      | _ => none
  else none
def recv (as : List AV) : Nat := match as.getLast? with
  | some (1, z) => if 0 ≤ z then obC z.toNat else 999
  | _ => 999
noncomputable def stepZ (C : Nat → List AV → Mem → Option Res) (y : Nat) (i : Instr) (len pc : Nat) (ls st : List AV) (s : Mem) : Option (Cfg ⊕ Res) :=
  match i with
  | .iconst n => nx (pc + 1) ls (aI (i32 n).toInt :: st) s
  | .bipush n => nx (pc + 2) ls (aI (Int8.ofInt n).toInt :: st) s
  | .sipush n => nx (pc + 3) ls (aI (Int16.ofInt n).toInt :: st) s
  | .ldc idx => match pcl (mC y) idx with
    | some v => nx (pc + 2) ls (aI v :: st) s
    | none => none
  | .iload_n k => gI ls k fun z => nx (pc + 1) ls (aI z :: st) s
  | .iload k => gI ls k fun z => nx (pc + 2) ls (aI z :: st) s
  | .aload_n k => gR ls k fun v => nx (pc + 1) ls (v :: st) s
  | .aload k => gR ls k fun v => nx (pc + 2) ls (v :: st) s
  | .lload_n k => gL ls k fun v => nx (pc + 1) ls (v :: st) s
  | .istore_n k => pI st fun z st => stL (mLg y) ls k (aI z) fun ls => nx (pc + 1) ls st s
  | .istore k => pI st fun z st => stL (mLg y) ls k (aI z) fun ls => nx (pc + 2) ls st s
  | .astore_n k => pR st fun r st => stL (mLg y) ls k (aR r) fun ls => nx (pc + 1) ls st s
  | .iinc k n => gI ls k fun z => stL (mLg y) ls k (aI (wrap (z + n))) fun ls => nx (pc + 3) ls st s
  | .iadd => pI st fun b st => pI st fun a st => nx (pc + 1) ls (aI (wrap (a + b)) :: st) s
  | .isub => pI st fun b st => pI st fun a st => nx (pc + 1) ls (aI (wrap (a - b)) :: st) s
  | .imul => pI st fun b st => pI st fun a st => nx (pc + 1) ls (aI (wrap (a * b)) :: st) s
  | .irem => pI st fun b st => pI st fun a st => if 0 ≤ a ∧ 0 < b then nx (pc + 1) ls (aI (a % b) :: st) s else none
  | .iand => pI st fun b st => pI st fun a st => nx (pc + 1) ls (aI (iand a b) :: st) s
  | .ior => pI st fun b st => pI st fun a st => nx (pc + 1) ls (aI (ior a b) :: st) s
  | .ixor => pI st fun b st => pI st fun a st => nx (pc + 1) ls (aI (ixor a b) :: st) s
  | .ishl => pI st fun b st => pI st fun a st => nx (pc + 1) ls (aI (ishl a b) :: st) s
  | .ishr => pI st fun b st => pI st fun a st => nx (pc + 1) ls (aI (ishr a b) :: st) s
  | .lushr => pI st fun b st => pL st fun a st => nx (pc + 1) ls (aL (lushrZ a b) :: st) s
  | .lshr => pI st fun b st => pL st fun a st => nx (pc + 1) ls (aL (lshrZ a b) :: st) s
  | .l2i => pL st fun a st => nx (pc + 1) ls (aI (l2iZ a) :: st) s
  | .i2c => pI st fun a st => nx (pc + 1) ls (aI (i2cZ a) :: st) s
  | .dconst 0 => nx (pc + 1) ls (aD dz0 :: st) s
  | .i2d => pI st fun a st => nx (pc + 1) ls (aD (i2dZ a) :: st) s
  | .ddiv => pD st fun b st => pD st fun a st => @ite _ (dnum a b) (Classical.propDecidable _) (nx (pc + 1) ls (aD (ddivZ a b) :: st) s) none
  | .pop => pI st fun _ st => nx (pc + 1) ls st s
  | .dup => match st with
    | (0, z) :: r => nx (pc + 1) ls ((0, z) :: (0, z) :: r) s
    | (1, z) :: r => nx (pc + 1) ls ((1, z) :: (1, z) :: r) s
    | _ => none
  | .dup2 => match st with
    | (0, z) :: (1, w) :: r => nx (pc + 1) ls ((0, z) :: (1, w) :: (0, z) :: (1, w) :: r) s
    | _ => none
  | .goto o => nx (tg pc o) ls st s
  | .ifCond .eq o => pI st fun a st => if a = 0 then nx (tg pc o) ls st s else nx (pc + 3) ls st s
  | .ifCond .ne o => pI st fun a st => if a = 0 then nx (pc + 3) ls st s else nx (tg pc o) ls st s
  | .ifCond .lt o => pI st fun a st => if a < 0 then nx (tg pc o) ls st s else nx (pc + 3) ls st s
  | .ifCond .ge o => pI st fun a st => if a < 0 then nx (pc + 3) ls st s else nx (tg pc o) ls st s
  | .ifCond .gt o => pI st fun a st => if 0 < a then nx (tg pc o) ls st s else nx (pc + 3) ls st s
  | .ifCond .le o => pI st fun a st => if 0 < a then nx (pc + 3) ls st s else nx (tg pc o) ls st s
  | .if_icmp .eq o => pI st fun b st => pI st fun a st => if a = b then nx (tg pc o) ls st s else nx (pc + 3) ls st s
  | .if_icmp .ne o => pI st fun b st => pI st fun a st => if a = b then nx (pc + 3) ls st s else nx (tg pc o) ls st s
  | .if_icmp .lt o => pI st fun b st => pI st fun a st => if a < b then nx (tg pc o) ls st s else nx (pc + 3) ls st s
  | .if_icmp .ge o => pI st fun b st => pI st fun a st => if a < b then nx (pc + 3) ls st s else nx (tg pc o) ls st s
  | .if_icmp .gt o => pI st fun b st => pI st fun a st => if b < a then nx (tg pc o) ls st s else nx (pc + 3) ls st s
  | .if_icmp .le o => pI st fun b st => pI st fun a st => if b < a then nx (pc + 3) ls st s else nx (tg pc o) ls st s
  | .tableswitch d lo hi offs => pI st fun a st => if a < lo ∨ hi < a then nx (tg pc d) ls st s else
      match offs[(a - lo).toNat]? with
      | some o => nx (tg pc o) ls st s
      | none => none
  | .lookupswitch d ps => pI st fun a st => nx (tg pc (Op.lookupswitch.offset ps.toList d a)) ls st s
  | .arraylength => pR st fun r st => if (kd r).1 = 1 then nx (pc + 1) ls (aI ((kd r).2 : Int) :: st) s else none
  | .iaload => pI st fun i st => pR st fun r st => if 0 ≤ i ∧ i < aN1 r then nx (pc + 1) ls (aI (s r i.toNat) :: st) s else none
  | .baload => pI st fun i st => pR st fun r st => if 0 ≤ i ∧ i < aN2 r then nx (pc + 1) ls (aI (s r i.toNat) :: st) s else none
  | .caload => pI st fun i st => pR st fun r st => if 0 ≤ i ∧ i < aN3 r then nx (pc + 1) ls (aI (s r i.toNat) :: st) s else none
  | .aaload => pI st fun i st => pR st fun r st => if 0 ≤ i ∧ i < aN4 r then nx (pc + 1) ls (aR (rcn r i.toNat) :: st) s else none
  | .iastore => pI st fun v st => pI st fun i st => pR st fun r st => if 0 ≤ i ∧ i < aN1 r then nx (pc + 1) ls st (mu s r i.toNat v) else none
  | .bastore => pI st fun v st => pI st fun i st => pR st fun r st => if 0 ≤ i ∧ i < aN2 r ∧ (v = 0 ∨ v = 1) then nx (pc + 1) ls st (mu s r i.toNat v) else none
  | .castore => pI st fun v st => pI st fun i st => pR st fun r st => if 0 ≤ i ∧ i < aN3 r ∧ 0 ≤ v ∧ v < 65536 then nx (pc + 1) ls st (mu s r i.toNat v) else none
  | .getfield idx => pR st fun r st => match pfl (mC y) idx with
    | some (ci, k) => if obC r = ci then
        match fldV ci k r s with
        | some v => nx (pc + 3) ls (v :: st) s
        | none => none
      else none
    | none => none
  | .putfield idx => match pfl (mC y) idx with
    | some (ci, k) => match fkd ci k with
      | 0 => pI st fun v st => pR st fun r st => if obC r = ci then nx (pc + 3) ls st (mu s r k v) else none
      | 1 => pI st fun v st => pR st fun r st => if obC r = ci ∧ (v = 0 ∨ v = 1) then nx (pc + 3) ls st (mu s r k v) else none
      | 2 => pR st fun v st => pR st fun r st => if obC r = ci ∧ v < lyt.length then nx (pc + 3) ls st (mu s r k (v : Int)) else none
      | _ => none
    | none => none
  | .invokevirtual idx => match pml (mC y) idx with
    | some j => if mSt j = 0 ∧ mNa j ≤ st.length ∧ recv (st.take (mNa j)) = mC j then doCall C j pc ls (st.take (mNa j)).reverse (st.drop (mNa j)) s else none
    | none => none
  | .invokestatic idx => match pml (mC y) idx with
    | some j => if j = 60 then
        pI st fun n st => pI st fun dp st => pR st fun b st => pI st fun sp st => pR st fun a st =>
          if 0 ≤ n ∧ 0 ≤ dp ∧ 0 ≤ sp ∧ sp + n ≤ aN1 a ∧ dp + n ≤ aN1 b ∧ 0 < aN1 a ∧ 0 < aN1 b ∧ st.length ≤ 4 then nx (pc + 3) ls st (cpM s a sp.toNat b dp.toNat n.toNat) else none
      else if j = 61 then pI st fun b st => pI st fun a st => if st.length ≤ 4 then nx (pc + 3) ls (aI (max a b) :: st) s else none
      else if j = 62 then pI st fun b st => pI st fun a st => if st.length ≤ 4 then nx (pc + 3) ls (aI (min a b) :: st) s else none
      else if mSt j = 1 ∧ mNa j ≤ st.length then doCall C j pc ls (st.take (mNa j)).reverse (st.drop (mNa j)) s else none
    | none => none
  | .new idx => match pxl (mC y) idx with
    | some e => some (.inr (10 + e, aU, s))
    | none => none
  | .ireturn => match st with
    | [(0, z)] => if mRt y = 1 ∨ (mRt y = 2 ∧ (z = 0 ∨ z = 1)) then some (.inr (1, (0, z), s)) else none
    | _ => none
  | .dreturn => match st with
    | [(3, z)] => if mRt y = 3 then some (.inr (2, (3, z), s)) else none
    | _ => none
  | .return_ => match st with
    | [] => if mRt y = 0 then some (.inr (0, aU, s)) else none
    | _ => none
  | _ => none
/-- the length is the instruction's own, and what it may jump to lies in front of nothing -/
def insOk (i : Instr) (len pc : Nat) : Bool := match i with
  | .iload _ => len == 2
  | .istore _ => len == 2
  | .aload _ => len == 2
  | .bipush _ => len == 2
  | .ldc _ => len == 2
  | .sipush _ => len == 3
  | .iinc _ _ => len == 3
  | .goto o => len == 3 && decide (0 ≤ (pc : Int) + o)
  | .ifCond _ o => len == 3 && decide (0 ≤ (pc : Int) + o)
  | .if_icmp _ o => len == 3 && decide (0 ≤ (pc : Int) + o)
  | .getfield _ => len == 3
  | .putfield _ => len == 3
  | .invokevirtual _ => len == 3
  | .invokestatic _ => len == 3
  | .new _ => len == 3
  | .tableswitch d _ _ offs => decide (0 ≤ (pc : Int) + d) && offs.toList.all (fun o => decide (0 ≤ (pc : Int) + o))
  | .lookupswitch d ps => decide (0 ≤ (pc : Int) + d) && ps.toList.all (fun q => decide (0 ≤ (pc : Int) + q.2)) && (ps.toList.zip (ps.toList.drop 1)).all (fun (a, next) => a.1 < next.1)
  | _ => len == 1
noncomputable def runZ (C : Nat → List AV → Mem → Option Res) (y : Nat) : Nat → Cfg → Option Res
  | 0, _ => none
  | n + 1, c => match decode (mB y) c.1 with
    | .ok (i, len) => if insOk i len c.1 = true then match stepZ C y i len c.1 c.2.1 c.2.2.1 c.2.2.2 with
      | some (.inl c') => runZ C y n c'
      | some (.inr r) => some r
      | none => none else none
    | .error _ => none
noncomputable def Ex (C : Nat → List AV → Mem → Option Res) (y : Nat) (c : Cfg) : Option Res :=
  @dite (Option Res) (∃ r n, runZ C y n c = some r) (Classical.propDecidable _) (fun h => some (Classical.choose h)) (fun _ => none)
/-- the arguments fit the method: as many as it takes, a long at its place alone -/
def argOk (y : Nat) (as : List AV) : Bool := as.length == mNa y && decide ((flat as).length ≤ mL y) && (flat as).zipIdx.all (fun q => !(q.1.1 == 2) || q.2 == mLg y) && as.all (fun a => !(a.1 == 3))
noncomputable def Zc : Nat → Nat → List AV → Mem → Option Res
  | 0, _, _, _ => none
  | d + 1, y, as, s => if argOk y as = true then Ex (Zc d) y (0, entry y as, [], s) else none
noncomputable def Ze (d y pc : Nat) (ls st : List AV) (s : Mem) : Option Res := Ex (Zc d) y (pc, ls, st, s)
theorem runZ_mono {C : Nat → List AV → Mem → Option Res} {y : Nat} : ∀ {n : Nat} {c : Cfg} {r : Res}, runZ C y n c = some r → ∀ m, n ≤ m → runZ C y m c = some r := by
  intro n
  induction n with
  | zero => intro c r h; cases h
  | succ n ih =>
    intro c r h m hm
    obtain ⟨m, rfl⟩ : ∃ k, m = k + 1 := ⟨m - 1, by omega⟩
    unfold runZ at h ⊢
    cases hd : decode (mB y) c.1 with
    | error e => rw [hd] at h; cases h
    | ok p =>
      obtain ⟨i, len⟩ := p
      rw [hd] at h
      dsimp only at h ⊢
      by_cases hk : insOk i len c.1 = true
      case neg => rw [if_neg hk] at h; cases h
      rw [if_pos hk] at h ⊢
      cases hs : stepZ C y i len c.1 c.2.1 c.2.2.1 c.2.2.2 with
      | none => rw [hs] at h; cases h
      | some q =>
        rw [hs] at h
        cases q with
        | inl c' => exact ih h m (by omega)
        | inr r' => exact h
theorem Ex_some {C : Nat → List AV → Mem → Option Res} {y : Nat} {c : Cfg} {r : Res} : Ex C y c = some r ↔ ∃ n, runZ C y n c = some r := by
  unfold Ex
  constructor
  · intro h
    by_cases hx : ∃ r n, runZ C y n c = some r
    · rw [dif_pos hx] at h
      cases h
      exact Classical.choose_spec hx
    · rw [dif_neg hx] at h
      cases h
  · rintro ⟨n, hn⟩
    have hx : ∃ r n, runZ C y n c = some r := ⟨r, n, hn⟩
    rw [dif_pos hx]
    obtain ⟨m, hm⟩ := Classical.choose_spec hx
    have h1 := runZ_mono hn (n + m) (by omega)
    have h2 := runZ_mono hm (n + m) (by omega)
    rw [h1] at h2
    exact congrArg some (Option.some.inj h2).symm
theorem Ex_ext {C : Nat → List AV → Mem → Option Res} {y : Nat} {c c' : Cfg} (h : ∀ r, Ex C y c = some r ↔ Ex C y c' = some r) : Ex C y c = Ex C y c' := Option.ext h
theorem runZ_next {C : Nat → List AV → Mem → Option Res} {y : Nat} {c : Cfg} {i : Instr} {len : Nat} (hd : decode (mB y) c.1 = .ok (i, len)) (hk : insOk i len c.1 = true) (n : Nat) :
    runZ C y (n + 1) c = match stepZ C y i len c.1 c.2.1 c.2.2.1 c.2.2.2 with
      | some (.inl c') => runZ C y n c'
      | some (.inr r) => some r
      | none => none := by
  show (match decode (mB y) c.1 with
    | .ok (i, len) => if insOk i len c.1 = true then match stepZ C y i len c.1 c.2.1 c.2.2.1 c.2.2.2 with
      | some (.inl c') => runZ C y n c'
      | some (.inr r) => some r
      | none => none else none
    | .error _ => none) = _
  rw [hd]
  dsimp only
  rw [if_pos hk]
theorem Ex_step {C : Nat → List AV → Mem → Option Res} {y : Nat} {c : Cfg} {i : Instr} {len : Nat} (hd : decode (mB y) c.1 = .ok (i, len)) (hk : insOk i len c.1 = true) :
    Ex C y c = match stepZ C y i len c.1 c.2.1 c.2.2.1 c.2.2.2 with
      | some (.inl c') => Ex C y c'
      | some (.inr r) => some r
      | none => none := by
  apply Option.ext
  intro r
  rw [Ex_some]
  cases hs : stepZ C y i len c.1 c.2.1 c.2.2.1 c.2.2.2 with
  | none =>
    dsimp only
    constructor
    · rintro ⟨n, hn⟩
      cases n with
      | zero => cases hn
      | succ n => rw [runZ_next hd hk, hs] at hn; cases hn
    · intro h; cases h
  | some q =>
    cases q with
    | inl c' =>
      dsimp only
      rw [Ex_some]
      constructor
      · rintro ⟨n, hn⟩
        cases n with
        | zero => cases hn
        | succ n => rw [runZ_next hd hk, hs] at hn; exact ⟨n, hn⟩
      · rintro ⟨n, hn⟩
        exact ⟨n + 1, by rw [runZ_next hd hk, hs]; exact hn⟩
    | inr r' =>
      dsimp only
      constructor
      · rintro ⟨n, hn⟩
        cases n with
        | zero => cases hn
        | succ n => rw [runZ_next hd hk, hs] at hn; exact hn
      · intro h
        exact ⟨1, by rw [runZ_next hd hk, hs]; exact h⟩
-- the rows of the walks
theorem Ze_n {d y pc pc' len : Nat} {i : Instr} {ls st ls' st' : List AV} {s s' : Mem} (hd : decode (mB y) pc = .ok (i, len)) (h : stepZ (Zc d) y i len pc ls st s = nx pc' ls' st' s') (hk : insOk i len pc = true := by decide +kernel) : Ze d y pc ls st s = Ze d y pc' ls' st' s' := by
  unfold Ze
  rw [Ex_step (c := (pc, ls, st, s)) hd hk]
  dsimp only
  rw [h]
  rfl
theorem Ze_r {d y pc len : Nat} {i : Instr} {ls st : List AV} {s : Mem} {r : Res} (hd : decode (mB y) pc = .ok (i, len)) (h : stepZ (Zc d) y i len pc ls st s = some (.inr r)) (hk : insOk i len pc = true := by decide +kernel) : Ze d y pc ls st s = some r := by
  unfold Ze
  rw [Ex_step (c := (pc, ls, st, s)) hd hk]
  dsimp only
  rw [h]
theorem Ze_b {d y pc len : Nat} {i : Instr} {ls st : List AV} {s : Mem} {c : Prop} {p q : Nat} {st1 : List AV} [hdc : Decidable c] (hd : decode (mB y) pc = .ok (i, len)) (h : stepZ (Zc d) y i len pc ls st s = if c then nx p ls st1 s else nx q ls st1 s) (hk : insOk i len pc = true := by decide +kernel) :
    Ze d y pc ls st s = if c then Ze d y p ls st1 s else Ze d y q ls st1 s := by
  by_cases hc : c
  · rw [if_pos hc] at h ⊢
    exact Ze_n hd h hk
  · rw [if_neg hc] at h ⊢
    exact Ze_n hd h hk
noncomputable def zcI (r : Option Res) (d y pc : Nat) (ls st : List AV) : Option Res := match r with
  | some (1, (0, z), s) => Ze d y pc ls (aI z :: st) s
  | _ => none
noncomputable def zcV (r : Option Res) (d y pc : Nat) (ls st : List AV) : Option Res := match r with
  | some (0, _, s) => Ze d y pc ls st s
  | _ => none
theorem zcI_r {z : Int} {s : Mem} {d y pc : Nat} {ls st : List AV} : zcI (rI z s) d y pc ls st = Ze d y pc ls (aI z :: st) s := rfl
theorem zcV_r {s : Mem} {d y pc : Nat} {ls st : List AV} : zcV (rV s) d y pc ls st = Ze d y pc ls st s := rfl
theorem Ze_0 {d y pc len : Nat} {i : Instr} {ls st : List AV} {s : Mem} (hd : decode (mB y) pc = .ok (i, len)) (h : stepZ (Zc d) y i len pc ls st s = none) (hk : insOk i len pc = true := by decide +kernel) : Ze d y pc ls st s = none := by
  unfold Ze
  rw [Ex_step (c := (pc, ls, st, s)) hd hk]
  dsimp only
  rw [h]
theorem Ze_callI {d y pc j len : Nat} {i : Instr} {ls as st0 st : List AV} {s : Mem} (hd : decode (mB y) pc = .ok (i, len)) (hr : mRt j ≠ 0) (hl : st.length ≤ 4)
    (h : stepZ (Zc d) y i len pc ls st0 s = doCall (Zc d) j pc ls as st s) (hk : insOk i len pc = true := by decide +kernel) : Ze d y pc ls st0 s = zcI (Zc d j as s) d y (pc + 3) ls st := by
  unfold doCall at h
  rw [if_pos hl, if_neg hr] at h
  unfold zcI
  split
  next z s' e => rw [e] at h; exact Ze_n hd h hk
  next h1 =>
    refine Ze_0 hd (h.trans ?_) hk
    split
    next z s' e => exact absurd e (h1 z s')
    next => rfl
theorem Ze_callV {d y pc j len : Nat} {i : Instr} {ls as st0 st : List AV} {s : Mem} (hd : decode (mB y) pc = .ok (i, len)) (hr : mRt j = 0) (hl : st.length ≤ 4)
    (h : stepZ (Zc d) y i len pc ls st0 s = doCall (Zc d) j pc ls as st s) (hk : insOk i len pc = true := by decide +kernel) : Ze d y pc ls st0 s = zcV (Zc d j as s) d y (pc + 3) ls st := by
  unfold doCall at h
  rw [if_pos hl, if_pos hr] at h
  unfold zcV
  split
  next v s' e => rw [e] at h; exact Ze_n hd h hk
  next h1 =>
    refine Ze_0 hd (h.trans ?_) hk
    split
    next v s' e => exact absurd e (h1 v s')
    next => rfl
theorem Ze_i1 {d y pc : Nat} {ls : List AV} {z : Int} {s : Mem} (hd : decode (mB y) pc = .ok (.ireturn, 1)) (h : mRt y = 1) : Ze d y pc ls [aI z] s = rI z s := by
  refine Ze_r hd ?_ rfl
  show (if mRt y = 1 ∨ (mRt y = 2 ∧ (z = 0 ∨ z = 1)) then some (Sum.inr (1, aI z, s)) else none) = _
  rw [if_pos (Or.inl h)]
theorem Ze_i2 {d y pc : Nat} {ls : List AV} {z : Int} {s : Mem} (hd : decode (mB y) pc = .ok (.ireturn, 1)) (h : mRt y = 2) (hz : z = 0 ∨ z = 1) : Ze d y pc ls [aI z] s = rI z s := by
  refine Ze_r hd ?_ rfl
  show (if mRt y = 1 ∨ (mRt y = 2 ∧ (z = 0 ∨ z = 1)) then some (Sum.inr (1, aI z, s)) else none) = _
  rw [if_pos (Or.inr ⟨h, hz⟩)]
theorem Ze_d {d y pc : Nat} {ls : List AV} {z : Int} {s : Mem} (hd : decode (mB y) pc = .ok (.dreturn, 1)) (h : mRt y = 3) : Ze d y pc ls [aD z] s = rD z s := by
  refine Ze_r hd ?_ rfl
  show (if mRt y = 3 then some (Sum.inr (2, aD z, s)) else none) = _
  rw [if_pos h]
theorem Ze_v {d y pc : Nat} {ls : List AV} {s : Mem} (hd : decode (mB y) pc = .ok (.return_, 1)) (h : mRt y = 0) : Ze d y pc ls [] s = rV s := by
  refine Ze_r hd ?_ rfl
  show (if mRt y = 0 then some (Sum.inr (0, aU, s)) else none) = _
  rw [if_pos h]
theorem take_app {as st : List AV} {n : Nat} (h : as.length = n) : ((as.reverse ++ st).take n).reverse = as ∧ (as.reverse ++ st).drop n = st ∧ n ≤ (as.reverse ++ st).length := by
  subst h
  refine ⟨?_, ?_, by simp⟩
  · rw [List.take_append_of_le_length (by simp), List.take_of_length_le (by simp), List.reverse_reverse]
  · rw [← List.length_reverse (as := as), List.drop_left]
theorem recv_app {as st : List AV} {n r : Nat} (h : (aR r :: as).length = n) : recv (((aR r :: as).reverse ++ st).take n) = obC r := by
  subst h
  rw [List.take_append_of_le_length (by simp), List.take_of_length_le (by simp)]
  unfold recv
  rw [List.getLast?_reverse]
  show (if 0 ≤ (r : Int) then obC ((r : Int).toNat) else 999) = _
  rw [if_pos (Int.natCast_nonneg r), Int.toNat_natCast]
theorem step_cs {C : Nat → List AV → Mem → Option Res} {y idx j len pc : Nat} {ls as st : List AV} {s : Mem} (hp : pml (mC y) idx = some j) (hj : ¬ j = 60 ∧ ¬ j = 61 ∧ ¬ j = 62) (hs : mSt j = 1) (hn : as.length = mNa j) :
    stepZ C y (.invokestatic idx) len pc ls (as.reverse ++ st) s = doCall C j pc ls as st s := by
  obtain ⟨h1, h2, h3⟩ := take_app (st := st) hn
  show (match pml (mC y) idx with
    | some j => _
    | none => none) = _
  rw [hp]
  show (if j = 60 then _ else _) = _
  rw [if_neg hj.1, if_neg hj.2.1, if_neg hj.2.2, if_pos ⟨hs, h3⟩, h1, h2]
theorem step_cv {C : Nat → List AV → Mem → Option Res} {y idx j len pc r : Nat} {ls as st : List AV} {s : Mem} (hp : pml (mC y) idx = some j) (hs : mSt j = 0) (hn : (aR r :: as).length = mNa j) (hr : obC r = mC j) :
    stepZ C y (.invokevirtual idx) len pc ls ((aR r :: as).reverse ++ st) s = doCall C j pc ls (aR r :: as) st s := by
  obtain ⟨h1, h2, h3⟩ := take_app (st := st) hn
  show (match pml (mC y) idx with
    | some j => _
    | none => none) = _
  rw [hp]
  show (if _ then _ else _) = _
  rw [if_pos ⟨hs, h3, by rw [recv_app hn, hr]⟩, h1, h2]
theorem Ze_csI {d y pc idx j len : Nat} {ls as st : List AV} {s : Mem} (hd : decode (mB y) pc = .ok (.invokestatic idx, len)) (hp : pml (mC y) idx = some j) (hs : mSt j = 1) (hr : mRt j ≠ 0 ∧ ¬ j = 60 ∧ ¬ j = 61 ∧ ¬ j = 62) (hn : as.length = mNa j) (hl : st.length ≤ 4) (hk : insOk (.invokestatic idx) len pc = true := by decide +kernel) :
    Ze d y pc ls (as.reverse ++ st) s = zcI (Zc d j as s) d y (pc + 3) ls st := Ze_callI hd hr.1 hl (step_cs hp hr.2 hs hn) hk
theorem Ze_csV {d y pc idx j len : Nat} {ls as st : List AV} {s : Mem} (hd : decode (mB y) pc = .ok (.invokestatic idx, len)) (hp : pml (mC y) idx = some j) (hs : mSt j = 1) (hr : mRt j = 0 ∧ ¬ j = 60 ∧ ¬ j = 61 ∧ ¬ j = 62) (hn : as.length = mNa j) (hl : st.length ≤ 4) (hk : insOk (.invokestatic idx) len pc = true := by decide +kernel) :
    Ze d y pc ls (as.reverse ++ st) s = zcV (Zc d j as s) d y (pc + 3) ls st := Ze_callV hd hr.1 hl (step_cs hp hr.2 hs hn) hk
theorem Ze_cvI {d y pc idx j len r ci : Nat} {ls as st : List AV} {s : Mem} (hd : decode (mB y) pc = .ok (.invokevirtual idx, len)) (hp : pml (mC y) idx = some j) (hs : (mSt j = 0 ∧ mRt j ≠ 0) ∧ mC j = ci) (hn : (aR r :: as).length = mNa j) (h : obC r = ci) (hl : st.length ≤ 4) (hk : insOk (.invokevirtual idx) len pc = true := by decide +kernel) :
    Ze d y pc ls ((aR r :: as).reverse ++ st) s = zcI (Zc d j (aR r :: as) s) d y (pc + 3) ls st := Ze_callI hd hs.1.2 hl (step_cv hp hs.1.1 hn (h.trans hs.2.symm)) hk
theorem Ze_cvV {d y pc idx j len r ci : Nat} {ls as st : List AV} {s : Mem} (hd : decode (mB y) pc = .ok (.invokevirtual idx, len)) (hp : pml (mC y) idx = some j) (hs : (mSt j = 0 ∧ mRt j = 0) ∧ mC j = ci) (hn : (aR r :: as).length = mNa j) (h : obC r = ci) (hl : st.length ≤ 4) (hk : insOk (.invokevirtual idx) len pc = true := by decide +kernel) :
    Ze d y pc ls ((aR r :: as).reverse ++ st) s = zcV (Zc d j (aR r :: as) s) d y (pc + 3) ls st := Ze_callV hd hs.1.2 hl (step_cv hp hs.1.1 hn (h.trans hs.2.symm)) hk
theorem fldV_dyn {ci k r : Nat} {s : Mem} (h : fkd ci k = 2) (h0 : 0 ≤ s r k) : fldV ci k r s = some (aR (s r k).toNat) := by
  unfold fldV
  rw [h]
  show (if 0 ≤ s r k then some (1, s r k) else none) = _
  rw [if_pos h0]
  show some ((1 : Nat), s r k) = some (1, (((s r k).toNat : Nat) : Int))
  rw [Int.toNat_of_nonneg h0]
theorem Ze_gf {d y pc idx len r ci k : Nat} {ls st : List AV} {s : Mem} {v : AV} (hd : decode (mB y) pc = .ok (.getfield idx, len)) (hp : pfl (mC y) idx = some (ci, k)) (h : obC r = ci) (hv : fldV ci k r s = some v) (hk : insOk (.getfield idx) len pc = true := by decide +kernel) :
    Ze d y pc ls (aR r :: st) s = Ze d y (pc + 3) ls (v :: st) s := by
  refine Ze_n hd ?_ hk
  show (match pfl (mC y) idx with
    | some (ci, k) => (if obC ((r : Int).toNat) = ci then match fldV ci k ((r : Int).toNat) s with
        | some v => nx (pc + 3) ls (v :: st) s
        | none => none
      else none)
    | none => none) = _
  rw [hp, Int.toNat_natCast]
  show (if obC r = ci then _ else _) = _
  rw [if_pos h, hv]
def selZ (ks : List (Int × Nat)) (df : Nat) (a : Int) (f : Nat → Option Res) : Option Res := match ks with
  | [] => f df
  | (k, t) :: r => if a = k then f t else selZ r df a f
theorem selZ_f {f g : Nat → Option Res} {a : Int} {df : Nat} : ∀ {ks : List (Int × Nat)}, (∀ t, f t = g t) → selZ ks df a f = selZ ks df a g := by
  intro ks h
  have : f = g := funext h
  rw [this]
theorem Ze_lk {d y pc len df : Nat} {dflt a : Int} {ps : Array (Int × Int)} {ks : List (Int × Nat)} {ls st : List AV} {s : Mem} (hd : decode (mB y) pc = .ok (.lookupswitch dflt ps, len))
    (hk : ks = ps.toList.map (fun q => (q.1, tg pc q.2))) (hf : tg pc dflt = df) (hk2 : insOk (.lookupswitch dflt ps) len pc = true := by decide +kernel) : Ze d y pc ls (aI a :: st) s = selZ ks df a (fun t => Ze d y t ls st s) := by
  have h1 : Ze d y pc ls (aI a :: st) s = Ze d y (tg pc (Op.lookupswitch.offset ps.toList dflt a)) ls st s := Ze_n hd rfl hk2
  rw [h1, hk, ← hf]
  generalize ps.toList = l
  induction l with
  | nil => rfl
  | cons q l ih =>
    obtain ⟨k, o⟩ := q
    rw [Op.lookupswitch.offset_cons, List.map_cons]
    unfold selZ
    by_cases h : a = k
    · rw [if_pos h, if_pos h.symm]
    · rw [if_neg h, if_neg (fun e => h e.symm)]
      exact ih
theorem selZ_tab {f : Nat → Option Res} {df pc : Nat} {a : Int} : ∀ (offs : List Int) (lo : Int) (n : Nat), offs.length = n → selZ ((List.range n).map (fun (j : Nat) => (lo + (j : Int), tg pc (offs.getD j 0)))) df a f = if a < lo ∨ lo + n ≤ a then f df else f (tg pc (offs.getD (a - lo).toNat 0)) := by
  intro offs
  induction offs with
  | nil =>
    intro lo n hn
    subst hn
    rw [if_pos (by simp only [List.length_nil]; omega)]
    rfl
  | cons o r ih =>
    intro lo n hn
    subst hn
    rw [List.length_cons, List.range_succ_eq_map, List.map_cons, List.map_map]
    unfold selZ
    by_cases h : a = lo + ((0 : Nat) : Int)
    · rw [if_pos h, if_neg (by omega)]
      have : (a - lo).toNat = 0 := by omega
      rw [this]
    · rw [if_neg h]
      have e : ((List.range r.length).map ((fun (j : Nat) => (lo + (j : Int), tg pc ((o :: r).getD j 0))) ∘ Nat.succ)) = (List.range r.length).map (fun (j : Nat) => ((lo + 1) + (j : Int), tg pc (r.getD j 0))) := by
        apply List.map_congr_left
        intro j _
        show (lo + ((j + 1 : Nat) : Int), _) = _
        rw [show lo + ((j + 1 : Nat) : Int) = lo + 1 + (j : Int) by omega]
        rfl
      rw [e, ih (lo + 1) r.length rfl]
      by_cases h2 : a < lo + 1 ∨ lo + 1 + (r.length : Int) ≤ a
      · rw [if_pos h2, if_pos (by omega)]
      · rw [if_neg h2, if_neg (by omega)]
        obtain ⟨m, hm⟩ : ∃ m, (a - lo).toNat = m + 1 := ⟨(a - lo).toNat - 1, by omega⟩
        rw [hm, show (a - (lo + 1)).toNat = m by omega]
        rfl
theorem Ze_ts {d y pc len df : Nat} {dflt lo hi a : Int} {offs : Array Int} {ks : List (Int × Nat)} {ls st : List AV} {s : Mem} (hd : decode (mB y) pc = .ok (.tableswitch dflt lo hi offs, len))
    (hk : ks = (List.range offs.toList.length).map (fun (j : Nat) => (lo + (j : Int), tg pc (offs.toList.getD j 0))) ∧ lo + (offs.toList.length : Int) = hi + 1) (hf : tg pc dflt = df) (hk2 : insOk (.tableswitch dflt lo hi offs) len pc = true := by decide +kernel) : Ze d y pc ls (aI a :: st) s = selZ ks df a (fun t => Ze d y t ls st s) := by
  rw [hk.1, selZ_tab offs.toList lo offs.toList.length rfl, ← hf]
  by_cases h : a < lo ∨ hi < a
  · rw [if_pos (by omega)]
    exact Ze_n hd (by show (if a < lo ∨ hi < a then _ else _) = _; rw [if_pos h]) hk2
  · rw [if_neg (by omega)]
    refine Ze_n hd ?_ hk2
    show (if a < lo ∨ hi < a then _ else _) = _
    rw [if_neg h]
    have hlt : (a - lo).toNat < offs.toList.length := by omega
    have e : offs[(a - lo).toNat]? = some (offs.toList.getD (a - lo).toNat 0) := by
      rw [← Array.getElem?_toList, List.getD_eq_getElem?_getD, List.getElem?_eq_getElem hlt]
      rfl
    rw [e]
theorem mu_s {s : Mem} {k j : Nat} {v : Int} : mu s k j v k j = v := by simp [mu]
theorem mu_c {s : Mem} {k j a b : Nat} {v : Int} (h : a ≠ k) : mu s k j v a b = s a b := by simp [mu, h]
theorem mu_i {s : Mem} {k j a b : Nat} {v : Int} (h : b ≠ j) : mu s k j v a b = s a b := by simp [mu, h]
theorem wrap_id {x : Int} (h : -2147483648 ≤ x ∧ x ≤ 2147483647) : wrap x = x := by rw [wrap_def]; omega
theorem wrap_in (x : Int) : inI (wrap x) := by rw [wrap_def]; unfold inI; omega
