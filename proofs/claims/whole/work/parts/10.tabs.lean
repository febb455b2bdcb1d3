/-! The tables of the abstract machine, printed by wip/whole/gentab.py out of the Statement -/
def am_CN : Nat → String := fun k => match k with
  | 0 => "SampledBanks"
  | 1 => "SampledBanks$Records"
  | 2 => "SampledBanks$Polynomial"
  | 3 => "SampledBanks$Equations"
  | 4 => "SampledBanks$Fraction"
  | 5 => "SampledBanksModel"
  | 6 => "SampledBanks$Field"
  | 7 => "SampledBanksLaw"
  | _ => "java/util/Arrays"
def at_B : u_T := fun k => match k with
  | 0 => ("SampledBanks", "banks", "[LSampledBanks$Records;", true)
  | 1 => ("SampledBanks", "parcelOne", "LSampledBanks$Records;", true)
  | 2 => ("SampledBanks", "parcelTwo", "LSampledBanks$Records;", true)
  | 3 => ("SampledBanks", "fraction", "LSampledBanks$Fraction;", true)
  | _ => ("SampledBanks", "sentNumbers", "J", false)
def ay_B : Nat → FieldType := fun k => match k with
  | 0 => .array (.object "SampledBanks$Records")
  | 1 => .object "SampledBanks$Records"
  | 2 => .object "SampledBanks$Records"
  | 3 => .object "SampledBanks$Fraction"
  | _ => .long
theorem ayo_B : ∀ k, k < 5 → parseFieldDescriptor (at_B k).2.2.1 = some (ay_B k) := by decide +kernel
theorem ann_B : ∀ a, a < 5 → ∀ b, b < 5 → a ≠ b → (at_B a).2.1 ≠ (at_B b).2.1 := by decide +kernel
def at_R : u_T := fun k => match k with
  | 0 => ("SampledBanks$Records", "words", "[I", true)
  | 1 => ("SampledBanks$Records", "weights", "[I", true)
  | 2 => ("SampledBanks$Records", "dropMarks", "[Z", true)
  | _ => ("SampledBanks$Records", "count", "I", false)
def ay_R : Nat → FieldType := fun k => match k with
  | 0 => .array .int
  | 1 => .array .int
  | 2 => .array .boolean
  | _ => .int
theorem ayo_R : ∀ k, k < 4 → parseFieldDescriptor (at_R k).2.2.1 = some (ay_R k) := by decide +kernel
theorem ann_R : ∀ a, a < 4 → ∀ b, b < 4 → a ≠ b → (at_R a).2.1 ≠ (at_R b).2.1 := by decide +kernel
def at_Y : u_T := fun k => match k with
  | 0 => ("SampledBanks$Polynomial", "factors", "[J", true)
  | _ => ("SampledBanks$Polynomial", "degree", "I", false)
def ay_Y : Nat → FieldType := fun k => match k with
  | 0 => .array .long
  | _ => .int
theorem ayo_Y : ∀ k, k < 2 → parseFieldDescriptor (at_Y k).2.2.1 = some (ay_Y k) := by decide +kernel
theorem ann_Y : ∀ a, a < 2 → ∀ b, b < 2 → a ≠ b → (at_Y a).2.1 ≠ (at_Y b).2.1 := by decide +kernel
def at_Q : u_T := fun k => match k with
  | 0 => ("SampledBanks$Equations", "rows", "[[J", true)
  | 1 => ("SampledBanks$Equations", "rowOfUnknown", "[I", true)
  | _ => ("SampledBanks$Equations", "count", "I", false)
def ay_Q : Nat → FieldType := fun k => match k with
  | 0 => .array (.array .long)
  | 1 => .array .int
  | _ => .int
theorem ayo_Q : ∀ k, k < 3 → parseFieldDescriptor (at_Q k).2.2.1 = some (ay_Q k) := by decide +kernel
theorem ann_Q : ∀ a, a < 3 → ∀ b, b < 3 → a ≠ b → (at_Q a).2.1 ≠ (at_Q b).2.1 := by decide +kernel
def at_A : u_T := fun k => match k with
  | 0 => ("SampledBanks$Fraction", "up", "LSampledBanks$Polynomial;", true)
  | 1 => ("SampledBanks$Fraction", "low", "LSampledBanks$Polynomial;", true)
  | 2 => ("SampledBanks$Fraction", "workOne", "LSampledBanks$Polynomial;", true)
  | 3 => ("SampledBanks$Fraction", "workTwo", "LSampledBanks$Polynomial;", true)
  | 4 => ("SampledBanks$Fraction", "equations", "LSampledBanks$Equations;", true)
  | 5 => ("SampledBanks$Fraction", "samplesOfA", "[J", true)
  | _ => ("SampledBanks$Fraction", "samplesOfB", "[J", true)
def ay_A : Nat → FieldType := fun k => match k with
  | 0 => .object "SampledBanks$Polynomial"
  | 1 => .object "SampledBanks$Polynomial"
  | 2 => .object "SampledBanks$Polynomial"
  | 3 => .object "SampledBanks$Polynomial"
  | 4 => .object "SampledBanks$Equations"
  | 5 => .array .long
  | _ => .array .long
theorem ayo_A : ∀ k, k < 7 → parseFieldDescriptor (at_A k).2.2.1 = some (ay_A k) := by decide +kernel
theorem ann_A : ∀ a, a < 7 → ∀ b, b < 7 → a ≠ b → (at_A a).2.1 ≠ (at_A b).2.1 := by decide +kernel
def at_M : u_T := fun k => match k with
  | 0 => ("SampledBanksModel", "sizes", "[I", true)
  | 1 => ("SampledBanksModel", "numbers", "[I", true)
  | 2 => ("SampledBanksModel", "versions", "[I", true)
  | 3 => ("SampledBanksModel", "grams", "[I", true)
  | 4 => ("SampledBanksModel", "dropped", "[Z", true)
  | 5 => ("SampledBanksModel", "sent", "J", false)
  | 6 => ("SampledBanksModel", "up", "[J", true)
  | 7 => ("SampledBanksModel", "low", "[J", true)
  | 8 => ("SampledBanksModel", "upDegree", "I", false)
  | 9 => ("SampledBanksModel", "lowDegree", "I", false)
  | 10 => ("SampledBanksModel", "pairs", "I", false)
  | 11 => ("SampledBanksModel", "sieve", "[J", true)
  | 12 => ("SampledBanksModel", "values", "[J", true)
  | 13 => ("SampledBanksModel", "u", "[J", true)
  | 14 => ("SampledBanksModel", "l", "[J", true)
  | 15 => ("SampledBanksModel", "uDegree", "I", false)
  | 16 => ("SampledBanksModel", "lDegree", "I", false)
  | 17 => ("SampledBanksModel", "over", "[J", true)
  | 18 => ("SampledBanksModel", "under", "[J", true)
  | 19 => ("SampledBanksModel", "times", "[J", true)
  | 20 => ("SampledBanksModel", "underDegree", "I", false)
  | 21 => ("SampledBanksModel", "taken", "I", false)
  | 22 => ("SampledBanksModel", "takers", "[I", true)
  | 23 => ("SampledBanksModel", "takenNumbers", "[I", true)
  | 24 => ("SampledBanksModel", "takenVersions", "[I", true)
  | 25 => ("SampledBanksModel", "takenGrams", "[I", true)
  | _ => ("SampledBanksModel", "takenDropped", "[Z", true)
def ay_M : Nat → FieldType := fun k => match k with
  | 0 => .array .int
  | 1 => .array .int
  | 2 => .array .int
  | 3 => .array .int
  | 4 => .array .boolean
  | 5 => .long
  | 6 => .array .long
  | 7 => .array .long
  | 8 => .int
  | 9 => .int
  | 10 => .int
  | 11 => .array .long
  | 12 => .array .long
  | 13 => .array .long
  | 14 => .array .long
  | 15 => .int
  | 16 => .int
  | 17 => .array .long
  | 18 => .array .long
  | 19 => .array .long
  | 20 => .int
  | 21 => .int
  | 22 => .array .int
  | 23 => .array .int
  | 24 => .array .int
  | 25 => .array .int
  | _ => .array .boolean
theorem ayo_M : ∀ k, k < 27 → parseFieldDescriptor (at_M k).2.2.1 = some (ay_M k) := by decide +kernel
theorem ann_M : ∀ a, a < 27 → ∀ b, b < 27 → a ≠ b → (at_M a).2.1 ≠ (at_M b).2.1 := by decide +kernel
def am_cls : List vw_C := [("SampledBanks", at_B, 5), ("SampledBanks$Records", at_R, 4), ("SampledBanks$Polynomial", at_Y, 2), ("SampledBanks$Equations", at_Q, 3), ("SampledBanks$Fraction", at_A, 7), ("SampledBanksModel", at_M, 27)]
def am_Ft0 : List (Nat × Nat × Nat × Nat × Nat) := [(11, (2, 0, 0, 2)), (16, (2, 0, 1, 2)), (20, (2, 0, 2, 2)), (26, (2, 0, 3, 2)), (48, (1, 1, 3, 0)), (63, (3, 1, 2, 2)), (67, (3, 1, 1, 2)), (71, (3, 1, 0, 2)), (107, (0, 0, 4, 1)), (118, (1, 2, 1, 0)), (123, (3, 2, 0, 2)), (134, (3, 4, 0, 2)), (138, (3, 4, 1, 2))]
def am_Ft1 : List (Nat × Nat × Nat × Nat × Nat) := [(9, (2, 1, 0, 2)), (15, (2, 1, 1, 2)), (18, (2, 1, 2, 2)), (22, (0, 1, 3, 0))]
def am_Ft2 : List (Nat × Nat × Nat × Nat × Nat) := [(9, (2, 2, 0, 2)), (21, (0, 2, 1, 0))]
def am_Ft3 : List (Nat × Nat × Nat × Nat × Nat) := [(11, (2, 3, 0, 2)), (16, (2, 3, 1, 2)), (32, (0, 3, 2, 0))]
def am_Ft4 : List (Nat × Nat × Nat × Nat × Nat) := [(12, (2, 4, 0, 2)), (18, (2, 4, 1, 2)), (21, (2, 4, 2, 2)), (24, (2, 4, 3, 2)), (30, (2, 4, 4, 2)), (34, (2, 4, 5, 2)), (38, (2, 4, 6, 2)), (41, (1, 1, 3, 0)), (69, (1, 2, 1, 0))]
def am_Ft5 : List (Nat × Nat × Nat × Nat × Nat) := [(7, (2, 5, 0, 2)), (13, (2, 5, 1, 2)), (16, (2, 5, 2, 2)), (19, (2, 5, 3, 2)), (22, (2, 5, 4, 2)), (26, (2, 5, 6, 2)), (30, (2, 5, 7, 2)), (33, (2, 5, 11, 2)), (36, (2, 5, 12, 2)), (39, (2, 5, 13, 2)), (42, (2, 5, 14, 2)), (45, (2, 5, 17, 2)), (48, (2, 5, 18, 2)), (51, (2, 5, 19, 2)), (54, (2, 5, 22, 2)), (57, (2, 5, 23, 2)), (60, (2, 5, 24, 2)), (63, (2, 5, 25, 2)), (66, (2, 5, 26, 2)), (106, (0, 5, 10, 0)), (110, (0, 5, 15, 0)), (113, (0, 5, 16, 0)), (139, (0, 5, 20, 0)), (155, (0, 5, 8, 0)), (158, (0, 5, 9, 0)), (161, (0, 5, 21, 0)), (168, (0, 5, 5, 1))]
def am_Ft6 : List (Nat × Nat × Nat × Nat × Nat) := []
def am_Ft7 : List (Nat × Nat × Nat × Nat × Nat) := []
def am_Ft8 : List (Nat × Nat × Nat × Nat × Nat) := []
def am_Ft : Nat → Nat → Option (Nat × Nat × Nat × Nat) := fun own k => match own with
  | 0 => List.lookup k am_Ft0
  | 1 => List.lookup k am_Ft1
  | 2 => List.lookup k am_Ft2
  | 3 => List.lookup k am_Ft3
  | 4 => List.lookup k am_Ft4
  | 5 => List.lookup k am_Ft5
  | 6 => List.lookup k am_Ft6
  | 7 => List.lookup k am_Ft7
  | 8 => List.lookup k am_Ft8
  | _ => none
def am_Yt0 : List (Nat × Nat × Nat × Nat × Nat) := [(3, (5, 0, 0, 0)), (15, (4, 2, 0, 1)), (25, (4, 3, 0, 4)), (30, (0, 7, 1, 0)), (34, (0, 8, 1, 0)), (37, (1, 9, 1, 1)), (41, (1, 10, 2, 1)), (45, (1, 11, 1, 1)), (52, (0, 12, 2, 0)), (56, (0, 13, 2, 0)), (59, (1, 14, 3, 1)), (76, (1, 22, 1, 1)), (80, (0, 25, 2, 0)), (83, (0, 26, 1, 0)), (86, (1, 27, 3, 0)), (90, (1, 57, 2, 0)), (94, (1, 60, 3, 0)), (103, (1, 63, 1, 1)), (111, (0, 66, 1, 0)), (114, (1, 67, 1, 4)), (127, (1, 28, 3, 4)), (131, (1, 43, 0, 4)), (141, (1, 49, 2, 1)), (145, (1, 51, 1, 4)), (148, (1, 52, 2, 0)), (151, (1, 58, 1, 1)), (155, (1, 53, 1, 1)), (158, (1, 54, 1, 1)), (161, (1, 55, 1, 1)), (164, (6, 0, 2, 0))]
def am_Yt1 : List (Nat × Nat × Nat × Nat × Nat) := [(3, (5, 0, 0, 0)), (26, (1, 9, 1, 1)), (30, (1, 10, 2, 1)), (34, (1, 15, 3, 1)), (38, (0, 23, 2, 0)), (44, (1, 50, 1, 2)), (50, (1, 14, 3, 1))]
def am_Yt2 : List (Nat × Nat × Nat × Nat × Nat) := [(3, (5, 0, 0, 0)), (15, (7, 0, 5, 0)), (25, (1, 42, 1, 3)), (31, (0, 23, 2, 0)), (37, (0, 32, 2, 0)), (40, (0, 37, 1, 0)), (44, (1, 47, 1, 2)), (48, (6, 0, 2, 0)), (54, (0, 31, 2, 0))]
def am_Yt3 : List (Nat × Nat × Nat × Nat × Nat) := [(3, (5, 0, 0, 0)), (20, (0, 23, 2, 0)), (26, (0, 31, 2, 0)), (29, (0, 32, 2, 0)), (36, (0, 34, 2, 0)), (42, (1, 35, 2, 3)), (46, (1, 36, 2, 3)), (50, (0, 37, 1, 0)), (54, (1, 38, 3, 3)), (58, (1, 39, 2, 3)), (61, (1, 40, 1, 3))]
def am_Yt4 : List (Nat × Nat × Nat × Nat × Nat) := [(3, (5, 0, 0, 0)), (11, (3, 4, 0, 2)), (29, (4, 5, 0, 3)), (47, (1, 29, 3, 4)), (53, (1, 30, 6, 3)), (57, (1, 33, 1, 3)), (61, (1, 41, 3, 2)), (65, (1, 44, 1, 2)), (72, (1, 45, 0, 2)), (75, (1, 46, 1, 2)), (78, (1, 48, 1, 2)), (81, (1, 50, 1, 2)), (85, (0, 23, 2, 0)), (91, (1, 22, 1, 1))]
def am_Yt5 : List (Nat × Nat × Nat × Nat × Nat) := [(1, (5, 0, 0, 0)), (69, (0, 71, 1, 5)), (73, (0, 72, 1, 5)), (76, (1, 73, 2, 5)), (80, (1, 74, 2, 5)), (83, (1, 80, 1, 5)), (89, (0, 84, 2, 5)), (95, (0, 83, 1, 5)), (99, (1, 82, 2, 5)), (103, (0, 93, 2, 5)), (116, (1, 92, 3, 5)), (120, (0, 94, 1, 5)), (124, (1, 95, 3, 5)), (128, (1, 96, 1, 5)), (132, (1, 99, 2, 5)), (136, (1, 98, 1, 5)), (142, (1, 102, 1, 5)), (145, (1, 103, 0, 5)), (149, (1, 104, 0, 5)), (152, (1, 101, 0, 5)), (164, (1, 109, 2, 5)), (174, (1, 90, 0, 5)), (177, (1, 91, 3, 5)), (181, (1, 97, 0, 5)), (185, (1, 106, 1, 5)), (188, (1, 107, 1, 5)), (191, (1, 89, 3, 5)), (195, (1, 100, 0, 5)), (198, (1, 105, 3, 5)), (201, (1, 108, 2, 5)), (205, (1, 110, 0, 5)), (208, (0, 86, 2, 5)), (211, (0, 87, 1, 5)), (214, (1, 88, 3, 5)), (218, (1, 112, 2, 5)), (221, (1, 114, 3, 5)), (224, (1, 117, 2, 5))]
def am_Yt6 : List (Nat × Nat × Nat × Nat × Nat) := []
def am_Yt7 : List (Nat × Nat × Nat × Nat × Nat) := [(9, (3, 1, 0, 0)), (12, (3, 69, 0, 5)), (13, (1, 6, 3, 0)), (17, (1, 70, 3, 5)), (18, (1, 16, 2, 0)), (22, (1, 75, 2, 5)), (23, (1, 17, 2, 0)), (26, (1, 76, 2, 5)), (27, (1, 18, 2, 0)), (30, (1, 77, 2, 5)), (31, (1, 19, 1, 0)), (35, (1, 78, 1, 5)), (36, (1, 20, 2, 0)), (39, (1, 79, 2, 5)), (40, (1, 21, 2, 0)), (43, (1, 81, 2, 5)), (44, (1, 24, 3, 0)), (47, (1, 85, 3, 5)), (48, (1, 56, 2, 0)), (51, (1, 111, 2, 5)), (52, (1, 59, 3, 0)), (55, (1, 113, 3, 5)), (56, (1, 61, 1, 0)), (59, (1, 115, 1, 5)), (60, (1, 62, 2, 0)), (63, (1, 116, 2, 5)), (64, (1, 64, 0, 0)), (68, (1, 118, 0, 5)), (69, (1, 65, 1, 0)), (72, (1, 119, 1, 5)), (73, (1, 68, 2, 0)), (76, (1, 120, 2, 5))]
def am_Yt8 : List (Nat × Nat × Nat × Nat × Nat) := []
def am_Yt : Nat → Nat → Option (Nat × Nat × Nat × Nat) := fun own k => match own with
  | 0 => List.lookup k am_Yt0
  | 1 => List.lookup k am_Yt1
  | 2 => List.lookup k am_Yt2
  | 3 => List.lookup k am_Yt3
  | 4 => List.lookup k am_Yt4
  | 5 => List.lookup k am_Yt5
  | 6 => List.lookup k am_Yt6
  | 7 => List.lookup k am_Yt7
  | 8 => List.lookup k am_Yt8
  | _ => none
def am_Kt0 : List (Nat × Int64) := [(74, (1073741824 : Int64))]
def am_Kt1 : List (Nat × Int64) := []
def am_Kt2 : List (Nat × Int64) := []
def am_Kt3 : List (Nat × Int64) := []
def am_Kt4 : List (Nat × Int64) := [(51, (1073741824 : Int64))]
def am_Kt5 : List (Nat × Int64) := [(87, (2147483647 : Int64)), (93, (1073741824 : Int64)), (172, (2 : Int64))]
def am_Kt6 : List (Nat × Int64) := [(9, (2147483647 : Int64)), (11, (2147483645 : Int64))]
def am_Kt7 : List (Nat × Int64) := []
def am_Kt8 : List (Nat × Int64) := []
def am_Kt : Nat → Nat → Option (Int64) := fun own k => match own with
  | 0 => List.lookup k am_Kt0
  | 1 => List.lookup k am_Kt1
  | 2 => List.lookup k am_Kt2
  | 3 => List.lookup k am_Kt3
  | 4 => List.lookup k am_Kt4
  | 5 => List.lookup k am_Kt5
  | 6 => List.lookup k am_Kt6
  | 7 => List.lookup k am_Kt7
  | 8 => List.lookup k am_Kt8
  | _ => none
def am_Nt0 : List (Nat × Nat × List Value) := [(9, (1, [.null, .null, .null, .int 0])), (23, (4, [.null, .null, .null, .null, .null, .null, .null]))]
def am_Nt1 : List (Nat × Nat × List Value) := []
def am_Nt2 : List (Nat × Nat × List Value) := []
def am_Nt3 : List (Nat × Nat × List Value) := []
def am_Nt4 : List (Nat × Nat × List Value) := [(9, (2, [.null, .int 0])), (27, (3, [.null, .null, .int 0]))]
def am_Nt5 : List (Nat × Nat × List Value) := []
def am_Nt6 : List (Nat × Nat × List Value) := []
def am_Nt7 : List (Nat × Nat × List Value) := [(7, (0, [.null, .null, .null, .null, .long 0])), (10, (5, [.null, .null, .null, .null, .null, .long 0, .null, .null, .int 0, .int 0, .int 0, .null, .null, .null, .null, .int 0, .int 0, .null, .null, .null, .int 0, .int 0, .null, .null, .null, .null, .null]))]
def am_Nt8 : List (Nat × Nat × List Value) := []
def am_Nt : Nat → Nat → Option (Nat × List Value) := fun own k => match own with
  | 0 => List.lookup k am_Nt0
  | 1 => List.lookup k am_Nt1
  | 2 => List.lookup k am_Nt2
  | 3 => List.lookup k am_Nt3
  | 4 => List.lookup k am_Nt4
  | 5 => List.lookup k am_Nt5
  | 6 => List.lookup k am_Nt6
  | 7 => List.lookup k am_Nt7
  | 8 => List.lookup k am_Nt8
  | _ => none
def am_St0 : List (Nat × Nat) := [(97, 1), (100, 2)]
def am_St1 : List (Nat × Nat) := []
def am_St2 : List (Nat × Nat) := []
def am_St3 : List (Nat × Nat) := [(9, 77)]
def am_St4 : List (Nat × Nat) := []
def am_St5 : List (Nat × Nat) := []
def am_St6 : List (Nat × Nat) := []
def am_St7 : List (Nat × Nat) := []
def am_St8 : List (Nat × Nat) := []
def am_St : Nat → Nat → Option (Nat) := fun own k => match own with
  | 0 => List.lookup k am_St0
  | 1 => List.lookup k am_St1
  | 2 => List.lookup k am_St2
  | 3 => List.lookup k am_St3
  | 4 => List.lookup k am_St4
  | 5 => List.lookup k am_St5
  | 6 => List.lookup k am_St6
  | 7 => List.lookup k am_St7
  | 8 => List.lookup k am_St8
  | _ => none
def am_STt : Nat → String × String × String := fun k => match k with
  | 1 => ("SampledBanks", "SPREAD_FIRST", "[I")
  | _ => ("SampledBanks", "SPREAD_SECOND", "[I")
-- a method's rows are what the machine decodes; a final field is put by a constructor alone
def am_dk (F : am_F) (ini : Bool) (M : am_M) : Bool := (List.range M.2.2.2.2.2.length).all fun pc => match M.2.2.2.2.2[pc]? with
  | some (some (i, len)) => (match decode M.2.1 pc with
      | .ok (i', len') => decide (i' = i) && decide (len' = len)
      | .error _ => false) && am_lo i len && (match i with
      | .putfield k => ini || (match F M.2.2.2.2.1 k with
        | some (2, _) => false
        | _ => true)
      | _ => true)
  | _ => true
theorem am_dk_ok {F : am_F} {ini : Bool} {M : am_M} (h : am_dk F ini M = true) (hn : ini = true → M.1.name = "<init>") (pc : Nat) (i : Instr) (len : Nat) (hi : M.2.2.2.2.2[pc]? = some (some (i, len))) : decode M.2.1 pc = .ok (i, len) ∧ am_lo i len = true ∧ ∀ k ci i0 t : Nat, i = .putfield k → F M.2.2.2.2.1 k = some (2, ci, i0, t) → M.1.name = "<init>" := by
  have h1 := List.all_eq_true.mp h pc (List.mem_range.mpr (List.getElem?_eq_some_iff.mp hi).1)
  simp only [hi, Bool.and_eq_true] at h1
  obtain ⟨⟨h2, h3⟩, h4⟩ := h1
  refine ⟨?_, h3, ?_⟩
  · split at h2
    next i' len' hd =>
      simp only [Bool.and_eq_true, decide_eq_true_eq] at h2
      rw [hd, h2.1, h2.2]
    next => cases h2
  · intro k ci i0 t hk hF
    subst hk
    simp only [hF, Bool.or_false] at h4
    exact hn h4
