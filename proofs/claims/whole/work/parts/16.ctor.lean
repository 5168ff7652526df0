def tbX6_init_0 : List (Nat × Instr × Nat) := [(0, .aload_n 0, 1), (1, .invokespecial 3, 3), (4, .aload_n 0, 1), (5, .iconst 0, 1), (6, .putfield 9, 3), (9, .aload_n 0, 1), (10, .bipush 20, 2), (12, .newarray .int, 2), (14, .putfield 15, 3), (17, .aload_n 0, 1), (18, .bipush 20, 2), (20, .newarray .int, 2), (22, .putfield 19, 3), (25, .aload_n 0, 1), (26, .bipush 20, 2), (28, .newarray .int, 2)]
theorem tkX6_init_0 : tbX6_init_0.all (fun q => decide (decode cX6_init q.1 = .ok q.2)) = true := by decide +kernel
theorem dX6_init_0 : Dc cX6_init 0 (.aload_n 0) 1 1 := dc_of tkX6_init_0 0 rfl rfl
theorem dX6_init_1 : Dc cX6_init 1 (.invokespecial 3) 3 4 := dc_of tkX6_init_0 1 rfl rfl
theorem dX6_init_4 : Dc cX6_init 4 (.aload_n 0) 1 5 := dc_of tkX6_init_0 2 rfl rfl
theorem dX6_init_5 : Dc cX6_init 5 (.iconst 0) 1 6 := dc_of tkX6_init_0 3 rfl rfl
theorem dX6_init_6 : Dc cX6_init 6 (.putfield 9) 3 9 := dc_of tkX6_init_0 4 rfl rfl
theorem dX6_init_9 : Dc cX6_init 9 (.aload_n 0) 1 10 := dc_of tkX6_init_0 5 rfl rfl
theorem dX6_init_10 : Dc cX6_init 10 (.bipush 20) 2 12 := dc_of tkX6_init_0 6 rfl rfl
theorem dX6_init_12 : Dc cX6_init 12 (.newarray .int) 2 14 := dc_of tkX6_init_0 7 rfl rfl
theorem dX6_init_14 : Dc cX6_init 14 (.putfield 15) 3 17 := dc_of tkX6_init_0 8 rfl rfl
theorem dX6_init_17 : Dc cX6_init 17 (.aload_n 0) 1 18 := dc_of tkX6_init_0 9 rfl rfl
theorem dX6_init_18 : Dc cX6_init 18 (.bipush 20) 2 20 := dc_of tkX6_init_0 10 rfl rfl
theorem dX6_init_20 : Dc cX6_init 20 (.newarray .int) 2 22 := dc_of tkX6_init_0 11 rfl rfl
theorem dX6_init_22 : Dc cX6_init 22 (.putfield 19) 3 25 := dc_of tkX6_init_0 12 rfl rfl
theorem dX6_init_25 : Dc cX6_init 25 (.aload_n 0) 1 26 := dc_of tkX6_init_0 13 rfl rfl
theorem dX6_init_26 : Dc cX6_init 26 (.bipush 20) 2 28 := dc_of tkX6_init_0 14 rfl rfl
theorem dX6_init_28 : Dc cX6_init 28 (.newarray .int) 2 30 := dc_of tkX6_init_0 15 rfl rfl
def tbX6_init_1 : List (Nat × Instr × Nat) := [(30, .putfield 22, 3), (33, .aload_n 0, 1), (34, .bipush 20, 2), (36, .newarray .int, 2), (38, .putfield 25, 3), (41, .aload_n 0, 1), (42, .bipush 20, 2), (44, .newarray .int, 2), (46, .putfield 28, 3), (49, .aload_n 0, 1), (50, .bipush 20, 2), (52, .newarray .int, 2), (54, .putfield 31, 3), (57, .aload_n 0, 1), (58, .bipush 20, 2), (60, .newarray .int, 2)]
theorem tkX6_init_1 : tbX6_init_1.all (fun q => decide (decode cX6_init q.1 = .ok q.2)) = true := by decide +kernel
theorem dX6_init_30 : Dc cX6_init 30 (.putfield 22) 3 33 := dc_of tkX6_init_1 0 rfl rfl
theorem dX6_init_33 : Dc cX6_init 33 (.aload_n 0) 1 34 := dc_of tkX6_init_1 1 rfl rfl
theorem dX6_init_34 : Dc cX6_init 34 (.bipush 20) 2 36 := dc_of tkX6_init_1 2 rfl rfl
theorem dX6_init_36 : Dc cX6_init 36 (.newarray .int) 2 38 := dc_of tkX6_init_1 3 rfl rfl
theorem dX6_init_38 : Dc cX6_init 38 (.putfield 25) 3 41 := dc_of tkX6_init_1 4 rfl rfl
theorem dX6_init_41 : Dc cX6_init 41 (.aload_n 0) 1 42 := dc_of tkX6_init_1 5 rfl rfl
theorem dX6_init_42 : Dc cX6_init 42 (.bipush 20) 2 44 := dc_of tkX6_init_1 6 rfl rfl
theorem dX6_init_44 : Dc cX6_init 44 (.newarray .int) 2 46 := dc_of tkX6_init_1 7 rfl rfl
theorem dX6_init_46 : Dc cX6_init 46 (.putfield 28) 3 49 := dc_of tkX6_init_1 8 rfl rfl
theorem dX6_init_49 : Dc cX6_init 49 (.aload_n 0) 1 50 := dc_of tkX6_init_1 9 rfl rfl
theorem dX6_init_50 : Dc cX6_init 50 (.bipush 20) 2 52 := dc_of tkX6_init_1 10 rfl rfl
theorem dX6_init_52 : Dc cX6_init 52 (.newarray .int) 2 54 := dc_of tkX6_init_1 11 rfl rfl
theorem dX6_init_54 : Dc cX6_init 54 (.putfield 31) 3 57 := dc_of tkX6_init_1 12 rfl rfl
theorem dX6_init_57 : Dc cX6_init 57 (.aload_n 0) 1 58 := dc_of tkX6_init_1 13 rfl rfl
theorem dX6_init_58 : Dc cX6_init 58 (.bipush 20) 2 60 := dc_of tkX6_init_1 14 rfl rfl
theorem dX6_init_60 : Dc cX6_init 60 (.newarray .int) 2 62 := dc_of tkX6_init_1 15 rfl rfl
def tbX6_init_2 : List (Nat × Instr × Nat) := [(62, .putfield 34, 3), (65, .aload_n 0, 1), (66, .iconst 0, 1), (67, .putfield 37, 3), (70, .aload_n 0, 1), (71, .iconst 0, 1), (72, .putfield 40, 3), (75, .aload_n 0, 1), (76, .iconst 2, 1), (77, .newarray .int, 2), (79, .putfield 43, 3), (82, .return_, 1)]
theorem tkX6_init_2 : tbX6_init_2.all (fun q => decide (decode cX6_init q.1 = .ok q.2)) = true := by decide +kernel
theorem dX6_init_62 : Dc cX6_init 62 (.putfield 34) 3 65 := dc_of tkX6_init_2 0 rfl rfl
theorem dX6_init_65 : Dc cX6_init 65 (.aload_n 0) 1 66 := dc_of tkX6_init_2 1 rfl rfl
theorem dX6_init_66 : Dc cX6_init 66 (.iconst 0) 1 67 := dc_of tkX6_init_2 2 rfl rfl
theorem dX6_init_67 : Dc cX6_init 67 (.putfield 37) 3 70 := dc_of tkX6_init_2 3 rfl rfl
theorem dX6_init_70 : Dc cX6_init 70 (.aload_n 0) 1 71 := dc_of tkX6_init_2 4 rfl rfl
theorem dX6_init_71 : Dc cX6_init 71 (.iconst 0) 1 72 := dc_of tkX6_init_2 5 rfl rfl
theorem dX6_init_72 : Dc cX6_init 72 (.putfield 40) 3 75 := dc_of tkX6_init_2 6 rfl rfl
theorem dX6_init_75 : Dc cX6_init 75 (.aload_n 0) 1 76 := dc_of tkX6_init_2 7 rfl rfl
theorem dX6_init_76 : Dc cX6_init 76 (.iconst 2) 1 77 := dc_of tkX6_init_2 8 rfl rfl
theorem dX6_init_77 : Dc cX6_init 77 (.newarray .int) 2 79 := dc_of tkX6_init_2 9 rfl rfl
theorem dX6_init_79 : Dc cX6_init 79 (.putfield 43) 3 82 := dc_of tkX6_init_2 10 rfl rfl
theorem dX6_init_82 : Dc cX6_init 82 (.return_) 1 83 := dc_of tkX6_init_2 11 rfl rfl
def tbX9_init_0 : List (Nat × Instr × Nat) := [(0, .aload_n 0, 1), (1, .invokespecial 3, 3), (4, .aload_n 0, 1), (5, .iconst 0, 1), (6, .putfield 9, 3), (9, .aload_n 0, 1), (10, .bipush 40, 2), (12, .newarray .int, 2), (14, .putfield 15, 3), (17, .aload_n 0, 1), (18, .bipush 40, 2), (20, .newarray .int, 2), (22, .putfield 19, 3), (25, .aload_n 0, 1), (26, .bipush 40, 2), (28, .newarray .int, 2)]
theorem tkX9_init_0 : tbX9_init_0.all (fun q => decide (decode cX9_init q.1 = .ok q.2)) = true := by decide +kernel
theorem dX9_init_0 : Dc cX9_init 0 (.aload_n 0) 1 1 := dc_of tkX9_init_0 0 rfl rfl
theorem dX9_init_1 : Dc cX9_init 1 (.invokespecial 3) 3 4 := dc_of tkX9_init_0 1 rfl rfl
theorem dX9_init_4 : Dc cX9_init 4 (.aload_n 0) 1 5 := dc_of tkX9_init_0 2 rfl rfl
theorem dX9_init_5 : Dc cX9_init 5 (.iconst 0) 1 6 := dc_of tkX9_init_0 3 rfl rfl
theorem dX9_init_6 : Dc cX9_init 6 (.putfield 9) 3 9 := dc_of tkX9_init_0 4 rfl rfl
theorem dX9_init_9 : Dc cX9_init 9 (.aload_n 0) 1 10 := dc_of tkX9_init_0 5 rfl rfl
theorem dX9_init_10 : Dc cX9_init 10 (.bipush 40) 2 12 := dc_of tkX9_init_0 6 rfl rfl
theorem dX9_init_12 : Dc cX9_init 12 (.newarray .int) 2 14 := dc_of tkX9_init_0 7 rfl rfl
theorem dX9_init_14 : Dc cX9_init 14 (.putfield 15) 3 17 := dc_of tkX9_init_0 8 rfl rfl
theorem dX9_init_17 : Dc cX9_init 17 (.aload_n 0) 1 18 := dc_of tkX9_init_0 9 rfl rfl
theorem dX9_init_18 : Dc cX9_init 18 (.bipush 40) 2 20 := dc_of tkX9_init_0 10 rfl rfl
theorem dX9_init_20 : Dc cX9_init 20 (.newarray .int) 2 22 := dc_of tkX9_init_0 11 rfl rfl
theorem dX9_init_22 : Dc cX9_init 22 (.putfield 19) 3 25 := dc_of tkX9_init_0 12 rfl rfl
theorem dX9_init_25 : Dc cX9_init 25 (.aload_n 0) 1 26 := dc_of tkX9_init_0 13 rfl rfl
theorem dX9_init_26 : Dc cX9_init 26 (.bipush 40) 2 28 := dc_of tkX9_init_0 14 rfl rfl
theorem dX9_init_28 : Dc cX9_init 28 (.newarray .int) 2 30 := dc_of tkX9_init_0 15 rfl rfl
def tbX9_init_1 : List (Nat × Instr × Nat) := [(30, .putfield 22, 3), (33, .aload_n 0, 1), (34, .bipush 40, 2), (36, .newarray .int, 2), (38, .putfield 25, 3), (41, .aload_n 0, 1), (42, .bipush 40, 2), (44, .newarray .int, 2), (46, .putfield 28, 3), (49, .aload_n 0, 1), (50, .bipush 40, 2), (52, .newarray .int, 2), (54, .putfield 31, 3), (57, .aload_n 0, 1), (58, .bipush 40, 2), (60, .newarray .int, 2)]
theorem tkX9_init_1 : tbX9_init_1.all (fun q => decide (decode cX9_init q.1 = .ok q.2)) = true := by decide +kernel
theorem dX9_init_30 : Dc cX9_init 30 (.putfield 22) 3 33 := dc_of tkX9_init_1 0 rfl rfl
theorem dX9_init_33 : Dc cX9_init 33 (.aload_n 0) 1 34 := dc_of tkX9_init_1 1 rfl rfl
theorem dX9_init_34 : Dc cX9_init 34 (.bipush 40) 2 36 := dc_of tkX9_init_1 2 rfl rfl
theorem dX9_init_36 : Dc cX9_init 36 (.newarray .int) 2 38 := dc_of tkX9_init_1 3 rfl rfl
theorem dX9_init_38 : Dc cX9_init 38 (.putfield 25) 3 41 := dc_of tkX9_init_1 4 rfl rfl
theorem dX9_init_41 : Dc cX9_init 41 (.aload_n 0) 1 42 := dc_of tkX9_init_1 5 rfl rfl
theorem dX9_init_42 : Dc cX9_init 42 (.bipush 40) 2 44 := dc_of tkX9_init_1 6 rfl rfl
theorem dX9_init_44 : Dc cX9_init 44 (.newarray .int) 2 46 := dc_of tkX9_init_1 7 rfl rfl
theorem dX9_init_46 : Dc cX9_init 46 (.putfield 28) 3 49 := dc_of tkX9_init_1 8 rfl rfl
theorem dX9_init_49 : Dc cX9_init 49 (.aload_n 0) 1 50 := dc_of tkX9_init_1 9 rfl rfl
theorem dX9_init_50 : Dc cX9_init 50 (.bipush 40) 2 52 := dc_of tkX9_init_1 10 rfl rfl
theorem dX9_init_52 : Dc cX9_init 52 (.newarray .int) 2 54 := dc_of tkX9_init_1 11 rfl rfl
theorem dX9_init_54 : Dc cX9_init 54 (.putfield 31) 3 57 := dc_of tkX9_init_1 12 rfl rfl
theorem dX9_init_57 : Dc cX9_init 57 (.aload_n 0) 1 58 := dc_of tkX9_init_1 13 rfl rfl
theorem dX9_init_58 : Dc cX9_init 58 (.bipush 40) 2 60 := dc_of tkX9_init_1 14 rfl rfl
theorem dX9_init_60 : Dc cX9_init 60 (.newarray .int) 2 62 := dc_of tkX9_init_1 15 rfl rfl
def tbX9_init_2 : List (Nat × Instr × Nat) := [(62, .putfield 34, 3), (65, .aload_n 0, 1), (66, .bipush 40, 2), (68, .newarray .int, 2), (70, .putfield 37, 3), (73, .aload_n 0, 1), (74, .bipush 40, 2), (76, .newarray .int, 2), (78, .putfield 40, 3), (81, .aload_n 0, 1), (82, .bipush 40, 2), (84, .newarray .int, 2), (86, .putfield 43, 3), (89, .aload_n 0, 1), (90, .bipush 40, 2), (92, .newarray .int, 2)]
theorem tkX9_init_2 : tbX9_init_2.all (fun q => decide (decode cX9_init q.1 = .ok q.2)) = true := by decide +kernel
theorem dX9_init_62 : Dc cX9_init 62 (.putfield 34) 3 65 := dc_of tkX9_init_2 0 rfl rfl
theorem dX9_init_65 : Dc cX9_init 65 (.aload_n 0) 1 66 := dc_of tkX9_init_2 1 rfl rfl
theorem dX9_init_66 : Dc cX9_init 66 (.bipush 40) 2 68 := dc_of tkX9_init_2 2 rfl rfl
theorem dX9_init_68 : Dc cX9_init 68 (.newarray .int) 2 70 := dc_of tkX9_init_2 3 rfl rfl
theorem dX9_init_70 : Dc cX9_init 70 (.putfield 37) 3 73 := dc_of tkX9_init_2 4 rfl rfl
theorem dX9_init_73 : Dc cX9_init 73 (.aload_n 0) 1 74 := dc_of tkX9_init_2 5 rfl rfl
theorem dX9_init_74 : Dc cX9_init 74 (.bipush 40) 2 76 := dc_of tkX9_init_2 6 rfl rfl
theorem dX9_init_76 : Dc cX9_init 76 (.newarray .int) 2 78 := dc_of tkX9_init_2 7 rfl rfl
theorem dX9_init_78 : Dc cX9_init 78 (.putfield 40) 3 81 := dc_of tkX9_init_2 8 rfl rfl
theorem dX9_init_81 : Dc cX9_init 81 (.aload_n 0) 1 82 := dc_of tkX9_init_2 9 rfl rfl
theorem dX9_init_82 : Dc cX9_init 82 (.bipush 40) 2 84 := dc_of tkX9_init_2 10 rfl rfl
theorem dX9_init_84 : Dc cX9_init 84 (.newarray .int) 2 86 := dc_of tkX9_init_2 11 rfl rfl
theorem dX9_init_86 : Dc cX9_init 86 (.putfield 43) 3 89 := dc_of tkX9_init_2 12 rfl rfl
theorem dX9_init_89 : Dc cX9_init 89 (.aload_n 0) 1 90 := dc_of tkX9_init_2 13 rfl rfl
theorem dX9_init_90 : Dc cX9_init 90 (.bipush 40) 2 92 := dc_of tkX9_init_2 14 rfl rfl
theorem dX9_init_92 : Dc cX9_init 92 (.newarray .int) 2 94 := dc_of tkX9_init_2 15 rfl rfl
def tbX9_init_3 : List (Nat × Instr × Nat) := [(94, .putfield 46, 3), (97, .aload_n 0, 1), (98, .sipush 320, 3), (101, .newarray .int, 2), (103, .putfield 49, 3), (106, .aload_n 0, 1), (107, .sipush 320, 3), (110, .newarray .int, 2), (112, .putfield 52, 3), (115, .aload_n 0, 1), (116, .bipush 20, 2), (118, .newarray .int, 2), (120, .putfield 55, 3), (123, .return_, 1)]
theorem tkX9_init_3 : tbX9_init_3.all (fun q => decide (decode cX9_init q.1 = .ok q.2)) = true := by decide +kernel
theorem dX9_init_94 : Dc cX9_init 94 (.putfield 46) 3 97 := dc_of tkX9_init_3 0 rfl rfl
theorem dX9_init_97 : Dc cX9_init 97 (.aload_n 0) 1 98 := dc_of tkX9_init_3 1 rfl rfl
theorem dX9_init_98 : Dc cX9_init 98 (.sipush 320) 3 101 := dc_of tkX9_init_3 2 rfl rfl
theorem dX9_init_101 : Dc cX9_init 101 (.newarray .int) 2 103 := dc_of tkX9_init_3 3 rfl rfl
theorem dX9_init_103 : Dc cX9_init 103 (.putfield 49) 3 106 := dc_of tkX9_init_3 4 rfl rfl
theorem dX9_init_106 : Dc cX9_init 106 (.aload_n 0) 1 107 := dc_of tkX9_init_3 5 rfl rfl
theorem dX9_init_107 : Dc cX9_init 107 (.sipush 320) 3 110 := dc_of tkX9_init_3 6 rfl rfl
theorem dX9_init_110 : Dc cX9_init 110 (.newarray .int) 2 112 := dc_of tkX9_init_3 7 rfl rfl
theorem dX9_init_112 : Dc cX9_init 112 (.putfield 52) 3 115 := dc_of tkX9_init_3 8 rfl rfl
theorem dX9_init_115 : Dc cX9_init 115 (.aload_n 0) 1 116 := dc_of tkX9_init_3 9 rfl rfl
theorem dX9_init_116 : Dc cX9_init 116 (.bipush 20) 2 118 := dc_of tkX9_init_3 10 rfl rfl
theorem dX9_init_118 : Dc cX9_init 118 (.newarray .int) 2 120 := dc_of tkX9_init_3 11 rfl rfl
theorem dX9_init_120 : Dc cX9_init 120 (.putfield 55) 3 123 := dc_of tkX9_init_3 12 rfl rfl
theorem dX9_init_123 : Dc cX9_init 123 (.return_) 1 124 := dc_of tkX9_init_3 13 rfl rfl
def tbX7_init_0 : List (Nat × Instr × Nat) := [(0, .aload_n 0, 1), (1, .invokespecial 3, 3), (4, .aload_n 0, 1), (5, .iconst 0, 1), (6, .putfield 9, 3), (9, .aload_n 0, 1), (10, .bipush 20, 2), (12, .newarray .int, 2), (14, .putfield 15, 3), (17, .aload_n 0, 1), (18, .bipush 20, 2), (20, .newarray .int, 2), (22, .putfield 19, 3), (25, .aload_n 0, 1), (26, .bipush 20, 2), (28, .newarray .int, 2)]
theorem tkX7_init_0 : tbX7_init_0.all (fun q => decide (decode cX7_init q.1 = .ok q.2)) = true := by decide +kernel
theorem dX7_init_0 : Dc cX7_init 0 (.aload_n 0) 1 1 := dc_of tkX7_init_0 0 rfl rfl
theorem dX7_init_1 : Dc cX7_init 1 (.invokespecial 3) 3 4 := dc_of tkX7_init_0 1 rfl rfl
theorem dX7_init_4 : Dc cX7_init 4 (.aload_n 0) 1 5 := dc_of tkX7_init_0 2 rfl rfl
theorem dX7_init_5 : Dc cX7_init 5 (.iconst 0) 1 6 := dc_of tkX7_init_0 3 rfl rfl
theorem dX7_init_6 : Dc cX7_init 6 (.putfield 9) 3 9 := dc_of tkX7_init_0 4 rfl rfl
theorem dX7_init_9 : Dc cX7_init 9 (.aload_n 0) 1 10 := dc_of tkX7_init_0 5 rfl rfl
theorem dX7_init_10 : Dc cX7_init 10 (.bipush 20) 2 12 := dc_of tkX7_init_0 6 rfl rfl
theorem dX7_init_12 : Dc cX7_init 12 (.newarray .int) 2 14 := dc_of tkX7_init_0 7 rfl rfl
theorem dX7_init_14 : Dc cX7_init 14 (.putfield 15) 3 17 := dc_of tkX7_init_0 8 rfl rfl
theorem dX7_init_17 : Dc cX7_init 17 (.aload_n 0) 1 18 := dc_of tkX7_init_0 9 rfl rfl
theorem dX7_init_18 : Dc cX7_init 18 (.bipush 20) 2 20 := dc_of tkX7_init_0 10 rfl rfl
theorem dX7_init_20 : Dc cX7_init 20 (.newarray .int) 2 22 := dc_of tkX7_init_0 11 rfl rfl
theorem dX7_init_22 : Dc cX7_init 22 (.putfield 19) 3 25 := dc_of tkX7_init_0 12 rfl rfl
theorem dX7_init_25 : Dc cX7_init 25 (.aload_n 0) 1 26 := dc_of tkX7_init_0 13 rfl rfl
theorem dX7_init_26 : Dc cX7_init 26 (.bipush 20) 2 28 := dc_of tkX7_init_0 14 rfl rfl
theorem dX7_init_28 : Dc cX7_init 28 (.newarray .int) 2 30 := dc_of tkX7_init_0 15 rfl rfl
def tbX7_init_1 : List (Nat × Instr × Nat) := [(30, .putfield 22, 3), (33, .aload_n 0, 1), (34, .iconst 0, 1), (35, .putfield 25, 3), (38, .aload_n 0, 1), (39, .bipush 20, 2), (41, .newarray .int, 2), (43, .putfield 28, 3), (46, .aload_n 0, 1), (47, .bipush 20, 2), (49, .newarray .int, 2), (51, .putfield 31, 3), (54, .aload_n 0, 1), (55, .bipush 20, 2), (57, .newarray .int, 2), (59, .putfield 34, 3)]
theorem tkX7_init_1 : tbX7_init_1.all (fun q => decide (decode cX7_init q.1 = .ok q.2)) = true := by decide +kernel
theorem dX7_init_30 : Dc cX7_init 30 (.putfield 22) 3 33 := dc_of tkX7_init_1 0 rfl rfl
theorem dX7_init_33 : Dc cX7_init 33 (.aload_n 0) 1 34 := dc_of tkX7_init_1 1 rfl rfl
theorem dX7_init_34 : Dc cX7_init 34 (.iconst 0) 1 35 := dc_of tkX7_init_1 2 rfl rfl
theorem dX7_init_35 : Dc cX7_init 35 (.putfield 25) 3 38 := dc_of tkX7_init_1 3 rfl rfl
theorem dX7_init_38 : Dc cX7_init 38 (.aload_n 0) 1 39 := dc_of tkX7_init_1 4 rfl rfl
theorem dX7_init_39 : Dc cX7_init 39 (.bipush 20) 2 41 := dc_of tkX7_init_1 5 rfl rfl
theorem dX7_init_41 : Dc cX7_init 41 (.newarray .int) 2 43 := dc_of tkX7_init_1 6 rfl rfl
theorem dX7_init_43 : Dc cX7_init 43 (.putfield 28) 3 46 := dc_of tkX7_init_1 7 rfl rfl
theorem dX7_init_46 : Dc cX7_init 46 (.aload_n 0) 1 47 := dc_of tkX7_init_1 8 rfl rfl
theorem dX7_init_47 : Dc cX7_init 47 (.bipush 20) 2 49 := dc_of tkX7_init_1 9 rfl rfl
theorem dX7_init_49 : Dc cX7_init 49 (.newarray .int) 2 51 := dc_of tkX7_init_1 10 rfl rfl
theorem dX7_init_51 : Dc cX7_init 51 (.putfield 31) 3 54 := dc_of tkX7_init_1 11 rfl rfl
theorem dX7_init_54 : Dc cX7_init 54 (.aload_n 0) 1 55 := dc_of tkX7_init_1 12 rfl rfl
theorem dX7_init_55 : Dc cX7_init 55 (.bipush 20) 2 57 := dc_of tkX7_init_1 13 rfl rfl
theorem dX7_init_57 : Dc cX7_init 57 (.newarray .int) 2 59 := dc_of tkX7_init_1 14 rfl rfl
theorem dX7_init_59 : Dc cX7_init 59 (.putfield 34) 3 62 := dc_of tkX7_init_1 15 rfl rfl
def tbX7_init_2 : List (Nat × Instr × Nat) := [(62, .return_, 1)]
theorem tkX7_init_2 : tbX7_init_2.all (fun q => decide (decode cX7_init q.1 = .ok q.2)) = true := by decide +kernel
theorem dX7_init_62 : Dc cX7_init 62 (.return_) 1 63 := dc_of tkX7_init_2 0 rfl rfl
def tbX4_init_0 : List (Nat × Instr × Nat) := [(0, .aload_n 0, 1), (1, .invokespecial 3, 3), (4, .aload_n 0, 1), (5, .iconst 0, 1), (6, .putfield 9, 3), (9, .aload_n 0, 1), (10, .bipush 12, 2), (12, .newarray .int, 2), (14, .putfield 15, 3), (17, .aload_n 0, 1), (18, .bipush 12, 2), (20, .newarray .int, 2), (22, .putfield 19, 3), (25, .aload_n 0, 1), (26, .bipush 12, 2), (28, .newarray .int, 2)]
theorem tkX4_init_0 : tbX4_init_0.all (fun q => decide (decode cX4_init q.1 = .ok q.2)) = true := by decide +kernel
theorem dX4_init_0 : Dc cX4_init 0 (.aload_n 0) 1 1 := dc_of tkX4_init_0 0 rfl rfl
theorem dX4_init_1 : Dc cX4_init 1 (.invokespecial 3) 3 4 := dc_of tkX4_init_0 1 rfl rfl
theorem dX4_init_4 : Dc cX4_init 4 (.aload_n 0) 1 5 := dc_of tkX4_init_0 2 rfl rfl
theorem dX4_init_5 : Dc cX4_init 5 (.iconst 0) 1 6 := dc_of tkX4_init_0 3 rfl rfl
theorem dX4_init_6 : Dc cX4_init 6 (.putfield 9) 3 9 := dc_of tkX4_init_0 4 rfl rfl
theorem dX4_init_9 : Dc cX4_init 9 (.aload_n 0) 1 10 := dc_of tkX4_init_0 5 rfl rfl
theorem dX4_init_10 : Dc cX4_init 10 (.bipush 12) 2 12 := dc_of tkX4_init_0 6 rfl rfl
theorem dX4_init_12 : Dc cX4_init 12 (.newarray .int) 2 14 := dc_of tkX4_init_0 7 rfl rfl
theorem dX4_init_14 : Dc cX4_init 14 (.putfield 15) 3 17 := dc_of tkX4_init_0 8 rfl rfl
theorem dX4_init_17 : Dc cX4_init 17 (.aload_n 0) 1 18 := dc_of tkX4_init_0 9 rfl rfl
theorem dX4_init_18 : Dc cX4_init 18 (.bipush 12) 2 20 := dc_of tkX4_init_0 10 rfl rfl
theorem dX4_init_20 : Dc cX4_init 20 (.newarray .int) 2 22 := dc_of tkX4_init_0 11 rfl rfl
theorem dX4_init_22 : Dc cX4_init 22 (.putfield 19) 3 25 := dc_of tkX4_init_0 12 rfl rfl
theorem dX4_init_25 : Dc cX4_init 25 (.aload_n 0) 1 26 := dc_of tkX4_init_0 13 rfl rfl
theorem dX4_init_26 : Dc cX4_init 26 (.bipush 12) 2 28 := dc_of tkX4_init_0 14 rfl rfl
theorem dX4_init_28 : Dc cX4_init 28 (.newarray .int) 2 30 := dc_of tkX4_init_0 15 rfl rfl
def tbX4_init_1 : List (Nat × Instr × Nat) := [(30, .putfield 22, 3), (33, .aload_n 0, 1), (34, .bipush 12, 2), (36, .newarray .int, 2), (38, .putfield 25, 3), (41, .aload_n 0, 1), (42, .bipush 12, 2), (44, .newarray .int, 2), (46, .putfield 28, 3), (49, .aload_n 0, 1), (50, .bipush 12, 2), (52, .newarray .int, 2), (54, .putfield 31, 3), (57, .aload_n 0, 1), (58, .sipush 1152, 3), (61, .newarray .int, 2)]
theorem tkX4_init_1 : tbX4_init_1.all (fun q => decide (decode cX4_init q.1 = .ok q.2)) = true := by decide +kernel
theorem dX4_init_30 : Dc cX4_init 30 (.putfield 22) 3 33 := dc_of tkX4_init_1 0 rfl rfl
theorem dX4_init_33 : Dc cX4_init 33 (.aload_n 0) 1 34 := dc_of tkX4_init_1 1 rfl rfl
theorem dX4_init_34 : Dc cX4_init 34 (.bipush 12) 2 36 := dc_of tkX4_init_1 2 rfl rfl
theorem dX4_init_36 : Dc cX4_init 36 (.newarray .int) 2 38 := dc_of tkX4_init_1 3 rfl rfl
theorem dX4_init_38 : Dc cX4_init 38 (.putfield 25) 3 41 := dc_of tkX4_init_1 4 rfl rfl
theorem dX4_init_41 : Dc cX4_init 41 (.aload_n 0) 1 42 := dc_of tkX4_init_1 5 rfl rfl
theorem dX4_init_42 : Dc cX4_init 42 (.bipush 12) 2 44 := dc_of tkX4_init_1 6 rfl rfl
theorem dX4_init_44 : Dc cX4_init 44 (.newarray .int) 2 46 := dc_of tkX4_init_1 7 rfl rfl
theorem dX4_init_46 : Dc cX4_init 46 (.putfield 28) 3 49 := dc_of tkX4_init_1 8 rfl rfl
theorem dX4_init_49 : Dc cX4_init 49 (.aload_n 0) 1 50 := dc_of tkX4_init_1 9 rfl rfl
theorem dX4_init_50 : Dc cX4_init 50 (.bipush 12) 2 52 := dc_of tkX4_init_1 10 rfl rfl
theorem dX4_init_52 : Dc cX4_init 52 (.newarray .int) 2 54 := dc_of tkX4_init_1 11 rfl rfl
theorem dX4_init_54 : Dc cX4_init 54 (.putfield 31) 3 57 := dc_of tkX4_init_1 12 rfl rfl
theorem dX4_init_57 : Dc cX4_init 57 (.aload_n 0) 1 58 := dc_of tkX4_init_1 13 rfl rfl
theorem dX4_init_58 : Dc cX4_init 58 (.sipush 1152) 3 61 := dc_of tkX4_init_1 14 rfl rfl
theorem dX4_init_61 : Dc cX4_init 61 (.newarray .int) 2 63 := dc_of tkX4_init_1 15 rfl rfl
def tbX4_init_2 : List (Nat × Instr × Nat) := [(63, .putfield 34, 3), (66, .aload_n 0, 1), (67, .iconst 4, 1), (68, .newarray .int, 2), (70, .putfield 37, 3), (73, .aload_n 0, 1), (74, .bipush 96, 2), (76, .newarray .int, 2), (78, .putfield 40, 3), (81, .return_, 1)]
theorem tkX4_init_2 : tbX4_init_2.all (fun q => decide (decode cX4_init q.1 = .ok q.2)) = true := by decide +kernel
theorem dX4_init_63 : Dc cX4_init 63 (.putfield 34) 3 66 := dc_of tkX4_init_2 0 rfl rfl
theorem dX4_init_66 : Dc cX4_init 66 (.aload_n 0) 1 67 := dc_of tkX4_init_2 1 rfl rfl
theorem dX4_init_67 : Dc cX4_init 67 (.iconst 4) 1 68 := dc_of tkX4_init_2 2 rfl rfl
theorem dX4_init_68 : Dc cX4_init 68 (.newarray .int) 2 70 := dc_of tkX4_init_2 3 rfl rfl
theorem dX4_init_70 : Dc cX4_init 70 (.putfield 37) 3 73 := dc_of tkX4_init_2 4 rfl rfl
theorem dX4_init_73 : Dc cX4_init 73 (.aload_n 0) 1 74 := dc_of tkX4_init_2 5 rfl rfl
theorem dX4_init_74 : Dc cX4_init 74 (.bipush 96) 2 76 := dc_of tkX4_init_2 6 rfl rfl
theorem dX4_init_76 : Dc cX4_init 76 (.newarray .int) 2 78 := dc_of tkX4_init_2 7 rfl rfl
theorem dX4_init_78 : Dc cX4_init 78 (.putfield 40) 3 81 := dc_of tkX4_init_2 8 rfl rfl
theorem dX4_init_81 : Dc cX4_init 81 (.return_) 1 82 := dc_of tkX4_init_2 9 rfl rfl
def tbX3_init_0 : List (Nat × Instr × Nat) := [(0, .aload_n 0, 1), (1, .invokespecial 3, 3), (4, .aload_n 0, 1), (5, .iconst 2, 1), (6, .newarray .int, 2), (8, .putfield 9, 3), (11, .aload_n 0, 1), (12, .bipush 20, 2), (14, .newarray .int, 2), (16, .putfield 15, 3), (19, .aload_n 0, 1), (20, .bipush 20, 2), (22, .newarray .int, 2), (24, .putfield 18, 3), (27, .aload_n 0, 1), (28, .iconst 3, 1)]
theorem tkX3_init_0 : tbX3_init_0.all (fun q => decide (decode cX3_init q.1 = .ok q.2)) = true := by decide +kernel
theorem dX3_init_0 : Dc cX3_init 0 (.aload_n 0) 1 1 := dc_of tkX3_init_0 0 rfl rfl
theorem dX3_init_1 : Dc cX3_init 1 (.invokespecial 3) 3 4 := dc_of tkX3_init_0 1 rfl rfl
theorem dX3_init_4 : Dc cX3_init 4 (.aload_n 0) 1 5 := dc_of tkX3_init_0 2 rfl rfl
theorem dX3_init_5 : Dc cX3_init 5 (.iconst 2) 1 6 := dc_of tkX3_init_0 3 rfl rfl
theorem dX3_init_6 : Dc cX3_init 6 (.newarray .int) 2 8 := dc_of tkX3_init_0 4 rfl rfl
theorem dX3_init_8 : Dc cX3_init 8 (.putfield 9) 3 11 := dc_of tkX3_init_0 5 rfl rfl
theorem dX3_init_11 : Dc cX3_init 11 (.aload_n 0) 1 12 := dc_of tkX3_init_0 6 rfl rfl
theorem dX3_init_12 : Dc cX3_init 12 (.bipush 20) 2 14 := dc_of tkX3_init_0 7 rfl rfl
theorem dX3_init_14 : Dc cX3_init 14 (.newarray .int) 2 16 := dc_of tkX3_init_0 8 rfl rfl
theorem dX3_init_16 : Dc cX3_init 16 (.putfield 15) 3 19 := dc_of tkX3_init_0 9 rfl rfl
theorem dX3_init_19 : Dc cX3_init 19 (.aload_n 0) 1 20 := dc_of tkX3_init_0 10 rfl rfl
theorem dX3_init_20 : Dc cX3_init 20 (.bipush 20) 2 22 := dc_of tkX3_init_0 11 rfl rfl
theorem dX3_init_22 : Dc cX3_init 22 (.newarray .int) 2 24 := dc_of tkX3_init_0 12 rfl rfl
theorem dX3_init_24 : Dc cX3_init 24 (.putfield 18) 3 27 := dc_of tkX3_init_0 13 rfl rfl
theorem dX3_init_27 : Dc cX3_init 27 (.aload_n 0) 1 28 := dc_of tkX3_init_0 14 rfl rfl
theorem dX3_init_28 : Dc cX3_init 28 (.iconst 3) 1 29 := dc_of tkX3_init_0 15 rfl rfl
def tbX3_init_1 : List (Nat × Instr × Nat) := [(29, .newarray .int, 2), (31, .putfield 21, 3), (34, .aload_n 0, 1), (35, .bipush 10, 2), (37, .newarray .int, 2), (39, .putfield 24, 3), (42, .aload_n 0, 1), (43, .iconst 0, 1), (44, .putfield 27, 3), (47, .aload_n 0, 1), (48, .iconst 1, 1), (49, .newarray .int, 2), (51, .putfield 31, 3), (54, .return_, 1)]
theorem tkX3_init_1 : tbX3_init_1.all (fun q => decide (decode cX3_init q.1 = .ok q.2)) = true := by decide +kernel
theorem dX3_init_29 : Dc cX3_init 29 (.newarray .int) 2 31 := dc_of tkX3_init_1 0 rfl rfl
theorem dX3_init_31 : Dc cX3_init 31 (.putfield 21) 3 34 := dc_of tkX3_init_1 1 rfl rfl
theorem dX3_init_34 : Dc cX3_init 34 (.aload_n 0) 1 35 := dc_of tkX3_init_1 2 rfl rfl
theorem dX3_init_35 : Dc cX3_init 35 (.bipush 10) 2 37 := dc_of tkX3_init_1 3 rfl rfl
theorem dX3_init_37 : Dc cX3_init 37 (.newarray .int) 2 39 := dc_of tkX3_init_1 4 rfl rfl
theorem dX3_init_39 : Dc cX3_init 39 (.putfield 24) 3 42 := dc_of tkX3_init_1 5 rfl rfl
theorem dX3_init_42 : Dc cX3_init 42 (.aload_n 0) 1 43 := dc_of tkX3_init_1 6 rfl rfl
theorem dX3_init_43 : Dc cX3_init 43 (.iconst 0) 1 44 := dc_of tkX3_init_1 7 rfl rfl
theorem dX3_init_44 : Dc cX3_init 44 (.putfield 27) 3 47 := dc_of tkX3_init_1 8 rfl rfl
theorem dX3_init_47 : Dc cX3_init 47 (.aload_n 0) 1 48 := dc_of tkX3_init_1 9 rfl rfl
theorem dX3_init_48 : Dc cX3_init 48 (.iconst 1) 1 49 := dc_of tkX3_init_1 10 rfl rfl
theorem dX3_init_49 : Dc cX3_init 49 (.newarray .int) 2 51 := dc_of tkX3_init_1 11 rfl rfl
theorem dX3_init_51 : Dc cX3_init 51 (.putfield 31) 3 54 := dc_of tkX3_init_1 12 rfl rfl
theorem dX3_init_54 : Dc cX3_init 54 (.return_) 1 55 := dc_of tkX3_init_1 13 rfl rfl
def tbX2_init_0 : List (Nat × Instr × Nat) := [(0, .aload_n 0, 1), (1, .invokespecial 3, 3), (4, .aload_n 0, 1), (5, .bipush 104, 2), (7, .newarray .int, 2), (9, .putfield 9, 3), (12, .aload_n 0, 1), (13, .bipush 8, 2), (15, .newarray .int, 2), (17, .putfield 15, 3), (20, .aload_n 0, 1), (21, .bipush 8, 2), (23, .newarray .int, 2), (25, .putfield 18, 3), (28, .return_, 1)]
theorem tkX2_init_0 : tbX2_init_0.all (fun q => decide (decode cX2_init q.1 = .ok q.2)) = true := by decide +kernel
theorem dX2_init_0 : Dc cX2_init 0 (.aload_n 0) 1 1 := dc_of tkX2_init_0 0 rfl rfl
theorem dX2_init_1 : Dc cX2_init 1 (.invokespecial 3) 3 4 := dc_of tkX2_init_0 1 rfl rfl
theorem dX2_init_4 : Dc cX2_init 4 (.aload_n 0) 1 5 := dc_of tkX2_init_0 2 rfl rfl
theorem dX2_init_5 : Dc cX2_init 5 (.bipush 104) 2 7 := dc_of tkX2_init_0 3 rfl rfl
theorem dX2_init_7 : Dc cX2_init 7 (.newarray .int) 2 9 := dc_of tkX2_init_0 4 rfl rfl
theorem dX2_init_9 : Dc cX2_init 9 (.putfield 9) 3 12 := dc_of tkX2_init_0 5 rfl rfl
theorem dX2_init_12 : Dc cX2_init 12 (.aload_n 0) 1 13 := dc_of tkX2_init_0 6 rfl rfl
theorem dX2_init_13 : Dc cX2_init 13 (.bipush 8) 2 15 := dc_of tkX2_init_0 7 rfl rfl
theorem dX2_init_15 : Dc cX2_init 15 (.newarray .int) 2 17 := dc_of tkX2_init_0 8 rfl rfl
theorem dX2_init_17 : Dc cX2_init 17 (.putfield 15) 3 20 := dc_of tkX2_init_0 9 rfl rfl
theorem dX2_init_20 : Dc cX2_init 20 (.aload_n 0) 1 21 := dc_of tkX2_init_0 10 rfl rfl
theorem dX2_init_21 : Dc cX2_init 21 (.bipush 8) 2 23 := dc_of tkX2_init_0 11 rfl rfl
theorem dX2_init_23 : Dc cX2_init 23 (.newarray .int) 2 25 := dc_of tkX2_init_0 12 rfl rfl
theorem dX2_init_25 : Dc cX2_init 25 (.putfield 18) 3 28 := dc_of tkX2_init_0 13 rfl rfl
theorem dX2_init_28 : Dc cX2_init 28 (.return_) 1 29 := dc_of tkX2_init_0 14 rfl rfl
def tbX1_init_0 : List (Nat × Instr × Nat) := [(0, .aload_n 0, 1), (1, .invokespecial 3, 3), (4, .aload_n 0, 1), (5, .iconst 0, 1), (6, .putfield 9, 3), (9, .aload_n 0, 1), (10, .bipush 7, 2), (12, .newarray .int, 2), (14, .putfield 15, 3), (17, .aload_n 0, 1), (18, .bipush 7, 2), (20, .newarray .int, 2), (22, .putfield 19, 3), (25, .aload_n 0, 1), (26, .bipush 7, 2), (28, .newarray .int, 2)]
theorem tkX1_init_0 : tbX1_init_0.all (fun q => decide (decode cX1_init q.1 = .ok q.2)) = true := by decide +kernel
theorem dX1_init_0 : Dc cX1_init 0 (.aload_n 0) 1 1 := dc_of tkX1_init_0 0 rfl rfl
theorem dX1_init_1 : Dc cX1_init 1 (.invokespecial 3) 3 4 := dc_of tkX1_init_0 1 rfl rfl
theorem dX1_init_4 : Dc cX1_init 4 (.aload_n 0) 1 5 := dc_of tkX1_init_0 2 rfl rfl
theorem dX1_init_5 : Dc cX1_init 5 (.iconst 0) 1 6 := dc_of tkX1_init_0 3 rfl rfl
theorem dX1_init_6 : Dc cX1_init 6 (.putfield 9) 3 9 := dc_of tkX1_init_0 4 rfl rfl
theorem dX1_init_9 : Dc cX1_init 9 (.aload_n 0) 1 10 := dc_of tkX1_init_0 5 rfl rfl
theorem dX1_init_10 : Dc cX1_init 10 (.bipush 7) 2 12 := dc_of tkX1_init_0 6 rfl rfl
theorem dX1_init_12 : Dc cX1_init 12 (.newarray .int) 2 14 := dc_of tkX1_init_0 7 rfl rfl
theorem dX1_init_14 : Dc cX1_init 14 (.putfield 15) 3 17 := dc_of tkX1_init_0 8 rfl rfl
theorem dX1_init_17 : Dc cX1_init 17 (.aload_n 0) 1 18 := dc_of tkX1_init_0 9 rfl rfl
theorem dX1_init_18 : Dc cX1_init 18 (.bipush 7) 2 20 := dc_of tkX1_init_0 10 rfl rfl
theorem dX1_init_20 : Dc cX1_init 20 (.newarray .int) 2 22 := dc_of tkX1_init_0 11 rfl rfl
theorem dX1_init_22 : Dc cX1_init 22 (.putfield 19) 3 25 := dc_of tkX1_init_0 12 rfl rfl
theorem dX1_init_25 : Dc cX1_init 25 (.aload_n 0) 1 26 := dc_of tkX1_init_0 13 rfl rfl
theorem dX1_init_26 : Dc cX1_init 26 (.bipush 7) 2 28 := dc_of tkX1_init_0 14 rfl rfl
theorem dX1_init_28 : Dc cX1_init 28 (.newarray .int) 2 30 := dc_of tkX1_init_0 15 rfl rfl
def tbX1_init_1 : List (Nat × Instr × Nat) := [(30, .putfield 22, 3), (33, .aload_n 0, 1), (34, .bipush 7, 2), (36, .newarray .int, 2), (38, .putfield 25, 3), (41, .aload_n 0, 1), (42, .iconst 0, 1), (43, .putfield 28, 3), (46, .aload_n 0, 1), (47, .bipush 7, 2), (49, .newarray .int, 2), (51, .putfield 31, 3), (54, .aload_n 0, 1), (55, .iconst 0, 1), (56, .putfield 34, 3), (59, .aload_n 0, 1)]
theorem tkX1_init_1 : tbX1_init_1.all (fun q => decide (decode cX1_init q.1 = .ok q.2)) = true := by decide +kernel
theorem dX1_init_30 : Dc cX1_init 30 (.putfield 22) 3 33 := dc_of tkX1_init_1 0 rfl rfl
theorem dX1_init_33 : Dc cX1_init 33 (.aload_n 0) 1 34 := dc_of tkX1_init_1 1 rfl rfl
theorem dX1_init_34 : Dc cX1_init 34 (.bipush 7) 2 36 := dc_of tkX1_init_1 2 rfl rfl
theorem dX1_init_36 : Dc cX1_init 36 (.newarray .int) 2 38 := dc_of tkX1_init_1 3 rfl rfl
theorem dX1_init_38 : Dc cX1_init 38 (.putfield 25) 3 41 := dc_of tkX1_init_1 4 rfl rfl
theorem dX1_init_41 : Dc cX1_init 41 (.aload_n 0) 1 42 := dc_of tkX1_init_1 5 rfl rfl
theorem dX1_init_42 : Dc cX1_init 42 (.iconst 0) 1 43 := dc_of tkX1_init_1 6 rfl rfl
theorem dX1_init_43 : Dc cX1_init 43 (.putfield 28) 3 46 := dc_of tkX1_init_1 7 rfl rfl
theorem dX1_init_46 : Dc cX1_init 46 (.aload_n 0) 1 47 := dc_of tkX1_init_1 8 rfl rfl
theorem dX1_init_47 : Dc cX1_init 47 (.bipush 7) 2 49 := dc_of tkX1_init_1 9 rfl rfl
theorem dX1_init_49 : Dc cX1_init 49 (.newarray .int) 2 51 := dc_of tkX1_init_1 10 rfl rfl
theorem dX1_init_51 : Dc cX1_init 51 (.putfield 31) 3 54 := dc_of tkX1_init_1 11 rfl rfl
theorem dX1_init_54 : Dc cX1_init 54 (.aload_n 0) 1 55 := dc_of tkX1_init_1 12 rfl rfl
theorem dX1_init_55 : Dc cX1_init 55 (.iconst 0) 1 56 := dc_of tkX1_init_1 13 rfl rfl
theorem dX1_init_56 : Dc cX1_init 56 (.putfield 34) 3 59 := dc_of tkX1_init_1 14 rfl rfl
theorem dX1_init_59 : Dc cX1_init 59 (.aload_n 0) 1 60 := dc_of tkX1_init_1 15 rfl rfl
def tbX1_init_2 : List (Nat × Instr × Nat) := [(60, .iconst 0, 1), (61, .putfield 37, 3), (64, .aload_n 0, 1), (65, .iconst 0, 1), (66, .putfield 40, 3), (69, .return_, 1)]
theorem tkX1_init_2 : tbX1_init_2.all (fun q => decide (decode cX1_init q.1 = .ok q.2)) = true := by decide +kernel
theorem dX1_init_60 : Dc cX1_init 60 (.iconst 0) 1 61 := dc_of tkX1_init_2 0 rfl rfl
theorem dX1_init_61 : Dc cX1_init 61 (.putfield 37) 3 64 := dc_of tkX1_init_2 1 rfl rfl
theorem dX1_init_64 : Dc cX1_init 64 (.aload_n 0) 1 65 := dc_of tkX1_init_2 2 rfl rfl
theorem dX1_init_65 : Dc cX1_init 65 (.iconst 0) 1 66 := dc_of tkX1_init_2 3 rfl rfl
theorem dX1_init_66 : Dc cX1_init 66 (.putfield 40) 3 69 := dc_of tkX1_init_2 4 rfl rfl
theorem dX1_init_69 : Dc cX1_init 69 (.return_) 1 70 := dc_of tkX1_init_2 5 rfl rfl
def tbX0_init_0 : List (Nat × Instr × Nat) := [(0, .aload_n 0, 1), (1, .invokespecial 3, 3), (4, .aload_n 0, 1), (5, .iconst 0, 1), (6, .putfield 9, 3), (9, .aload_n 0, 1), (10, .iconst 0, 1), (11, .putfield 15, 3), (14, .aload_n 0, 1), (15, .bipush 16, 2), (17, .newarray .int, 2), (19, .putfield 18, 3), (22, .aload_n 0, 1), (23, .bipush 16, 2), (25, .newarray .int, 2), (27, .putfield 22, 3)]
theorem tkX0_init_0 : tbX0_init_0.all (fun q => decide (decode cX0_init q.1 = .ok q.2)) = true := by decide +kernel
theorem dX0_init_0 : Dc cX0_init 0 (.aload_n 0) 1 1 := dc_of tkX0_init_0 0 rfl rfl
theorem dX0_init_1 : Dc cX0_init 1 (.invokespecial 3) 3 4 := dc_of tkX0_init_0 1 rfl rfl
theorem dX0_init_4 : Dc cX0_init 4 (.aload_n 0) 1 5 := dc_of tkX0_init_0 2 rfl rfl
theorem dX0_init_5 : Dc cX0_init 5 (.iconst 0) 1 6 := dc_of tkX0_init_0 3 rfl rfl
theorem dX0_init_6 : Dc cX0_init 6 (.putfield 9) 3 9 := dc_of tkX0_init_0 4 rfl rfl
theorem dX0_init_9 : Dc cX0_init 9 (.aload_n 0) 1 10 := dc_of tkX0_init_0 5 rfl rfl
theorem dX0_init_10 : Dc cX0_init 10 (.iconst 0) 1 11 := dc_of tkX0_init_0 6 rfl rfl
theorem dX0_init_11 : Dc cX0_init 11 (.putfield 15) 3 14 := dc_of tkX0_init_0 7 rfl rfl
theorem dX0_init_14 : Dc cX0_init 14 (.aload_n 0) 1 15 := dc_of tkX0_init_0 8 rfl rfl
theorem dX0_init_15 : Dc cX0_init 15 (.bipush 16) 2 17 := dc_of tkX0_init_0 9 rfl rfl
theorem dX0_init_17 : Dc cX0_init 17 (.newarray .int) 2 19 := dc_of tkX0_init_0 10 rfl rfl
theorem dX0_init_19 : Dc cX0_init 19 (.putfield 18) 3 22 := dc_of tkX0_init_0 11 rfl rfl
theorem dX0_init_22 : Dc cX0_init 22 (.aload_n 0) 1 23 := dc_of tkX0_init_0 12 rfl rfl
theorem dX0_init_23 : Dc cX0_init 23 (.bipush 16) 2 25 := dc_of tkX0_init_0 13 rfl rfl
theorem dX0_init_25 : Dc cX0_init 25 (.newarray .int) 2 27 := dc_of tkX0_init_0 14 rfl rfl
theorem dX0_init_27 : Dc cX0_init 27 (.putfield 22) 3 30 := dc_of tkX0_init_0 15 rfl rfl
def tbX0_init_1 : List (Nat × Instr × Nat) := [(30, .aload_n 0, 1), (31, .bipush 16, 2), (33, .newarray .int, 2), (35, .putfield 25, 3), (38, .aload_n 0, 1), (39, .iconst 2, 1), (40, .newarray .int, 2), (42, .dup, 1), (43, .iconst 0, 1), (44, .ldc 28, 2), (46, .iastore, 1), (47, .dup, 1), (48, .iconst 1, 1), (49, .ldc 28, 2), (51, .iastore, 1), (52, .putfield 29, 3)]
theorem tkX0_init_1 : tbX0_init_1.all (fun q => decide (decode cX0_init q.1 = .ok q.2)) = true := by decide +kernel
theorem dX0_init_30 : Dc cX0_init 30 (.aload_n 0) 1 31 := dc_of tkX0_init_1 0 rfl rfl
theorem dX0_init_31 : Dc cX0_init 31 (.bipush 16) 2 33 := dc_of tkX0_init_1 1 rfl rfl
theorem dX0_init_33 : Dc cX0_init 33 (.newarray .int) 2 35 := dc_of tkX0_init_1 2 rfl rfl
theorem dX0_init_35 : Dc cX0_init 35 (.putfield 25) 3 38 := dc_of tkX0_init_1 3 rfl rfl
theorem dX0_init_38 : Dc cX0_init 38 (.aload_n 0) 1 39 := dc_of tkX0_init_1 4 rfl rfl
theorem dX0_init_39 : Dc cX0_init 39 (.iconst 2) 1 40 := dc_of tkX0_init_1 5 rfl rfl
theorem dX0_init_40 : Dc cX0_init 40 (.newarray .int) 2 42 := dc_of tkX0_init_1 6 rfl rfl
theorem dX0_init_42 : Dc cX0_init 42 (.dup) 1 43 := dc_of tkX0_init_1 7 rfl rfl
theorem dX0_init_43 : Dc cX0_init 43 (.iconst 0) 1 44 := dc_of tkX0_init_1 8 rfl rfl
theorem dX0_init_44 : Dc cX0_init 44 (.ldc 28) 2 46 := dc_of tkX0_init_1 9 rfl rfl
theorem dX0_init_46 : Dc cX0_init 46 (.iastore) 1 47 := dc_of tkX0_init_1 10 rfl rfl
theorem dX0_init_47 : Dc cX0_init 47 (.dup) 1 48 := dc_of tkX0_init_1 11 rfl rfl
theorem dX0_init_48 : Dc cX0_init 48 (.iconst 1) 1 49 := dc_of tkX0_init_1 12 rfl rfl
theorem dX0_init_49 : Dc cX0_init 49 (.ldc 28) 2 51 := dc_of tkX0_init_1 13 rfl rfl
theorem dX0_init_51 : Dc cX0_init 51 (.iastore) 1 52 := dc_of tkX0_init_1 14 rfl rfl
theorem dX0_init_52 : Dc cX0_init 52 (.putfield 29) 3 55 := dc_of tkX0_init_1 15 rfl rfl
def tbX0_init_2 : List (Nat × Instr × Nat) := [(55, .aload_n 0, 1), (56, .iconst 2, 1), (57, .newarray .int, 2), (59, .dup, 1), (60, .iconst 0, 1), (61, .bipush 10, 2), (63, .iastore, 1), (64, .dup, 1), (65, .iconst 1, 1), (66, .iconst 0, 1), (67, .iastore, 1), (68, .putfield 32, 3), (71, .aload_n 0, 1), (72, .new 35, 3), (75, .dup, 1), (76, .invokespecial 37, 3)]
theorem tkX0_init_2 : tbX0_init_2.all (fun q => decide (decode cX0_init q.1 = .ok q.2)) = true := by decide +kernel
theorem dX0_init_55 : Dc cX0_init 55 (.aload_n 0) 1 56 := dc_of tkX0_init_2 0 rfl rfl
theorem dX0_init_56 : Dc cX0_init 56 (.iconst 2) 1 57 := dc_of tkX0_init_2 1 rfl rfl
theorem dX0_init_57 : Dc cX0_init 57 (.newarray .int) 2 59 := dc_of tkX0_init_2 2 rfl rfl
theorem dX0_init_59 : Dc cX0_init 59 (.dup) 1 60 := dc_of tkX0_init_2 3 rfl rfl
theorem dX0_init_60 : Dc cX0_init 60 (.iconst 0) 1 61 := dc_of tkX0_init_2 4 rfl rfl
theorem dX0_init_61 : Dc cX0_init 61 (.bipush 10) 2 63 := dc_of tkX0_init_2 5 rfl rfl
theorem dX0_init_63 : Dc cX0_init 63 (.iastore) 1 64 := dc_of tkX0_init_2 6 rfl rfl
theorem dX0_init_64 : Dc cX0_init 64 (.dup) 1 65 := dc_of tkX0_init_2 7 rfl rfl
theorem dX0_init_65 : Dc cX0_init 65 (.iconst 1) 1 66 := dc_of tkX0_init_2 8 rfl rfl
theorem dX0_init_66 : Dc cX0_init 66 (.iconst 0) 1 67 := dc_of tkX0_init_2 9 rfl rfl
theorem dX0_init_67 : Dc cX0_init 67 (.iastore) 1 68 := dc_of tkX0_init_2 10 rfl rfl
theorem dX0_init_68 : Dc cX0_init 68 (.putfield 32) 3 71 := dc_of tkX0_init_2 11 rfl rfl
theorem dX0_init_71 : Dc cX0_init 71 (.aload_n 0) 1 72 := dc_of tkX0_init_2 12 rfl rfl
theorem dX0_init_72 : Dc cX0_init 72 (.new 35) 3 75 := dc_of tkX0_init_2 13 rfl rfl
theorem dX0_init_75 : Dc cX0_init 75 (.dup) 1 76 := dc_of tkX0_init_2 14 rfl rfl
theorem dX0_init_76 : Dc cX0_init 76 (.invokespecial 37) 3 79 := dc_of tkX0_init_2 15 rfl rfl
def tbX0_init_3 : List (Nat × Instr × Nat) := [(79, .putfield 38, 3), (82, .aload_n 0, 1), (83, .new 42, 3), (86, .dup, 1), (87, .invokespecial 44, 3), (90, .putfield 45, 3), (93, .aload_n 0, 1), (94, .new 49, 3), (97, .dup, 1), (98, .invokespecial 51, 3), (101, .putfield 52, 3), (104, .aload_n 0, 1), (105, .new 56, 3), (108, .dup, 1), (109, .invokespecial 58, 3), (112, .putfield 59, 3)]
theorem tkX0_init_3 : tbX0_init_3.all (fun q => decide (decode cX0_init q.1 = .ok q.2)) = true := by decide +kernel
theorem dX0_init_79 : Dc cX0_init 79 (.putfield 38) 3 82 := dc_of tkX0_init_3 0 rfl rfl
theorem dX0_init_82 : Dc cX0_init 82 (.aload_n 0) 1 83 := dc_of tkX0_init_3 1 rfl rfl
theorem dX0_init_83 : Dc cX0_init 83 (.new 42) 3 86 := dc_of tkX0_init_3 2 rfl rfl
theorem dX0_init_86 : Dc cX0_init 86 (.dup) 1 87 := dc_of tkX0_init_3 3 rfl rfl
theorem dX0_init_87 : Dc cX0_init 87 (.invokespecial 44) 3 90 := dc_of tkX0_init_3 4 rfl rfl
theorem dX0_init_90 : Dc cX0_init 90 (.putfield 45) 3 93 := dc_of tkX0_init_3 5 rfl rfl
theorem dX0_init_93 : Dc cX0_init 93 (.aload_n 0) 1 94 := dc_of tkX0_init_3 6 rfl rfl
theorem dX0_init_94 : Dc cX0_init 94 (.new 49) 3 97 := dc_of tkX0_init_3 7 rfl rfl
theorem dX0_init_97 : Dc cX0_init 97 (.dup) 1 98 := dc_of tkX0_init_3 8 rfl rfl
theorem dX0_init_98 : Dc cX0_init 98 (.invokespecial 51) 3 101 := dc_of tkX0_init_3 9 rfl rfl
theorem dX0_init_101 : Dc cX0_init 101 (.putfield 52) 3 104 := dc_of tkX0_init_3 10 rfl rfl
theorem dX0_init_104 : Dc cX0_init 104 (.aload_n 0) 1 105 := dc_of tkX0_init_3 11 rfl rfl
theorem dX0_init_105 : Dc cX0_init 105 (.new 56) 3 108 := dc_of tkX0_init_3 12 rfl rfl
theorem dX0_init_108 : Dc cX0_init 108 (.dup) 1 109 := dc_of tkX0_init_3 13 rfl rfl
theorem dX0_init_109 : Dc cX0_init 109 (.invokespecial 58) 3 112 := dc_of tkX0_init_3 14 rfl rfl
theorem dX0_init_112 : Dc cX0_init 112 (.putfield 59) 3 115 := dc_of tkX0_init_3 15 rfl rfl
def tbX0_init_4 : List (Nat × Instr × Nat) := [(115, .aload_n 0, 1), (116, .new 63, 3), (119, .dup, 1), (120, .invokespecial 65, 3), (123, .putfield 66, 3), (126, .aload_n 0, 1), (127, .new 70, 3), (130, .dup, 1), (131, .invokespecial 72, 3), (134, .putfield 73, 3), (137, .aload_n 0, 1), (138, .new 77, 3), (141, .dup, 1), (142, .invokespecial 79, 3), (145, .putfield 80, 3), (148, .return_, 1)]
theorem tkX0_init_4 : tbX0_init_4.all (fun q => decide (decode cX0_init q.1 = .ok q.2)) = true := by decide +kernel
theorem dX0_init_115 : Dc cX0_init 115 (.aload_n 0) 1 116 := dc_of tkX0_init_4 0 rfl rfl
theorem dX0_init_116 : Dc cX0_init 116 (.new 63) 3 119 := dc_of tkX0_init_4 1 rfl rfl
theorem dX0_init_119 : Dc cX0_init 119 (.dup) 1 120 := dc_of tkX0_init_4 2 rfl rfl
theorem dX0_init_120 : Dc cX0_init 120 (.invokespecial 65) 3 123 := dc_of tkX0_init_4 3 rfl rfl
theorem dX0_init_123 : Dc cX0_init 123 (.putfield 66) 3 126 := dc_of tkX0_init_4 4 rfl rfl
theorem dX0_init_126 : Dc cX0_init 126 (.aload_n 0) 1 127 := dc_of tkX0_init_4 5 rfl rfl
theorem dX0_init_127 : Dc cX0_init 127 (.new 70) 3 130 := dc_of tkX0_init_4 6 rfl rfl
theorem dX0_init_130 : Dc cX0_init 130 (.dup) 1 131 := dc_of tkX0_init_4 7 rfl rfl
theorem dX0_init_131 : Dc cX0_init 131 (.invokespecial 72) 3 134 := dc_of tkX0_init_4 8 rfl rfl
theorem dX0_init_134 : Dc cX0_init 134 (.putfield 73) 3 137 := dc_of tkX0_init_4 9 rfl rfl
theorem dX0_init_137 : Dc cX0_init 137 (.aload_n 0) 1 138 := dc_of tkX0_init_4 10 rfl rfl
theorem dX0_init_138 : Dc cX0_init 138 (.new 77) 3 141 := dc_of tkX0_init_4 11 rfl rfl
theorem dX0_init_141 : Dc cX0_init 141 (.dup) 1 142 := dc_of tkX0_init_4 12 rfl rfl
theorem dX0_init_142 : Dc cX0_init 142 (.invokespecial 79) 3 145 := dc_of tkX0_init_4 13 rfl rfl
theorem dX0_init_145 : Dc cX0_init 145 (.putfield 80) 3 148 := dc_of tkX0_init_4 14 rfl rfl
theorem dX0_init_148 : Dc cX0_init 148 (.return_) 1 149 := dc_of tkX0_init_4 15 rfl rfl
def tbX8_init_0 : List (Nat × Instr × Nat) := [(0, .aload_n 0, 1), (1, .invokespecial 3, 3), (4, .aload_n 0, 1), (5, .iconst 0, 1), (6, .putfield 9, 3), (9, .aload_n 0, 1), (10, .bipush 96, 2), (12, .newarray .int, 2), (14, .putfield 15, 3), (17, .aload_n 0, 1), (18, .iconst 0, 1), (19, .putfield 19, 3), (22, .aload_n 0, 1), (23, .iconst 0, 1), (24, .putfield 22, 3), (27, .aload_n 0, 1)]
theorem tkX8_init_0 : tbX8_init_0.all (fun q => decide (decode cX8_init q.1 = .ok q.2)) = true := by decide +kernel
theorem dX8_init_0 : Dc cX8_init 0 (.aload_n 0) 1 1 := dc_of tkX8_init_0 0 rfl rfl
theorem dX8_init_1 : Dc cX8_init 1 (.invokespecial 3) 3 4 := dc_of tkX8_init_0 1 rfl rfl
theorem dX8_init_4 : Dc cX8_init 4 (.aload_n 0) 1 5 := dc_of tkX8_init_0 2 rfl rfl
theorem dX8_init_5 : Dc cX8_init 5 (.iconst 0) 1 6 := dc_of tkX8_init_0 3 rfl rfl
theorem dX8_init_6 : Dc cX8_init 6 (.putfield 9) 3 9 := dc_of tkX8_init_0 4 rfl rfl
theorem dX8_init_9 : Dc cX8_init 9 (.aload_n 0) 1 10 := dc_of tkX8_init_0 5 rfl rfl
theorem dX8_init_10 : Dc cX8_init 10 (.bipush 96) 2 12 := dc_of tkX8_init_0 6 rfl rfl
theorem dX8_init_12 : Dc cX8_init 12 (.newarray .int) 2 14 := dc_of tkX8_init_0 7 rfl rfl
theorem dX8_init_14 : Dc cX8_init 14 (.putfield 15) 3 17 := dc_of tkX8_init_0 8 rfl rfl
theorem dX8_init_17 : Dc cX8_init 17 (.aload_n 0) 1 18 := dc_of tkX8_init_0 9 rfl rfl
theorem dX8_init_18 : Dc cX8_init 18 (.iconst 0) 1 19 := dc_of tkX8_init_0 10 rfl rfl
theorem dX8_init_19 : Dc cX8_init 19 (.putfield 19) 3 22 := dc_of tkX8_init_0 11 rfl rfl
theorem dX8_init_22 : Dc cX8_init 22 (.aload_n 0) 1 23 := dc_of tkX8_init_0 12 rfl rfl
theorem dX8_init_23 : Dc cX8_init 23 (.iconst 0) 1 24 := dc_of tkX8_init_0 13 rfl rfl
theorem dX8_init_24 : Dc cX8_init 24 (.putfield 22) 3 27 := dc_of tkX8_init_0 14 rfl rfl
theorem dX8_init_27 : Dc cX8_init 27 (.aload_n 0) 1 28 := dc_of tkX8_init_0 15 rfl rfl
def tbX8_init_1 : List (Nat × Instr × Nat) := [(28, .iconst 0, 1), (29, .putfield 25, 3), (32, .aload_n 0, 1), (33, .bipush 96, 2), (35, .newarray .int, 2), (37, .putfield 28, 3), (40, .aload_n 0, 1), (41, .iconst 0, 1), (42, .putfield 31, 3), (45, .aload_n 0, 1), (46, .iconst 0, 1), (47, .putfield 34, 3), (50, .aload_n 0, 1), (51, .iconst 0, 1), (52, .putfield 37, 3), (55, .aload_n 0, 1)]
theorem tkX8_init_1 : tbX8_init_1.all (fun q => decide (decode cX8_init q.1 = .ok q.2)) = true := by decide +kernel
theorem dX8_init_28 : Dc cX8_init 28 (.iconst 0) 1 29 := dc_of tkX8_init_1 0 rfl rfl
theorem dX8_init_29 : Dc cX8_init 29 (.putfield 25) 3 32 := dc_of tkX8_init_1 1 rfl rfl
theorem dX8_init_32 : Dc cX8_init 32 (.aload_n 0) 1 33 := dc_of tkX8_init_1 2 rfl rfl
theorem dX8_init_33 : Dc cX8_init 33 (.bipush 96) 2 35 := dc_of tkX8_init_1 3 rfl rfl
theorem dX8_init_35 : Dc cX8_init 35 (.newarray .int) 2 37 := dc_of tkX8_init_1 4 rfl rfl
theorem dX8_init_37 : Dc cX8_init 37 (.putfield 28) 3 40 := dc_of tkX8_init_1 5 rfl rfl
theorem dX8_init_40 : Dc cX8_init 40 (.aload_n 0) 1 41 := dc_of tkX8_init_1 6 rfl rfl
theorem dX8_init_41 : Dc cX8_init 41 (.iconst 0) 1 42 := dc_of tkX8_init_1 7 rfl rfl
theorem dX8_init_42 : Dc cX8_init 42 (.putfield 31) 3 45 := dc_of tkX8_init_1 8 rfl rfl
theorem dX8_init_45 : Dc cX8_init 45 (.aload_n 0) 1 46 := dc_of tkX8_init_1 9 rfl rfl
theorem dX8_init_46 : Dc cX8_init 46 (.iconst 0) 1 47 := dc_of tkX8_init_1 10 rfl rfl
theorem dX8_init_47 : Dc cX8_init 47 (.putfield 34) 3 50 := dc_of tkX8_init_1 11 rfl rfl
theorem dX8_init_50 : Dc cX8_init 50 (.aload_n 0) 1 51 := dc_of tkX8_init_1 12 rfl rfl
theorem dX8_init_51 : Dc cX8_init 51 (.iconst 0) 1 52 := dc_of tkX8_init_1 13 rfl rfl
theorem dX8_init_52 : Dc cX8_init 52 (.putfield 37) 3 55 := dc_of tkX8_init_1 14 rfl rfl
theorem dX8_init_55 : Dc cX8_init 55 (.aload_n 0) 1 56 := dc_of tkX8_init_1 15 rfl rfl
def tbX8_init_2 : List (Nat × Instr × Nat) := [(56, .bipush 96, 2), (58, .newarray .int, 2), (60, .putfield 40, 3), (63, .aload_n 0, 1), (64, .iconst 0, 1), (65, .putfield 43, 3), (68, .aload_n 0, 1), (69, .iconst 0, 1), (70, .putfield 46, 3), (73, .aload_n 0, 1), (74, .iconst 0, 1), (75, .putfield 49, 3), (78, .aload_n 0, 1), (79, .iconst 1, 1), (80, .putfield 52, 3), (83, .return_, 1)]
theorem tkX8_init_2 : tbX8_init_2.all (fun q => decide (decode cX8_init q.1 = .ok q.2)) = true := by decide +kernel
theorem dX8_init_56 : Dc cX8_init 56 (.bipush 96) 2 58 := dc_of tkX8_init_2 0 rfl rfl
theorem dX8_init_58 : Dc cX8_init 58 (.newarray .int) 2 60 := dc_of tkX8_init_2 1 rfl rfl
theorem dX8_init_60 : Dc cX8_init 60 (.putfield 40) 3 63 := dc_of tkX8_init_2 2 rfl rfl
theorem dX8_init_63 : Dc cX8_init 63 (.aload_n 0) 1 64 := dc_of tkX8_init_2 3 rfl rfl
theorem dX8_init_64 : Dc cX8_init 64 (.iconst 0) 1 65 := dc_of tkX8_init_2 4 rfl rfl
theorem dX8_init_65 : Dc cX8_init 65 (.putfield 43) 3 68 := dc_of tkX8_init_2 5 rfl rfl
theorem dX8_init_68 : Dc cX8_init 68 (.aload_n 0) 1 69 := dc_of tkX8_init_2 6 rfl rfl
theorem dX8_init_69 : Dc cX8_init 69 (.iconst 0) 1 70 := dc_of tkX8_init_2 7 rfl rfl
theorem dX8_init_70 : Dc cX8_init 70 (.putfield 46) 3 73 := dc_of tkX8_init_2 8 rfl rfl
theorem dX8_init_73 : Dc cX8_init 73 (.aload_n 0) 1 74 := dc_of tkX8_init_2 9 rfl rfl
theorem dX8_init_74 : Dc cX8_init 74 (.iconst 0) 1 75 := dc_of tkX8_init_2 10 rfl rfl
theorem dX8_init_75 : Dc cX8_init 75 (.putfield 49) 3 78 := dc_of tkX8_init_2 11 rfl rfl
theorem dX8_init_78 : Dc cX8_init 78 (.aload_n 0) 1 79 := dc_of tkX8_init_2 12 rfl rfl
theorem dX8_init_79 : Dc cX8_init 79 (.iconst 1) 1 80 := dc_of tkX8_init_2 13 rfl rfl
theorem dX8_init_80 : Dc cX8_init 80 (.putfield 52) 3 83 := dc_of tkX8_init_2 14 rfl rfl
theorem dX8_init_83 : Dc cX8_init 83 (.return_) 1 84 := dc_of tkX8_init_2 15 rfl rfl
def tbX5_init_0 : List (Nat × Instr × Nat) := [(0, .aload_n 0, 1), (1, .invokespecial 3, 3), (4, .aload_n 0, 1), (5, .iconst 2, 1), (6, .newarray .int, 2), (8, .dup, 1), (9, .iconst 0, 1), (10, .iconst (-1), 1), (11, .iastore, 1), (12, .dup, 1), (13, .iconst 1, 1), (14, .iconst (-1), 1), (15, .iastore, 1), (16, .putfield 9, 3), (19, .aload_n 0, 1), (20, .iconst 2, 1)]
theorem tkX5_init_0 : tbX5_init_0.all (fun q => decide (decode cX5_init q.1 = .ok q.2)) = true := by decide +kernel
theorem dX5_init_0 : Dc cX5_init 0 (.aload_n 0) 1 1 := dc_of tkX5_init_0 0 rfl rfl
theorem dX5_init_1 : Dc cX5_init 1 (.invokespecial 3) 3 4 := dc_of tkX5_init_0 1 rfl rfl
theorem dX5_init_4 : Dc cX5_init 4 (.aload_n 0) 1 5 := dc_of tkX5_init_0 2 rfl rfl
theorem dX5_init_5 : Dc cX5_init 5 (.iconst 2) 1 6 := dc_of tkX5_init_0 3 rfl rfl
theorem dX5_init_6 : Dc cX5_init 6 (.newarray .int) 2 8 := dc_of tkX5_init_0 4 rfl rfl
theorem dX5_init_8 : Dc cX5_init 8 (.dup) 1 9 := dc_of tkX5_init_0 5 rfl rfl
theorem dX5_init_9 : Dc cX5_init 9 (.iconst 0) 1 10 := dc_of tkX5_init_0 6 rfl rfl
theorem dX5_init_10 : Dc cX5_init 10 (.iconst (-1)) 1 11 := dc_of tkX5_init_0 7 rfl rfl
theorem dX5_init_11 : Dc cX5_init 11 (.iastore) 1 12 := dc_of tkX5_init_0 8 rfl rfl
theorem dX5_init_12 : Dc cX5_init 12 (.dup) 1 13 := dc_of tkX5_init_0 9 rfl rfl
theorem dX5_init_13 : Dc cX5_init 13 (.iconst 1) 1 14 := dc_of tkX5_init_0 10 rfl rfl
theorem dX5_init_14 : Dc cX5_init 14 (.iconst (-1)) 1 15 := dc_of tkX5_init_0 11 rfl rfl
theorem dX5_init_15 : Dc cX5_init 15 (.iastore) 1 16 := dc_of tkX5_init_0 12 rfl rfl
theorem dX5_init_16 : Dc cX5_init 16 (.putfield 9) 3 19 := dc_of tkX5_init_0 13 rfl rfl
theorem dX5_init_19 : Dc cX5_init 19 (.aload_n 0) 1 20 := dc_of tkX5_init_0 14 rfl rfl
theorem dX5_init_20 : Dc cX5_init 20 (.iconst 2) 1 21 := dc_of tkX5_init_0 15 rfl rfl
def tbX5_init_1 : List (Nat × Instr × Nat) := [(21, .newarray .int, 2), (23, .putfield 15, 3), (26, .aload_n 0, 1), (27, .bipush 60, 2), (29, .newarray .int, 2), (31, .putfield 18, 3), (34, .return_, 1)]
theorem tkX5_init_1 : tbX5_init_1.all (fun q => decide (decode cX5_init q.1 = .ok q.2)) = true := by decide +kernel
theorem dX5_init_21 : Dc cX5_init 21 (.newarray .int) 2 23 := dc_of tkX5_init_1 0 rfl rfl
theorem dX5_init_23 : Dc cX5_init 23 (.putfield 15) 3 26 := dc_of tkX5_init_1 1 rfl rfl
theorem dX5_init_26 : Dc cX5_init 26 (.aload_n 0) 1 27 := dc_of tkX5_init_1 2 rfl rfl
theorem dX5_init_27 : Dc cX5_init 27 (.bipush 60) 2 29 := dc_of tkX5_init_1 3 rfl rfl
theorem dX5_init_29 : Dc cX5_init 29 (.newarray .int) 2 31 := dc_of tkX5_init_1 4 rfl rfl
theorem dX5_init_31 : Dc cX5_init 31 (.putfield 18) 3 34 := dc_of tkX5_init_1 5 rfl rfl
theorem dX5_init_34 : Dc cX5_init 34 (.return_) 1 35 := dc_of tkX5_init_1 6 rfl rfl
def tbX10_init_0 : List (Nat × Instr × Nat) := [(0, .aload_n 0, 1), (1, .invokespecial 3, 3), (4, .aload_n 0, 1), (5, .sipush 324, 3), (8, .newarray .int, 2), (10, .putfield 11, 3), (13, .aload_n 0, 1), (14, .bipush 18, 2), (16, .newarray .int, 2), (18, .putfield 15, 3), (21, .aload_n 0, 1), (22, .bipush 18, 2), (24, .newarray .int, 2), (26, .putfield 18, 3), (29, .return_, 1)]
theorem tkX10_init_0 : tbX10_init_0.all (fun q => decide (decode cX10_init q.1 = .ok q.2)) = true := by decide +kernel
theorem dX10_init_0 : Dc cX10_init 0 (.aload_n 0) 1 1 := dc_of tkX10_init_0 0 rfl rfl
theorem dX10_init_1 : Dc cX10_init 1 (.invokespecial 3) 3 4 := dc_of tkX10_init_0 1 rfl rfl
theorem dX10_init_4 : Dc cX10_init 4 (.aload_n 0) 1 5 := dc_of tkX10_init_0 2 rfl rfl
theorem dX10_init_5 : Dc cX10_init 5 (.sipush 324) 3 8 := dc_of tkX10_init_0 3 rfl rfl
theorem dX10_init_8 : Dc cX10_init 8 (.newarray .int) 2 10 := dc_of tkX10_init_0 4 rfl rfl
theorem dX10_init_10 : Dc cX10_init 10 (.putfield 11) 3 13 := dc_of tkX10_init_0 5 rfl rfl
theorem dX10_init_13 : Dc cX10_init 13 (.aload_n 0) 1 14 := dc_of tkX10_init_0 6 rfl rfl
theorem dX10_init_14 : Dc cX10_init 14 (.bipush 18) 2 16 := dc_of tkX10_init_0 7 rfl rfl
theorem dX10_init_16 : Dc cX10_init 16 (.newarray .int) 2 18 := dc_of tkX10_init_0 8 rfl rfl
theorem dX10_init_18 : Dc cX10_init 18 (.putfield 15) 3 21 := dc_of tkX10_init_0 9 rfl rfl
theorem dX10_init_21 : Dc cX10_init 21 (.aload_n 0) 1 22 := dc_of tkX10_init_0 10 rfl rfl
theorem dX10_init_22 : Dc cX10_init 22 (.bipush 18) 2 24 := dc_of tkX10_init_0 11 rfl rfl
theorem dX10_init_24 : Dc cX10_init 24 (.newarray .int) 2 26 := dc_of tkX10_init_0 12 rfl rfl
theorem dX10_init_26 : Dc cX10_init 26 (.putfield 18) 3 29 := dc_of tkX10_init_0 13 rfl rfl
theorem dX10_init_29 : Dc cX10_init 29 (.return_) 1 30 := dc_of tkX10_init_0 14 rfl rfl
def tbX11_init_0 : List (Nat × Instr × Nat) := [(0, .aload_n 0, 1), (1, .invokespecial 3, 3), (4, .aload_n 0, 1), (5, .new 9, 3), (8, .dup, 1), (9, .invokespecial 11, 3), (12, .putfield 12, 3), (15, .aload_n 0, 1), (16, .new 9, 3), (19, .dup, 1), (20, .invokespecial 11, 3), (23, .putfield 16, 3), (26, .aload_n 0, 1), (27, .new 9, 3), (30, .dup, 1), (31, .invokespecial 11, 3)]
theorem tkX11_init_0 : tbX11_init_0.all (fun q => decide (decode cX11_init q.1 = .ok q.2)) = true := by decide +kernel
theorem dX11_init_0 : Dc cX11_init 0 (.aload_n 0) 1 1 := dc_of tkX11_init_0 0 rfl rfl
theorem dX11_init_1 : Dc cX11_init 1 (.invokespecial 3) 3 4 := dc_of tkX11_init_0 1 rfl rfl
theorem dX11_init_4 : Dc cX11_init 4 (.aload_n 0) 1 5 := dc_of tkX11_init_0 2 rfl rfl
theorem dX11_init_5 : Dc cX11_init 5 (.new 9) 3 8 := dc_of tkX11_init_0 3 rfl rfl
theorem dX11_init_8 : Dc cX11_init 8 (.dup) 1 9 := dc_of tkX11_init_0 4 rfl rfl
theorem dX11_init_9 : Dc cX11_init 9 (.invokespecial 11) 3 12 := dc_of tkX11_init_0 5 rfl rfl
theorem dX11_init_12 : Dc cX11_init 12 (.putfield 12) 3 15 := dc_of tkX11_init_0 6 rfl rfl
theorem dX11_init_15 : Dc cX11_init 15 (.aload_n 0) 1 16 := dc_of tkX11_init_0 7 rfl rfl
theorem dX11_init_16 : Dc cX11_init 16 (.new 9) 3 19 := dc_of tkX11_init_0 8 rfl rfl
theorem dX11_init_19 : Dc cX11_init 19 (.dup) 1 20 := dc_of tkX11_init_0 9 rfl rfl
theorem dX11_init_20 : Dc cX11_init 20 (.invokespecial 11) 3 23 := dc_of tkX11_init_0 10 rfl rfl
theorem dX11_init_23 : Dc cX11_init 23 (.putfield 16) 3 26 := dc_of tkX11_init_0 11 rfl rfl
theorem dX11_init_26 : Dc cX11_init 26 (.aload_n 0) 1 27 := dc_of tkX11_init_0 12 rfl rfl
theorem dX11_init_27 : Dc cX11_init 27 (.new 9) 3 30 := dc_of tkX11_init_0 13 rfl rfl
theorem dX11_init_30 : Dc cX11_init 30 (.dup) 1 31 := dc_of tkX11_init_0 14 rfl rfl
theorem dX11_init_31 : Dc cX11_init 31 (.invokespecial 11) 3 34 := dc_of tkX11_init_0 15 rfl rfl
def tbX11_init_1 : List (Nat × Instr × Nat) := [(34, .putfield 19, 3), (37, .aload_n 0, 1), (38, .iconst 0, 1), (39, .putfield 22, 3), (42, .aload_n 0, 1), (43, .new 26, 3), (46, .dup, 1), (47, .invokespecial 28, 3), (50, .putfield 29, 3), (53, .aload_n 0, 1), (54, .new 33, 3), (57, .dup, 1), (58, .invokespecial 35, 3), (61, .putfield 36, 3), (64, .aload_n 0, 1), (65, .new 40, 3)]
theorem tkX11_init_1 : tbX11_init_1.all (fun q => decide (decode cX11_init q.1 = .ok q.2)) = true := by decide +kernel
theorem dX11_init_34 : Dc cX11_init 34 (.putfield 19) 3 37 := dc_of tkX11_init_1 0 rfl rfl
theorem dX11_init_37 : Dc cX11_init 37 (.aload_n 0) 1 38 := dc_of tkX11_init_1 1 rfl rfl
theorem dX11_init_38 : Dc cX11_init 38 (.iconst 0) 1 39 := dc_of tkX11_init_1 2 rfl rfl
theorem dX11_init_39 : Dc cX11_init 39 (.putfield 22) 3 42 := dc_of tkX11_init_1 3 rfl rfl
theorem dX11_init_42 : Dc cX11_init 42 (.aload_n 0) 1 43 := dc_of tkX11_init_1 4 rfl rfl
theorem dX11_init_43 : Dc cX11_init 43 (.new 26) 3 46 := dc_of tkX11_init_1 5 rfl rfl
theorem dX11_init_46 : Dc cX11_init 46 (.dup) 1 47 := dc_of tkX11_init_1 6 rfl rfl
theorem dX11_init_47 : Dc cX11_init 47 (.invokespecial 28) 3 50 := dc_of tkX11_init_1 7 rfl rfl
theorem dX11_init_50 : Dc cX11_init 50 (.putfield 29) 3 53 := dc_of tkX11_init_1 8 rfl rfl
theorem dX11_init_53 : Dc cX11_init 53 (.aload_n 0) 1 54 := dc_of tkX11_init_1 9 rfl rfl
theorem dX11_init_54 : Dc cX11_init 54 (.new 33) 3 57 := dc_of tkX11_init_1 10 rfl rfl
theorem dX11_init_57 : Dc cX11_init 57 (.dup) 1 58 := dc_of tkX11_init_1 11 rfl rfl
theorem dX11_init_58 : Dc cX11_init 58 (.invokespecial 35) 3 61 := dc_of tkX11_init_1 12 rfl rfl
theorem dX11_init_61 : Dc cX11_init 61 (.putfield 36) 3 64 := dc_of tkX11_init_1 13 rfl rfl
theorem dX11_init_64 : Dc cX11_init 64 (.aload_n 0) 1 65 := dc_of tkX11_init_1 14 rfl rfl
theorem dX11_init_65 : Dc cX11_init 65 (.new 40) 3 68 := dc_of tkX11_init_1 15 rfl rfl
def tbX11_init_2 : List (Nat × Instr × Nat) := [(68, .dup, 1), (69, .invokespecial 42, 3), (72, .putfield 43, 3), (75, .aload_n 0, 1), (76, .bipush 60, 2), (78, .newarray .int, 2), (80, .putfield 47, 3), (83, .aload_n 0, 1), (84, .iconst 0, 1), (85, .putfield 51, 3), (88, .aload_n 0, 1), (89, .bipush 60, 2), (91, .newarray .int, 2), (93, .putfield 55, 3), (96, .return_, 1)]
theorem tkX11_init_2 : tbX11_init_2.all (fun q => decide (decode cX11_init q.1 = .ok q.2)) = true := by decide +kernel
theorem dX11_init_68 : Dc cX11_init 68 (.dup) 1 69 := dc_of tkX11_init_2 0 rfl rfl
theorem dX11_init_69 : Dc cX11_init 69 (.invokespecial 42) 3 72 := dc_of tkX11_init_2 1 rfl rfl
theorem dX11_init_72 : Dc cX11_init 72 (.putfield 43) 3 75 := dc_of tkX11_init_2 2 rfl rfl
theorem dX11_init_75 : Dc cX11_init 75 (.aload_n 0) 1 76 := dc_of tkX11_init_2 3 rfl rfl
theorem dX11_init_76 : Dc cX11_init 76 (.bipush 60) 2 78 := dc_of tkX11_init_2 4 rfl rfl
theorem dX11_init_78 : Dc cX11_init 78 (.newarray .int) 2 80 := dc_of tkX11_init_2 5 rfl rfl
theorem dX11_init_80 : Dc cX11_init 80 (.putfield 47) 3 83 := dc_of tkX11_init_2 6 rfl rfl
theorem dX11_init_83 : Dc cX11_init 83 (.aload_n 0) 1 84 := dc_of tkX11_init_2 7 rfl rfl
theorem dX11_init_84 : Dc cX11_init 84 (.iconst 0) 1 85 := dc_of tkX11_init_2 8 rfl rfl
theorem dX11_init_85 : Dc cX11_init 85 (.putfield 51) 3 88 := dc_of tkX11_init_2 9 rfl rfl
theorem dX11_init_88 : Dc cX11_init 88 (.aload_n 0) 1 89 := dc_of tkX11_init_2 10 rfl rfl
theorem dX11_init_89 : Dc cX11_init 89 (.bipush 60) 2 91 := dc_of tkX11_init_2 11 rfl rfl
theorem dX11_init_91 : Dc cX11_init 91 (.newarray .int) 2 93 := dc_of tkX11_init_2 12 rfl rfl
theorem dX11_init_93 : Dc cX11_init 93 (.putfield 55) 3 96 := dc_of tkX11_init_2 13 rfl rfl
theorem dX11_init_96 : Dc cX11_init 96 (.return_) 1 97 := dc_of tkX11_init_2 14 rfl rfl
def tbX12_init_0 : List (Nat × Instr × Nat) := [(0, .aload_n 0, 1), (1, .invokespecial 1, 3), (4, .aload_n 0, 1), (5, .sipush 4210, 3), (8, .newarray .int, 2), (10, .putfield 7, 3), (13, .aload_n 0, 1), (14, .sipush 4210, 3), (17, .newarray .int, 2), (19, .putfield 13, 3), (22, .aload_n 0, 1), (23, .sipush 4210, 3), (26, .newarray .int, 2), (28, .putfield 16, 3), (31, .aload_n 0, 1), (32, .iconst 2, 1)]
theorem tkX12_init_0 : tbX12_init_0.all (fun q => decide (decode cX12_init q.1 = .ok q.2)) = true := by decide +kernel
theorem dX12_init_0 : Dc cX12_init 0 (.aload_n 0) 1 1 := dc_of tkX12_init_0 0 rfl rfl
theorem dX12_init_1 : Dc cX12_init 1 (.invokespecial 1) 3 4 := dc_of tkX12_init_0 1 rfl rfl
theorem dX12_init_4 : Dc cX12_init 4 (.aload_n 0) 1 5 := dc_of tkX12_init_0 2 rfl rfl
theorem dX12_init_5 : Dc cX12_init 5 (.sipush 4210) 3 8 := dc_of tkX12_init_0 3 rfl rfl
theorem dX12_init_8 : Dc cX12_init 8 (.newarray .int) 2 10 := dc_of tkX12_init_0 4 rfl rfl
theorem dX12_init_10 : Dc cX12_init 10 (.putfield 7) 3 13 := dc_of tkX12_init_0 5 rfl rfl
theorem dX12_init_13 : Dc cX12_init 13 (.aload_n 0) 1 14 := dc_of tkX12_init_0 6 rfl rfl
theorem dX12_init_14 : Dc cX12_init 14 (.sipush 4210) 3 17 := dc_of tkX12_init_0 7 rfl rfl
theorem dX12_init_17 : Dc cX12_init 17 (.newarray .int) 2 19 := dc_of tkX12_init_0 8 rfl rfl
theorem dX12_init_19 : Dc cX12_init 19 (.putfield 13) 3 22 := dc_of tkX12_init_0 9 rfl rfl
theorem dX12_init_22 : Dc cX12_init 22 (.aload_n 0) 1 23 := dc_of tkX12_init_0 10 rfl rfl
theorem dX12_init_23 : Dc cX12_init 23 (.sipush 4210) 3 26 := dc_of tkX12_init_0 11 rfl rfl
theorem dX12_init_26 : Dc cX12_init 26 (.newarray .int) 2 28 := dc_of tkX12_init_0 12 rfl rfl
theorem dX12_init_28 : Dc cX12_init 28 (.putfield 16) 3 31 := dc_of tkX12_init_0 13 rfl rfl
theorem dX12_init_31 : Dc cX12_init 31 (.aload_n 0) 1 32 := dc_of tkX12_init_0 14 rfl rfl
theorem dX12_init_32 : Dc cX12_init 32 (.iconst 2) 1 33 := dc_of tkX12_init_0 15 rfl rfl
def tbX12_init_1 : List (Nat × Instr × Nat) := [(33, .newarray .int, 2), (35, .putfield 19, 3), (38, .aload_n 0, 1), (39, .iconst 2, 1), (40, .newarray .int, 2), (42, .putfield 22, 3), (45, .aload_n 0, 1), (46, .bipush 60, 2), (48, .newarray .int, 2), (50, .putfield 25, 3), (53, .aload_n 0, 1), (54, .sipush 400, 3), (57, .newarray .int, 2), (59, .putfield 28, 3), (62, .aload_n 0, 1), (63, .bipush 96, 2)]
theorem tkX12_init_1 : tbX12_init_1.all (fun q => decide (decode cX12_init q.1 = .ok q.2)) = true := by decide +kernel
theorem dX12_init_33 : Dc cX12_init 33 (.newarray .int) 2 35 := dc_of tkX12_init_1 0 rfl rfl
theorem dX12_init_35 : Dc cX12_init 35 (.putfield 19) 3 38 := dc_of tkX12_init_1 1 rfl rfl
theorem dX12_init_38 : Dc cX12_init 38 (.aload_n 0) 1 39 := dc_of tkX12_init_1 2 rfl rfl
theorem dX12_init_39 : Dc cX12_init 39 (.iconst 2) 1 40 := dc_of tkX12_init_1 3 rfl rfl
theorem dX12_init_40 : Dc cX12_init 40 (.newarray .int) 2 42 := dc_of tkX12_init_1 4 rfl rfl
theorem dX12_init_42 : Dc cX12_init 42 (.putfield 22) 3 45 := dc_of tkX12_init_1 5 rfl rfl
theorem dX12_init_45 : Dc cX12_init 45 (.aload_n 0) 1 46 := dc_of tkX12_init_1 6 rfl rfl
theorem dX12_init_46 : Dc cX12_init 46 (.bipush 60) 2 48 := dc_of tkX12_init_1 7 rfl rfl
theorem dX12_init_48 : Dc cX12_init 48 (.newarray .int) 2 50 := dc_of tkX12_init_1 8 rfl rfl
theorem dX12_init_50 : Dc cX12_init 50 (.putfield 25) 3 53 := dc_of tkX12_init_1 9 rfl rfl
theorem dX12_init_53 : Dc cX12_init 53 (.aload_n 0) 1 54 := dc_of tkX12_init_1 10 rfl rfl
theorem dX12_init_54 : Dc cX12_init 54 (.sipush 400) 3 57 := dc_of tkX12_init_1 11 rfl rfl
theorem dX12_init_57 : Dc cX12_init 57 (.newarray .int) 2 59 := dc_of tkX12_init_1 12 rfl rfl
theorem dX12_init_59 : Dc cX12_init 59 (.putfield 28) 3 62 := dc_of tkX12_init_1 13 rfl rfl
theorem dX12_init_62 : Dc cX12_init 62 (.aload_n 0) 1 63 := dc_of tkX12_init_1 14 rfl rfl
theorem dX12_init_63 : Dc cX12_init 63 (.bipush 96) 2 65 := dc_of tkX12_init_1 15 rfl rfl
def tbX12_init_2 : List (Nat × Instr × Nat) := [(65, .newarray .int, 2), (67, .putfield 31, 3), (70, .aload_n 0, 1), (71, .iconst (-1), 1), (72, .putfield 34, 3), (75, .aload_n 0, 1), (76, .sipush 128, 3), (79, .newarray .int, 2), (81, .putfield 38, 3), (84, .aload_n 0, 1), (85, .bipush 100, 2), (87, .newarray .int, 2), (89, .putfield 41, 3), (92, .aload_n 0, 1), (93, .sipush 324, 3), (96, .newarray .int, 2)]
theorem tkX12_init_2 : tbX12_init_2.all (fun q => decide (decode cX12_init q.1 = .ok q.2)) = true := by decide +kernel
theorem dX12_init_65 : Dc cX12_init 65 (.newarray .int) 2 67 := dc_of tkX12_init_2 0 rfl rfl
theorem dX12_init_67 : Dc cX12_init 67 (.putfield 31) 3 70 := dc_of tkX12_init_2 1 rfl rfl
theorem dX12_init_70 : Dc cX12_init 70 (.aload_n 0) 1 71 := dc_of tkX12_init_2 2 rfl rfl
theorem dX12_init_71 : Dc cX12_init 71 (.iconst (-1)) 1 72 := dc_of tkX12_init_2 3 rfl rfl
theorem dX12_init_72 : Dc cX12_init 72 (.putfield 34) 3 75 := dc_of tkX12_init_2 4 rfl rfl
theorem dX12_init_75 : Dc cX12_init 75 (.aload_n 0) 1 76 := dc_of tkX12_init_2 5 rfl rfl
theorem dX12_init_76 : Dc cX12_init 76 (.sipush 128) 3 79 := dc_of tkX12_init_2 6 rfl rfl
theorem dX12_init_79 : Dc cX12_init 79 (.newarray .int) 2 81 := dc_of tkX12_init_2 7 rfl rfl
theorem dX12_init_81 : Dc cX12_init 81 (.putfield 38) 3 84 := dc_of tkX12_init_2 8 rfl rfl
theorem dX12_init_84 : Dc cX12_init 84 (.aload_n 0) 1 85 := dc_of tkX12_init_2 9 rfl rfl
theorem dX12_init_85 : Dc cX12_init 85 (.bipush 100) 2 87 := dc_of tkX12_init_2 10 rfl rfl
theorem dX12_init_87 : Dc cX12_init 87 (.newarray .int) 2 89 := dc_of tkX12_init_2 11 rfl rfl
theorem dX12_init_89 : Dc cX12_init 89 (.putfield 41) 3 92 := dc_of tkX12_init_2 12 rfl rfl
theorem dX12_init_92 : Dc cX12_init 92 (.aload_n 0) 1 93 := dc_of tkX12_init_2 13 rfl rfl
theorem dX12_init_93 : Dc cX12_init 93 (.sipush 324) 3 96 := dc_of tkX12_init_2 14 rfl rfl
theorem dX12_init_96 : Dc cX12_init 96 (.newarray .int) 2 98 := dc_of tkX12_init_2 15 rfl rfl
def tbX12_init_3 : List (Nat × Instr × Nat) := [(98, .putfield 44, 3), (101, .aload_n 0, 1), (102, .bipush 18, 2), (104, .newarray .int, 2), (106, .putfield 47, 3), (109, .aload_n 0, 1), (110, .bipush 18, 2), (112, .newarray .int, 2), (114, .putfield 50, 3), (117, .aload_n 0, 1), (118, .sipush 11264, 3), (121, .newarray .int, 2), (123, .putfield 53, 3), (126, .aload_n 0, 1), (127, .bipush 10, 2), (129, .newarray .int, 2)]
theorem tkX12_init_3 : tbX12_init_3.all (fun q => decide (decode cX12_init q.1 = .ok q.2)) = true := by decide +kernel
theorem dX12_init_98 : Dc cX12_init 98 (.putfield 44) 3 101 := dc_of tkX12_init_3 0 rfl rfl
theorem dX12_init_101 : Dc cX12_init 101 (.aload_n 0) 1 102 := dc_of tkX12_init_3 1 rfl rfl
theorem dX12_init_102 : Dc cX12_init 102 (.bipush 18) 2 104 := dc_of tkX12_init_3 2 rfl rfl
theorem dX12_init_104 : Dc cX12_init 104 (.newarray .int) 2 106 := dc_of tkX12_init_3 3 rfl rfl
theorem dX12_init_106 : Dc cX12_init 106 (.putfield 47) 3 109 := dc_of tkX12_init_3 4 rfl rfl
theorem dX12_init_109 : Dc cX12_init 109 (.aload_n 0) 1 110 := dc_of tkX12_init_3 5 rfl rfl
theorem dX12_init_110 : Dc cX12_init 110 (.bipush 18) 2 112 := dc_of tkX12_init_3 6 rfl rfl
theorem dX12_init_112 : Dc cX12_init 112 (.newarray .int) 2 114 := dc_of tkX12_init_3 7 rfl rfl
theorem dX12_init_114 : Dc cX12_init 114 (.putfield 50) 3 117 := dc_of tkX12_init_3 8 rfl rfl
theorem dX12_init_117 : Dc cX12_init 117 (.aload_n 0) 1 118 := dc_of tkX12_init_3 9 rfl rfl
theorem dX12_init_118 : Dc cX12_init 118 (.sipush 11264) 3 121 := dc_of tkX12_init_3 10 rfl rfl
theorem dX12_init_121 : Dc cX12_init 121 (.newarray .int) 2 123 := dc_of tkX12_init_3 11 rfl rfl
theorem dX12_init_123 : Dc cX12_init 123 (.putfield 53) 3 126 := dc_of tkX12_init_3 12 rfl rfl
theorem dX12_init_126 : Dc cX12_init 126 (.aload_n 0) 1 127 := dc_of tkX12_init_3 13 rfl rfl
theorem dX12_init_127 : Dc cX12_init 127 (.bipush 10) 2 129 := dc_of tkX12_init_3 14 rfl rfl
theorem dX12_init_129 : Dc cX12_init 129 (.newarray .int) 2 131 := dc_of tkX12_init_3 15 rfl rfl
def tbX12_init_4 : List (Nat × Instr × Nat) := [(131, .putfield 56, 3), (134, .aload_n 0, 1), (135, .bipush 30, 2), (137, .newarray .int, 2), (139, .putfield 59, 3), (142, .aload_n 0, 1), (143, .bipush 8, 2), (145, .newarray .int, 2), (147, .putfield 62, 3), (150, .aload_n 0, 1), (151, .bipush 8, 2), (153, .newarray .int, 2), (155, .putfield 65, 3), (158, .aload_n 0, 1), (159, .bipush 8, 2), (161, .newarray .int, 2)]
theorem tkX12_init_4 : tbX12_init_4.all (fun q => decide (decode cX12_init q.1 = .ok q.2)) = true := by decide +kernel
theorem dX12_init_131 : Dc cX12_init 131 (.putfield 56) 3 134 := dc_of tkX12_init_4 0 rfl rfl
theorem dX12_init_134 : Dc cX12_init 134 (.aload_n 0) 1 135 := dc_of tkX12_init_4 1 rfl rfl
theorem dX12_init_135 : Dc cX12_init 135 (.bipush 30) 2 137 := dc_of tkX12_init_4 2 rfl rfl
theorem dX12_init_137 : Dc cX12_init 137 (.newarray .int) 2 139 := dc_of tkX12_init_4 3 rfl rfl
theorem dX12_init_139 : Dc cX12_init 139 (.putfield 59) 3 142 := dc_of tkX12_init_4 4 rfl rfl
theorem dX12_init_142 : Dc cX12_init 142 (.aload_n 0) 1 143 := dc_of tkX12_init_4 5 rfl rfl
theorem dX12_init_143 : Dc cX12_init 143 (.bipush 8) 2 145 := dc_of tkX12_init_4 6 rfl rfl
theorem dX12_init_145 : Dc cX12_init 145 (.newarray .int) 2 147 := dc_of tkX12_init_4 7 rfl rfl
theorem dX12_init_147 : Dc cX12_init 147 (.putfield 62) 3 150 := dc_of tkX12_init_4 8 rfl rfl
theorem dX12_init_150 : Dc cX12_init 150 (.aload_n 0) 1 151 := dc_of tkX12_init_4 9 rfl rfl
theorem dX12_init_151 : Dc cX12_init 151 (.bipush 8) 2 153 := dc_of tkX12_init_4 10 rfl rfl
theorem dX12_init_153 : Dc cX12_init 153 (.newarray .int) 2 155 := dc_of tkX12_init_4 11 rfl rfl
theorem dX12_init_155 : Dc cX12_init 155 (.putfield 65) 3 158 := dc_of tkX12_init_4 12 rfl rfl
theorem dX12_init_158 : Dc cX12_init 158 (.aload_n 0) 1 159 := dc_of tkX12_init_4 13 rfl rfl
theorem dX12_init_159 : Dc cX12_init 159 (.bipush 8) 2 161 := dc_of tkX12_init_4 14 rfl rfl
theorem dX12_init_161 : Dc cX12_init 161 (.newarray .int) 2 163 := dc_of tkX12_init_4 15 rfl rfl
def tbX12_init_5 : List (Nat × Instr × Nat) := [(163, .putfield 68, 3), (166, .aload_n 0, 1), (167, .bipush 60, 2), (169, .newarray .int, 2), (171, .putfield 71, 3), (174, .aload_n 0, 1), (175, .bipush 60, 2), (177, .newarray .int, 2), (179, .putfield 74, 3), (182, .aload_n 0, 1), (183, .getfield 7, 3), (186, .bipush 11, 2), (188, .bipush 10, 2), (190, .iastore, 1), (191, .iconst 0, 1), (192, .istore_n 1, 1)]
theorem tkX12_init_5 : tbX12_init_5.all (fun q => decide (decode cX12_init q.1 = .ok q.2)) = true := by decide +kernel
theorem dX12_init_163 : Dc cX12_init 163 (.putfield 68) 3 166 := dc_of tkX12_init_5 0 rfl rfl
theorem dX12_init_166 : Dc cX12_init 166 (.aload_n 0) 1 167 := dc_of tkX12_init_5 1 rfl rfl
theorem dX12_init_167 : Dc cX12_init 167 (.bipush 60) 2 169 := dc_of tkX12_init_5 2 rfl rfl
theorem dX12_init_169 : Dc cX12_init 169 (.newarray .int) 2 171 := dc_of tkX12_init_5 3 rfl rfl
theorem dX12_init_171 : Dc cX12_init 171 (.putfield 71) 3 174 := dc_of tkX12_init_5 4 rfl rfl
theorem dX12_init_174 : Dc cX12_init 174 (.aload_n 0) 1 175 := dc_of tkX12_init_5 5 rfl rfl
theorem dX12_init_175 : Dc cX12_init 175 (.bipush 60) 2 177 := dc_of tkX12_init_5 6 rfl rfl
theorem dX12_init_177 : Dc cX12_init 177 (.newarray .int) 2 179 := dc_of tkX12_init_5 7 rfl rfl
theorem dX12_init_179 : Dc cX12_init 179 (.putfield 74) 3 182 := dc_of tkX12_init_5 8 rfl rfl
theorem dX12_init_182 : Dc cX12_init 182 (.aload_n 0) 1 183 := dc_of tkX12_init_5 9 rfl rfl
theorem dX12_init_183 : Dc cX12_init 183 (.getfield 7) 3 186 := dc_of tkX12_init_5 10 rfl rfl
theorem dX12_init_186 : Dc cX12_init 186 (.bipush 11) 2 188 := dc_of tkX12_init_5 11 rfl rfl
theorem dX12_init_188 : Dc cX12_init 188 (.bipush 10) 2 190 := dc_of tkX12_init_5 12 rfl rfl
theorem dX12_init_190 : Dc cX12_init 190 (.iastore) 1 191 := dc_of tkX12_init_5 13 rfl rfl
theorem dX12_init_191 : Dc cX12_init 191 (.iconst 0) 1 192 := dc_of tkX12_init_5 14 rfl rfl
theorem dX12_init_192 : Dc cX12_init 192 (.istore_n 1) 1 193 := dc_of tkX12_init_5 15 rfl rfl
def tbX12_init_6 : List (Nat × Instr × Nat) := [(193, .iload_n 1, 1), (194, .iconst 2, 1), (195, .if_icmp .ge 26, 3), (198, .aload_n 0, 1), (199, .getfield 7, 3), (202, .bipush 13, 2), (204, .iload_n 1, 1), (205, .iadd, 1), (206, .iconst (-1), 1), (207, .iastore, 1), (208, .aload_n 0, 1), (209, .getfield 19, 3), (212, .iload_n 1, 1), (213, .iconst (-1), 1), (214, .iastore, 1), (215, .iinc 1 1, 3)]
theorem tkX12_init_6 : tbX12_init_6.all (fun q => decide (decode cX12_init q.1 = .ok q.2)) = true := by decide +kernel
theorem dX12_init_193 : Dc cX12_init 193 (.iload_n 1) 1 194 := dc_of tkX12_init_6 0 rfl rfl
theorem dX12_init_194 : Dc cX12_init 194 (.iconst 2) 1 195 := dc_of tkX12_init_6 1 rfl rfl
theorem dX12_init_195 : Dc cX12_init 195 (.if_icmp .ge 26) 3 198 := dc_of tkX12_init_6 2 rfl rfl
theorem dX12_init_198 : Dc cX12_init 198 (.aload_n 0) 1 199 := dc_of tkX12_init_6 3 rfl rfl
theorem dX12_init_199 : Dc cX12_init 199 (.getfield 7) 3 202 := dc_of tkX12_init_6 4 rfl rfl
theorem dX12_init_202 : Dc cX12_init 202 (.bipush 13) 2 204 := dc_of tkX12_init_6 5 rfl rfl
theorem dX12_init_204 : Dc cX12_init 204 (.iload_n 1) 1 205 := dc_of tkX12_init_6 6 rfl rfl
theorem dX12_init_205 : Dc cX12_init 205 (.iadd) 1 206 := dc_of tkX12_init_6 7 rfl rfl
theorem dX12_init_206 : Dc cX12_init 206 (.iconst (-1)) 1 207 := dc_of tkX12_init_6 8 rfl rfl
theorem dX12_init_207 : Dc cX12_init 207 (.iastore) 1 208 := dc_of tkX12_init_6 9 rfl rfl
theorem dX12_init_208 : Dc cX12_init 208 (.aload_n 0) 1 209 := dc_of tkX12_init_6 10 rfl rfl
theorem dX12_init_209 : Dc cX12_init 209 (.getfield 19) 3 212 := dc_of tkX12_init_6 11 rfl rfl
theorem dX12_init_212 : Dc cX12_init 212 (.iload_n 1) 1 213 := dc_of tkX12_init_6 12 rfl rfl
theorem dX12_init_213 : Dc cX12_init 213 (.iconst (-1)) 1 214 := dc_of tkX12_init_6 13 rfl rfl
theorem dX12_init_214 : Dc cX12_init 214 (.iastore) 1 215 := dc_of tkX12_init_6 14 rfl rfl
theorem dX12_init_215 : Dc cX12_init 215 (.iinc 1 1) 3 218 := dc_of tkX12_init_6 15 rfl rfl
def tbX12_init_7 : List (Nat × Instr × Nat) := [(218, .goto (-25), 3), (221, .return_, 1)]
theorem tkX12_init_7 : tbX12_init_7.all (fun q => decide (decode cX12_init q.1 = .ok q.2)) = true := by decide +kernel
theorem dX12_init_218 : Dc cX12_init 218 (.goto (-25)) 3 221 := dc_of tkX12_init_7 0 rfl rfl
theorem dX12_init_221 : Dc cX12_init 221 (.return_) 1 222 := dc_of tkX12_init_7 1 rfl rfl
theorem oi_im : Cond.instanceMethod Lib.objectInit ∈ wsT := wsT_in (tb_1 (List.mem_of_getElem? (i := 29) rfl)) rfl
theorem oi_cd : Cond.code Lib.objectInit ⟨#[0xb1]⟩ 1 none ∈ wsT := wsT_in (tb_1 (List.mem_of_getElem? (i := 30) rfl)) rfl
theorem ml_X6_3 : Cond.methodLink RX6 3 Lib.objectInit ∈ wsT := wsT_in (tb_1 (List.mem_of_getElem? (i := 43) rfl)) rfl
theorem ml_X9_3 : Cond.methodLink RX9 3 Lib.objectInit ∈ wsT := wsT_in (tb_1 (List.mem_of_getElem? (i := 100) rfl)) rfl
theorem ml_X7_3 : Cond.methodLink RX7 3 Lib.objectInit ∈ wsT := wsT_in (tb_1 (List.mem_of_getElem? (i := 182) rfl)) rfl
theorem ml_X4_3 : Cond.methodLink RX4 3 Lib.objectInit ∈ wsT := wsT_in (tb_1 (List.mem_of_getElem? (i := 215) rfl)) rfl
theorem ml_X3_3 : Cond.methodLink RX3 3 Lib.objectInit ∈ wsT := wsT_in (tb_2 (List.mem_of_getElem? (i := 18) rfl)) rfl
theorem ml_X2_3 : Cond.methodLink RX2 3 Lib.objectInit ∈ wsT := wsT_in (tb_2 (List.mem_of_getElem? (i := 49) rfl)) rfl
theorem ml_X1_3 : Cond.methodLink RX1 3 Lib.objectInit ∈ wsT := wsT_in (tb_2 (List.mem_of_getElem? (i := 66) rfl)) rfl
theorem ml_X0_3 : Cond.methodLink RX0 3 Lib.objectInit ∈ wsT := wsT_in (tb_1 (List.mem_of_getElem? (i := 36) rfl)) rfl
theorem kd_X0_28 : Cond.constant RX0 28 (-1000000005) ∈ wsT := wsT_in (tb_1 (List.mem_of_getElem? (i := 37) rfl)) rfl
theorem cl_X0_35 : Cond.classLink RX0 35 RX6 ∈ wsT := wsT_in (tb_1 (List.mem_of_getElem? (i := 38) rfl)) rfl
theorem is_X6 : Cond.instantiable RX6 11 ∈ wsT := wsT_in (tb_1 (List.mem_of_getElem? (i := 39) rfl)) rfl
theorem in_X6 : Cond.initialized RX6 ∈ wsT := wsT_in (tb_1 (List.mem_of_getElem? (i := 3) rfl)) rfl
theorem cl_X0_42 : Cond.classLink RX0 42 RX9 ∈ wsT := wsT_in (tb_1 (List.mem_of_getElem? (i := 95) rfl)) rfl
theorem is_X9 : Cond.instantiable RX9 15 ∈ wsT := wsT_in (tb_1 (List.mem_of_getElem? (i := 96) rfl)) rfl
theorem in_X9 : Cond.initialized RX9 ∈ wsT := wsT_in (tb_1 (List.mem_of_getElem? (i := 4) rfl)) rfl
theorem cl_X0_49 : Cond.classLink RX0 49 RX7 ∈ wsT := wsT_in (tb_1 (List.mem_of_getElem? (i := 177) rfl)) rfl
theorem is_X7 : Cond.instantiable RX7 8 ∈ wsT := wsT_in (tb_1 (List.mem_of_getElem? (i := 178) rfl)) rfl
theorem in_X7 : Cond.initialized RX7 ∈ wsT := wsT_in (tb_1 (List.mem_of_getElem? (i := 5) rfl)) rfl
theorem cl_X0_56 : Cond.classLink RX0 56 RX4 ∈ wsT := wsT_in (tb_1 (List.mem_of_getElem? (i := 210) rfl)) rfl
theorem is_X4 : Cond.instantiable RX4 10 ∈ wsT := wsT_in (tb_1 (List.mem_of_getElem? (i := 211) rfl)) rfl
theorem in_X4 : Cond.initialized RX4 ∈ wsT := wsT_in (tb_1 (List.mem_of_getElem? (i := 6) rfl)) rfl
theorem cl_X0_63 : Cond.classLink RX0 63 RX3 ∈ wsT := wsT_in (tb_2 (List.mem_of_getElem? (i := 13) rfl)) rfl
theorem is_X3 : Cond.instantiable RX3 7 ∈ wsT := wsT_in (tb_2 (List.mem_of_getElem? (i := 14) rfl)) rfl
theorem in_X3 : Cond.initialized RX3 ∈ wsT := wsT_in (tb_1 (List.mem_of_getElem? (i := 7) rfl)) rfl
theorem cl_X0_70 : Cond.classLink RX0 70 RX2 ∈ wsT := wsT_in (tb_2 (List.mem_of_getElem? (i := 44) rfl)) rfl
theorem is_X2 : Cond.instantiable RX2 3 ∈ wsT := wsT_in (tb_2 (List.mem_of_getElem? (i := 45) rfl)) rfl
theorem in_X2 : Cond.initialized RX2 ∈ wsT := wsT_in (tb_1 (List.mem_of_getElem? (i := 8) rfl)) rfl
theorem cl_X0_77 : Cond.classLink RX0 77 RX1 ∈ wsT := wsT_in (tb_2 (List.mem_of_getElem? (i := 61) rfl)) rfl
theorem is_X1 : Cond.instantiable RX1 10 ∈ wsT := wsT_in (tb_2 (List.mem_of_getElem? (i := 62) rfl)) rfl
theorem in_X1 : Cond.initialized RX1 ∈ wsT := wsT_in (tb_1 (List.mem_of_getElem? (i := 9) rfl)) rfl
theorem ml_X8_3 : Cond.methodLink RX8 3 Lib.objectInit ∈ wsT := wsT_in (tb_2 (List.mem_of_getElem? (i := 169) rfl)) rfl
theorem ml_X5_3 : Cond.methodLink RX5 3 Lib.objectInit ∈ wsT := wsT_in (tb_2 (List.mem_of_getElem? (i := 223) rfl)) rfl
theorem ml_X10_3 : Cond.methodLink RX10 3 Lib.objectInit ∈ wsT := wsT_in (tb_3 (List.mem_of_getElem? (i := 1) rfl)) rfl
theorem ml_X11_3 : Cond.methodLink RX11 3 Lib.objectInit ∈ wsT := wsT_in (tb_1 (List.mem_of_getElem? (i := 28) rfl)) rfl
theorem cl_X11_9 : Cond.classLink RX11 9 RX0 ∈ wsT := wsT_in (tb_1 (List.mem_of_getElem? (i := 31) rfl)) rfl
theorem is_X0 : Cond.instantiable RX0 14 ∈ wsT := wsT_in (tb_1 (List.mem_of_getElem? (i := 32) rfl)) rfl
theorem in_X0 : Cond.initialized RX0 ∈ wsT := wsT_in (tb_1 (List.mem_of_getElem? (i := 2) rfl)) rfl
theorem cl_X11_26 : Cond.classLink RX11 26 RX8 ∈ wsT := wsT_in (tb_2 (List.mem_of_getElem? (i := 164) rfl)) rfl
theorem is_X8 : Cond.instantiable RX8 14 ∈ wsT := wsT_in (tb_2 (List.mem_of_getElem? (i := 165) rfl)) rfl
theorem in_X8 : Cond.initialized RX8 ∈ wsT := wsT_in (tb_1 (List.mem_of_getElem? (i := 10) rfl)) rfl
theorem cl_X11_33 : Cond.classLink RX11 33 RX5 ∈ wsT := wsT_in (tb_2 (List.mem_of_getElem? (i := 218) rfl)) rfl
theorem is_X5 : Cond.instantiable RX5 3 ∈ wsT := wsT_in (tb_2 (List.mem_of_getElem? (i := 219) rfl)) rfl
theorem in_X5 : Cond.initialized RX5 ∈ wsT := wsT_in (tb_1 (List.mem_of_getElem? (i := 11) rfl)) rfl
theorem cl_X11_40 : Cond.classLink RX11 40 RX10 ∈ wsT := wsT_in (tb_2 (List.mem_of_getElem? (i := 236) rfl)) rfl
theorem is_X10 : Cond.instantiable RX10 3 ∈ wsT := wsT_in (tb_2 (List.mem_of_getElem? (i := 237) rfl)) rfl
theorem in_X10 : Cond.initialized RX10 ∈ wsT := wsT_in (tb_1 (List.mem_of_getElem? (i := 12) rfl)) rfl
theorem ml_X12_1 : Cond.methodLink RX12 1 Lib.objectInit ∈ wsT := wsT_in (tb_7 (List.mem_of_getElem? (i := 33) rfl)) rfl
theorem cal_X0_init : Cal yX0_init cX0_init 1 none 0 := ⟨wsT_in (tb_1 (List.mem_of_getElem? (i := 35) rfl)) rfl, wsT_in (tb_1 (List.mem_of_getElem? (i := 2) rfl)) rfl, by decide, by decide, by decide +kernel⟩
theorem im_X0_init : Cond.instanceMethod yX0_init ∈ wsT := wsT_in (tb_1 (List.mem_of_getElem? (i := 34) rfl)) rfl
theorem cal_X10_init : Cal yX10_init cX10_init 1 none 0 := ⟨wsT_in (tb_3 (List.mem_of_getElem? (i := 0) rfl)) rfl, wsT_in (tb_1 (List.mem_of_getElem? (i := 12) rfl)) rfl, by decide, by decide, by decide +kernel⟩
theorem im_X10_init : Cond.instanceMethod yX10_init ∈ wsT := wsT_in (tb_2 (List.mem_of_getElem? (i := 239) rfl)) rfl
theorem cal_X11_init : Cal yX11_init cX11_init 1 none 0 := ⟨wsT_in (tb_1 (List.mem_of_getElem? (i := 27) rfl)) rfl, wsT_in (tb_1 (List.mem_of_getElem? (i := 1) rfl)) rfl, by decide, by decide, by decide +kernel⟩
theorem im_X11_init : Cond.instanceMethod yX11_init ∈ wsT := wsT_in (tb_1 (List.mem_of_getElem? (i := 26) rfl)) rfl
theorem cal_X12_init : Cal yX12_init cX12_init 2 none 0 := ⟨wsT_in (tb_7 (List.mem_of_getElem? (i := 32) rfl)) rfl, wsT_in (tb_1 (List.mem_of_getElem? (i := 13) rfl)) rfl, by decide, by decide, by decide +kernel⟩
theorem im_X12_init : Cond.instanceMethod yX12_init ∈ wsT := wsT_in (tb_7 (List.mem_of_getElem? (i := 31) rfl)) rfl
theorem cal_X1_init : Cal yX1_init cX1_init 1 none 0 := ⟨wsT_in (tb_2 (List.mem_of_getElem? (i := 65) rfl)) rfl, wsT_in (tb_1 (List.mem_of_getElem? (i := 9) rfl)) rfl, by decide, by decide, by decide +kernel⟩
theorem im_X1_init : Cond.instanceMethod yX1_init ∈ wsT := wsT_in (tb_2 (List.mem_of_getElem? (i := 64) rfl)) rfl
theorem cal_X2_init : Cal yX2_init cX2_init 1 none 0 := ⟨wsT_in (tb_2 (List.mem_of_getElem? (i := 48) rfl)) rfl, wsT_in (tb_1 (List.mem_of_getElem? (i := 8) rfl)) rfl, by decide, by decide, by decide +kernel⟩
theorem im_X2_init : Cond.instanceMethod yX2_init ∈ wsT := wsT_in (tb_2 (List.mem_of_getElem? (i := 47) rfl)) rfl
theorem cal_X3_init : Cal yX3_init cX3_init 1 none 0 := ⟨wsT_in (tb_2 (List.mem_of_getElem? (i := 17) rfl)) rfl, wsT_in (tb_1 (List.mem_of_getElem? (i := 7) rfl)) rfl, by decide, by decide, by decide +kernel⟩
theorem im_X3_init : Cond.instanceMethod yX3_init ∈ wsT := wsT_in (tb_2 (List.mem_of_getElem? (i := 16) rfl)) rfl
theorem cal_X4_init : Cal yX4_init cX4_init 1 none 0 := ⟨wsT_in (tb_1 (List.mem_of_getElem? (i := 214) rfl)) rfl, wsT_in (tb_1 (List.mem_of_getElem? (i := 6) rfl)) rfl, by decide, by decide, by decide +kernel⟩
theorem im_X4_init : Cond.instanceMethod yX4_init ∈ wsT := wsT_in (tb_1 (List.mem_of_getElem? (i := 213) rfl)) rfl
theorem cal_X5_init : Cal yX5_init cX5_init 1 none 0 := ⟨wsT_in (tb_2 (List.mem_of_getElem? (i := 222) rfl)) rfl, wsT_in (tb_1 (List.mem_of_getElem? (i := 11) rfl)) rfl, by decide, by decide, by decide +kernel⟩
theorem im_X5_init : Cond.instanceMethod yX5_init ∈ wsT := wsT_in (tb_2 (List.mem_of_getElem? (i := 221) rfl)) rfl
theorem cal_X6_init : Cal yX6_init cX6_init 1 none 0 := ⟨wsT_in (tb_1 (List.mem_of_getElem? (i := 42) rfl)) rfl, wsT_in (tb_1 (List.mem_of_getElem? (i := 3) rfl)) rfl, by decide, by decide, by decide +kernel⟩
theorem im_X6_init : Cond.instanceMethod yX6_init ∈ wsT := wsT_in (tb_1 (List.mem_of_getElem? (i := 41) rfl)) rfl
theorem cal_X7_init : Cal yX7_init cX7_init 1 none 0 := ⟨wsT_in (tb_1 (List.mem_of_getElem? (i := 181) rfl)) rfl, wsT_in (tb_1 (List.mem_of_getElem? (i := 5) rfl)) rfl, by decide, by decide, by decide +kernel⟩
theorem im_X7_init : Cond.instanceMethod yX7_init ∈ wsT := wsT_in (tb_1 (List.mem_of_getElem? (i := 180) rfl)) rfl
theorem cal_X8_init : Cal yX8_init cX8_init 1 none 0 := ⟨wsT_in (tb_2 (List.mem_of_getElem? (i := 168) rfl)) rfl, wsT_in (tb_1 (List.mem_of_getElem? (i := 10) rfl)) rfl, by decide, by decide, by decide +kernel⟩
theorem im_X8_init : Cond.instanceMethod yX8_init ∈ wsT := wsT_in (tb_2 (List.mem_of_getElem? (i := 167) rfl)) rfl
theorem cal_X9_init : Cal yX9_init cX9_init 1 none 0 := ⟨wsT_in (tb_1 (List.mem_of_getElem? (i := 99) rfl)) rfl, wsT_in (tb_1 (List.mem_of_getElem? (i := 4) rfl)) rfl, by decide, by decide, by decide +kernel⟩
theorem im_X9_init : Cond.instanceMethod yX9_init ∈ wsT := wsT_in (tb_1 (List.mem_of_getElem? (i := 98) rfl)) rfl
theorem dfX6 : ∀ j, j < 11 → defaultValue (tyX6 j) = vp_V [.int 0, .null, .null, .null, .null, .null, .null, .null, .int 0, .int 0, .null] j := by
  intro j hj
  match j, hj with
  | 0, _ => rfl
  | 1, _ => rfl
  | 2, _ => rfl
  | 3, _ => rfl
  | 4, _ => rfl
  | 5, _ => rfl
  | 6, _ => rfl
  | 7, _ => rfl
  | 8, _ => rfl
  | 9, _ => rfl
  | 10, _ => rfl
  | j + 11, h => exact absurd h (by omega)
theorem dfX9 : ∀ j, j < 15 → defaultValue (tyX9 j) = vp_V [.int 0, .null, .null, .null, .null, .null, .null, .null, .null, .null, .null, .null, .null, .null, .null] j := by
  intro j hj
  match j, hj with
  | 0, _ => rfl
  | 1, _ => rfl
  | 2, _ => rfl
  | 3, _ => rfl
  | 4, _ => rfl
  | 5, _ => rfl
  | 6, _ => rfl
  | 7, _ => rfl
  | 8, _ => rfl
  | 9, _ => rfl
  | 10, _ => rfl
  | 11, _ => rfl
  | 12, _ => rfl
  | 13, _ => rfl
  | 14, _ => rfl
  | j + 15, h => exact absurd h (by omega)
theorem dfX7 : ∀ j, j < 8 → defaultValue (tyX7 j) = vp_V [.int 0, .null, .null, .null, .int 0, .null, .null, .null] j := by
  intro j hj
  match j, hj with
  | 0, _ => rfl
  | 1, _ => rfl
  | 2, _ => rfl
  | 3, _ => rfl
  | 4, _ => rfl
  | 5, _ => rfl
  | 6, _ => rfl
  | 7, _ => rfl
  | j + 8, h => exact absurd h (by omega)
theorem dfX4 : ∀ j, j < 10 → defaultValue (tyX4 j) = vp_V [.int 0, .null, .null, .null, .null, .null, .null, .null, .null, .null] j := by
  intro j hj
  match j, hj with
  | 0, _ => rfl
  | 1, _ => rfl
  | 2, _ => rfl
  | 3, _ => rfl
  | 4, _ => rfl
  | 5, _ => rfl
  | 6, _ => rfl
  | 7, _ => rfl
  | 8, _ => rfl
  | 9, _ => rfl
  | j + 10, h => exact absurd h (by omega)
theorem dfX3 : ∀ j, j < 7 → defaultValue (tyX3 j) = vp_V [.null, .null, .null, .null, .null, .int 0, .null] j := by
  intro j hj
  match j, hj with
  | 0, _ => rfl
  | 1, _ => rfl
  | 2, _ => rfl
  | 3, _ => rfl
  | 4, _ => rfl
  | 5, _ => rfl
  | 6, _ => rfl
  | j + 7, h => exact absurd h (by omega)
theorem dfX2 : ∀ j, j < 3 → defaultValue (tyX2 j) = vp_V [.null, .null, .null] j := by
  intro j hj
  match j, hj with
  | 0, _ => rfl
  | 1, _ => rfl
  | 2, _ => rfl
  | j + 3, h => exact absurd h (by omega)
theorem dfX1 : ∀ j, j < 10 → defaultValue (tyX1 j) = vp_V [.int 0, .null, .null, .null, .null, .int 0, .null, .int 0, .int 0, .int 0] j := by
  intro j hj
  match j, hj with
  | 0, _ => rfl
  | 1, _ => rfl
  | 2, _ => rfl
  | 3, _ => rfl
  | 4, _ => rfl
  | 5, _ => rfl
  | 6, _ => rfl
  | 7, _ => rfl
  | 8, _ => rfl
  | 9, _ => rfl
  | j + 10, h => exact absurd h (by omega)
theorem dfX0 : ∀ j, j < 14 → defaultValue (tyX0 j) = vp_V [.int 0, .int 0, .null, .null, .null, .null, .null, .null, .null, .null, .null, .null, .null, .null] j := by
  intro j hj
  match j, hj with
  | 0, _ => rfl
  | 1, _ => rfl
  | 2, _ => rfl
  | 3, _ => rfl
  | 4, _ => rfl
  | 5, _ => rfl
  | 6, _ => rfl
  | 7, _ => rfl
  | 8, _ => rfl
  | 9, _ => rfl
  | 10, _ => rfl
  | 11, _ => rfl
  | 12, _ => rfl
  | 13, _ => rfl
  | j + 14, h => exact absurd h (by omega)
theorem dfX8 : ∀ j, j < 14 → defaultValue (tyX8 j) = vp_V [.int 0, .null, .int 0, .int 0, .int 0, .null, .int 0, .int 0, .int 0, .null, .int 0, .int 0, .int 0, .int 0] j := by
  intro j hj
  match j, hj with
  | 0, _ => rfl
  | 1, _ => rfl
  | 2, _ => rfl
  | 3, _ => rfl
  | 4, _ => rfl
  | 5, _ => rfl
  | 6, _ => rfl
  | 7, _ => rfl
  | 8, _ => rfl
  | 9, _ => rfl
  | 10, _ => rfl
  | 11, _ => rfl
  | 12, _ => rfl
  | 13, _ => rfl
  | j + 14, h => exact absurd h (by omega)
theorem dfX5 : ∀ j, j < 3 → defaultValue (tyX5 j) = vp_V [.null, .null, .null] j := by
  intro j hj
  match j, hj with
  | 0, _ => rfl
  | 1, _ => rfl
  | 2, _ => rfl
  | j + 3, h => exact absurd h (by omega)
theorem dfX10 : ∀ j, j < 3 → defaultValue (tyX10 j) = vp_V [.null, .null, .null] j := by
  intro j hj
  match j, hj with
  | 0, _ => rfl
  | 1, _ => rfl
  | 2, _ => rfl
  | j + 3, h => exact absurd h (by omega)
theorem dfX11 : ∀ j, j < 10 → defaultValue (tyX11 j) = vp_V [.null, .null, .null, .int 0, .null, .null, .null, .null, .int 0, .null] j := by
  intro j hj
  match j, hj with
  | 0, _ => rfl
  | 1, _ => rfl
  | 2, _ => rfl
  | 3, _ => rfl
  | 4, _ => rfl
  | 5, _ => rfl
  | 6, _ => rfl
  | 7, _ => rfl
  | 8, _ => rfl
  | 9, _ => rfl
  | j + 10, h => exact absurd h (by omega)
theorem dfX12 : ∀ j, j < 39 → defaultValue (tyX12 j) = vp_V [.null, .null, .null, .int 0, .null, .null, .null, .null, .null, .int 0, .int 0, .int 0, .int 0, .int 0, .int 0, .int 0, .int 0, .int 0, .int 0, .int 0, .int 0, .null, .null, .null, .null, .null, .null, .null, .null, .null, .null, .null, .int 0, .int 0, .int 0, .null, .int 0, .null, .int 0] j := by
  intro j hj
  match j, hj with
  | 0, _ => rfl
  | 1, _ => rfl
  | 2, _ => rfl
  | 3, _ => rfl
  | 4, _ => rfl
  | 5, _ => rfl
  | 6, _ => rfl
  | 7, _ => rfl
  | 8, _ => rfl
  | 9, _ => rfl
  | 10, _ => rfl
  | 11, _ => rfl
  | 12, _ => rfl
  | 13, _ => rfl
  | 14, _ => rfl
  | 15, _ => rfl
  | 16, _ => rfl
  | 17, _ => rfl
  | 18, _ => rfl
  | 19, _ => rfl
  | 20, _ => rfl
  | 21, _ => rfl
  | 22, _ => rfl
  | 23, _ => rfl
  | 24, _ => rfl
  | 25, _ => rfl
  | 26, _ => rfl
  | 27, _ => rfl
  | 28, _ => rfl
  | 29, _ => rfl
  | 30, _ => rfl
  | 31, _ => rfl
  | 32, _ => rfl
  | 33, _ => rfl
  | 34, _ => rfl
  | 35, _ => rfl
  | 36, _ => rfl
  | 37, _ => rfl
  | 38, _ => rfl
  | j + 39, h => exact absurd h (by omega)
def psX6 (G : Gx) (h : Nat) (q : Nat → Nat) : va_W := [(h, .inr (6, [.int 0, .ref (q 0), .ref (q 1), .ref (q 2), .ref (q 3), .ref (q 4), .ref (q 5), .ref (q 6), .int 0, .int 0, .ref (q 7)])), ((q 0), .inl (gA G, 20, .inl fun _ => 0)), ((q 1), .inl (gA G, 20, .inl fun _ => 0)), ((q 2), .inl (gA G, 20, .inl fun _ => 0)), ((q 3), .inl (gA G, 20, .inl fun _ => 0)), ((q 4), .inl (gA G, 20, .inl fun _ => 0)), ((q 5), .inl (gA G, 20, .inl fun _ => 0)), ((q 6), .inl (gA G, 20, .inl fun _ => 0)), ((q 7), .inl (gA G, 2, .inl fun _ => 0))]
def rmX6_init : Room := { frames := 1, cells := 8, slots := 142, locals := 20 }
def psX9 (G : Gx) (h : Nat) (q : Nat → Nat) : va_W := [(h, .inr (9, [.int 0, .ref (q 0), .ref (q 1), .ref (q 2), .ref (q 3), .ref (q 4), .ref (q 5), .ref (q 6), .ref (q 7), .ref (q 8), .ref (q 9), .ref (q 10), .ref (q 11), .ref (q 12), .ref (q 13)])), ((q 0), .inl (gA G, 40, .inl fun _ => 0)), ((q 1), .inl (gA G, 40, .inl fun _ => 0)), ((q 2), .inl (gA G, 40, .inl fun _ => 0)), ((q 3), .inl (gA G, 40, .inl fun _ => 0)), ((q 4), .inl (gA G, 40, .inl fun _ => 0)), ((q 5), .inl (gA G, 40, .inl fun _ => 0)), ((q 6), .inl (gA G, 40, .inl fun _ => 0)), ((q 7), .inl (gA G, 40, .inl fun _ => 0)), ((q 8), .inl (gA G, 40, .inl fun _ => 0)), ((q 9), .inl (gA G, 40, .inl fun _ => 0)), ((q 10), .inl (gA G, 40, .inl fun _ => 0)), ((q 11), .inl (gA G, 320, .inl fun _ => 0)), ((q 12), .inl (gA G, 320, .inl fun _ => 0)), ((q 13), .inl (gA G, 20, .inl fun _ => 0))]
def rmX9_init : Room := { frames := 1, cells := 14, slots := 1100, locals := 20 }
def psX7 (G : Gx) (h : Nat) (q : Nat → Nat) : va_W := [(h, .inr (7, [.int 0, .ref (q 0), .ref (q 1), .ref (q 2), .int 0, .ref (q 3), .ref (q 4), .ref (q 5)])), ((q 0), .inl (gA G, 20, .inl fun _ => 0)), ((q 1), .inl (gA G, 20, .inl fun _ => 0)), ((q 2), .inl (gA G, 20, .inl fun _ => 0)), ((q 3), .inl (gA G, 20, .inl fun _ => 0)), ((q 4), .inl (gA G, 20, .inl fun _ => 0)), ((q 5), .inl (gA G, 20, .inl fun _ => 0))]
def rmX7_init : Room := { frames := 1, cells := 6, slots := 120, locals := 20 }
def psX4 (G : Gx) (h : Nat) (q : Nat → Nat) : va_W := [(h, .inr (4, [.int 0, .ref (q 0), .ref (q 1), .ref (q 2), .ref (q 3), .ref (q 4), .ref (q 5), .ref (q 6), .ref (q 7), .ref (q 8)])), ((q 0), .inl (gA G, 12, .inl fun _ => 0)), ((q 1), .inl (gA G, 12, .inl fun _ => 0)), ((q 2), .inl (gA G, 12, .inl fun _ => 0)), ((q 3), .inl (gA G, 12, .inl fun _ => 0)), ((q 4), .inl (gA G, 12, .inl fun _ => 0)), ((q 5), .inl (gA G, 12, .inl fun _ => 0)), ((q 6), .inl (gA G, 1152, .inl fun _ => 0)), ((q 7), .inl (gA G, 4, .inl fun _ => 0)), ((q 8), .inl (gA G, 96, .inl fun _ => 0))]
def rmX4_init : Room := { frames := 1, cells := 9, slots := 1324, locals := 20 }
def psX3 (G : Gx) (h : Nat) (q : Nat → Nat) : va_W := [(h, .inr (3, [.ref (q 0), .ref (q 1), .ref (q 2), .ref (q 3), .ref (q 4), .int 0, .ref (q 5)])), ((q 0), .inl (gA G, 2, .inl fun _ => 0)), ((q 1), .inl (gA G, 20, .inl fun _ => 0)), ((q 2), .inl (gA G, 20, .inl fun _ => 0)), ((q 3), .inl (gA G, 3, .inl fun _ => 0)), ((q 4), .inl (gA G, 10, .inl fun _ => 0)), ((q 5), .inl (gA G, 1, .inl fun _ => 0))]
def rmX3_init : Room := { frames := 1, cells := 6, slots := 56, locals := 20 }
def psX2 (G : Gx) (h : Nat) (q : Nat → Nat) : va_W := [(h, .inr (2, [.ref (q 0), .ref (q 1), .ref (q 2)])), ((q 0), .inl (gA G, 104, .inl fun _ => 0)), ((q 1), .inl (gA G, 8, .inl fun _ => 0)), ((q 2), .inl (gA G, 8, .inl fun _ => 0))]
def rmX2_init : Room := { frames := 1, cells := 3, slots := 120, locals := 20 }
def psX1 (G : Gx) (h : Nat) (q : Nat → Nat) : va_W := [(h, .inr (1, [.int 0, .ref (q 0), .ref (q 1), .ref (q 2), .ref (q 3), .int 0, .ref (q 4), .int 0, .int 0, .int 0])), ((q 0), .inl (gA G, 7, .inl fun _ => 0)), ((q 1), .inl (gA G, 7, .inl fun _ => 0)), ((q 2), .inl (gA G, 7, .inl fun _ => 0)), ((q 3), .inl (gA G, 7, .inl fun _ => 0)), ((q 4), .inl (gA G, 7, .inl fun _ => 0))]
def rmX1_init : Room := { frames := 1, cells := 5, slots := 35, locals := 20 }
def psX0 (G : Gx) (h : Nat) (q : (Nat → Nat) × (Nat × (Nat → Nat)) × (Nat × (Nat → Nat)) × (Nat × (Nat → Nat)) × (Nat × (Nat → Nat)) × (Nat × (Nat → Nat)) × (Nat × (Nat → Nat)) × (Nat × (Nat → Nat))) : va_W := [(h, .inr (0, [.int 0, .int 0, .ref (q.1 0), .ref (q.1 1), .ref (q.1 2), .ref (q.1 3), .ref (q.1 4), .ref (q.2.1.1), .ref (q.2.2.1.1), .ref (q.2.2.2.1.1), .ref (q.2.2.2.2.1.1), .ref (q.2.2.2.2.2.1.1), .ref (q.2.2.2.2.2.2.1.1), .ref (q.2.2.2.2.2.2.2.1)])), ((q.1 0), .inl (gA G, 16, .inl fun _ => 0)), ((q.1 1), .inl (gA G, 16, .inl fun _ => 0)), ((q.1 2), .inl (gA G, 16, .inl fun _ => 0)), ((q.1 3), .inl (gA G, 2, .inl (upd (upd (fun _ => 0) 0 (-1000000005)) 1 (-1000000005)))), ((q.1 4), .inl (gA G, 2, .inl (upd (upd (fun _ => 0) 0 10) 1 0)))] ++ psX6 G (q.2.1.1) (q.2.1.2) ++ psX9 G (q.2.2.1.1) (q.2.2.1.2) ++ psX7 G (q.2.2.2.1.1) (q.2.2.2.1.2) ++ psX4 G (q.2.2.2.2.1.1) (q.2.2.2.2.1.2) ++ psX3 G (q.2.2.2.2.2.1.1) (q.2.2.2.2.2.1.2) ++ psX2 G (q.2.2.2.2.2.2.1.1) (q.2.2.2.2.2.2.1.2) ++ psX1 G (q.2.2.2.2.2.2.2.1) (q.2.2.2.2.2.2.2.2)
def rmX0_init : Room := { frames := 2, cells := 63, slots := 3013, locals := 40 }
def psX8 (G : Gx) (h : Nat) (q : Nat → Nat) : va_W := [(h, .inr (8, [.int 0, .ref (q 0), .int 0, .int 0, .int 0, .ref (q 1), .int 0, .int 0, .int 0, .ref (q 2), .int 0, .int 0, .int 0, .int 1])), ((q 0), .inl (gA G, 96, .inl fun _ => 0)), ((q 1), .inl (gA G, 96, .inl fun _ => 0)), ((q 2), .inl (gA G, 96, .inl fun _ => 0))]
def rmX8_init : Room := { frames := 1, cells := 3, slots := 288, locals := 20 }
def psX5 (G : Gx) (h : Nat) (q : Nat → Nat) : va_W := [(h, .inr (5, [.ref (q 0), .ref (q 1), .ref (q 2)])), ((q 0), .inl (gA G, 2, .inl (upd (upd (fun _ => 0) 0 (-1)) 1 (-1)))), ((q 1), .inl (gA G, 2, .inl fun _ => 0)), ((q 2), .inl (gA G, 60, .inl fun _ => 0))]
def rmX5_init : Room := { frames := 1, cells := 3, slots := 64, locals := 20 }
def psX10 (G : Gx) (h : Nat) (q : Nat → Nat) : va_W := [(h, .inr (10, [.ref (q 0), .ref (q 1), .ref (q 2)])), ((q 0), .inl (gA G, 324, .inl fun _ => 0)), ((q 1), .inl (gA G, 18, .inl fun _ => 0)), ((q 2), .inl (gA G, 18, .inl fun _ => 0))]
def rmX10_init : Room := { frames := 1, cells := 3, slots := 360, locals := 20 }
def psX11 (G : Gx) (h : Nat) (q : (Nat → Nat) × (Nat × ((Nat → Nat) × (Nat × (Nat → Nat)) × (Nat × (Nat → Nat)) × (Nat × (Nat → Nat)) × (Nat × (Nat → Nat)) × (Nat × (Nat → Nat)) × (Nat × (Nat → Nat)) × (Nat × (Nat → Nat)))) × (Nat × ((Nat → Nat) × (Nat × (Nat → Nat)) × (Nat × (Nat → Nat)) × (Nat × (Nat → Nat)) × (Nat × (Nat → Nat)) × (Nat × (Nat → Nat)) × (Nat × (Nat → Nat)) × (Nat × (Nat → Nat)))) × (Nat × ((Nat → Nat) × (Nat × (Nat → Nat)) × (Nat × (Nat → Nat)) × (Nat × (Nat → Nat)) × (Nat × (Nat → Nat)) × (Nat × (Nat → Nat)) × (Nat × (Nat → Nat)) × (Nat × (Nat → Nat)))) × (Nat × (Nat → Nat)) × (Nat × (Nat → Nat)) × (Nat × (Nat → Nat))) : va_W := [(h, .inr (11, [.ref (q.2.1.1), .ref (q.2.2.1.1), .ref (q.2.2.2.1.1), .int 0, .ref (q.2.2.2.2.1.1), .ref (q.2.2.2.2.2.1.1), .ref (q.2.2.2.2.2.2.1), .ref (q.1 0), .int 0, .ref (q.1 1)]))] ++ psX0 G (q.2.1.1) (q.2.1.2) ++ psX0 G (q.2.2.1.1) (q.2.2.1.2) ++ psX0 G (q.2.2.2.1.1) (q.2.2.2.1.2) ++ psX8 G (q.2.2.2.2.1.1) (q.2.2.2.2.1.2) ++ psX5 G (q.2.2.2.2.2.1.1) (q.2.2.2.2.2.1.2) ++ psX10 G (q.2.2.2.2.2.2.1) (q.2.2.2.2.2.2.2) ++ [((q.1 0), .inl (gA G, 60, .inl fun _ => 0)), ((q.1 1), .inl (gA G, 60, .inl fun _ => 0))]
def rmX11_init : Room := { frames := 3, cells := 206, slots := 9933, locals := 60 }
def psX12 (G : Gx) (h : Nat) (q : Nat → Nat) : va_W := [(h, .inr (12, [.ref (q 0), .ref (q 1), .ref (q 2), .int 0, .ref (q 3), .ref (q 4), .ref (q 5), .ref (q 6), .ref (q 7), .int 0, .int 0, .int 0, .int 0, .int 0, .int 0, .int 0, .int 0, .int 0, .int 0, .int 0, .int (-1), .ref (q 8), .ref (q 9), .ref (q 10), .ref (q 11), .ref (q 12), .ref (q 13), .ref (q 14), .ref (q 15), .ref (q 16), .ref (q 17), .ref (q 18), .int 0, .int 0, .int 0, .ref (q 19), .int 0, .ref (q 20), .int 0])), ((q 0), .inl (gA G, 4210, .inl (upd (upd (upd (fun _ => 0) 11 10) 13 (-1)) 14 (-1)))), ((q 1), .inl (gA G, 4210, .inl fun _ => 0)), ((q 2), .inl (gA G, 4210, .inl fun _ => 0)), ((q 3), .inl (gA G, 2, .inl (upd (upd (fun _ => 0) 0 (-1)) 1 (-1)))), ((q 4), .inl (gA G, 2, .inl fun _ => 0)), ((q 5), .inl (gA G, 60, .inl fun _ => 0)), ((q 6), .inl (gA G, 400, .inl fun _ => 0)), ((q 7), .inl (gA G, 96, .inl fun _ => 0)), ((q 8), .inl (gA G, 128, .inl fun _ => 0)), ((q 9), .inl (gA G, 100, .inl fun _ => 0)), ((q 10), .inl (gA G, 324, .inl fun _ => 0)), ((q 11), .inl (gA G, 18, .inl fun _ => 0)), ((q 12), .inl (gA G, 18, .inl fun _ => 0)), ((q 13), .inl (gA G, 11264, .inl fun _ => 0)), ((q 14), .inl (gA G, 10, .inl fun _ => 0)), ((q 15), .inl (gA G, 30, .inl fun _ => 0)), ((q 16), .inl (gA G, 8, .inl fun _ => 0)), ((q 17), .inl (gA G, 8, .inl fun _ => 0)), ((q 18), .inl (gA G, 8, .inl fun _ => 0)), ((q 19), .inl (gA G, 60, .inl fun _ => 0)), ((q 20), .inl (gA G, 60, .inl fun _ => 0))]
def rmX12_init : Room := { frames := 1, cells := 21, slots := 25226, locals := 20 }
set_option maxRecDepth 100000 in
set_option maxHeartbeats 4000000 in
theorem cc_X6_init (l : Launch) (G : Gx) : Cc l G yX6_init (wsM yX6_init cX6_init 1 none) rmX6_init 6 [.int 0, .null, .null, .null, .null, .null, .null, .null, .int 0, .int 0, .null] (psX6 G) := by
  refine cc_of RX6 (by decide +kernel) rfl (Nat.le_of_ble_eq_true rfl) rfl ?_
  intro X wr h C hin hl hG hN hR hq
  have hRo : 1 ≤ (xR X).frames ∧ 20 ≤ (xR X).locals := by rw [hR]; exact ⟨Nat.le_of_ble_eq_true rfl, Nat.le_of_ble_eq_true rfl⟩
  have hRm : ∀ {rm : Room} {ny : Nat}, RmOk rmX6_init rm ny → RmOk (xR X) rm ny := fun h => by rw [hR]; exact h
  show Bd X 8 142 0 [(0, .ref h)] [] wr [(h, .inr (6, [.int 0, .null, .null, .null, .null, .null, .null, .null, .int 0, .int 0, .null]))]
  refine b_aload C dX6_init_0 rfl (q := 0) rfl ?_
  refine b_obj C hRo dX6_init_1 ml_X6_3 oi_im oi_cd ?_
  refine b_aload C dX6_init_4 rfl (q := 0) rfl ?_
  refine b_iconst C dX6_init_5 (v := 0) rfl ?_
  refine b_put C 0 (k := 0) kX6 dX6_init_6 rfl (by decide) fl_X6_9 rfl rfl rfl (Nat.le_of_ble_eq_true rfl) (tl' := [(h, .inr (6, [.int 0, .null, .null, .null, .null, .null, .null, .null, .int 0, .int 0, .null]))]) rfl ?_
  refine b_aload C dX6_init_9 rfl (q := 0) rfl ?_
  refine b_bipush C dX6_init_10 (v := 20) (by decide) ?_
  refine b_newa (kc' := 7) (ks' := 122) C (n := 20) dX6_init_12 ⟨by decide, by decide, by decide⟩ (Nat.le_of_ble_eq_true rfl) (Nat.le_of_ble_eq_true rfl) (fun a1 => ?_)
  refine b_putF C hin 0 (k := 1) kX6 dX6_init_14 rfl (by decide) fl_X6_15 rfl rfl rfl rfl (Nat.le_of_ble_eq_true rfl) (tl' := [(h, .inr (6, [.int 0, .ref a1, .null, .null, .null, .null, .null, .null, .int 0, .int 0, .null])), (a1, .inl (gA (xG X), 20, .inl fun _ => 0))]) rfl ?_
  refine b_aload C dX6_init_17 rfl (q := 0) rfl ?_
  refine b_bipush C dX6_init_18 (v := 20) (by decide) ?_
  refine b_newa (kc' := 6) (ks' := 102) C (n := 20) dX6_init_20 ⟨by decide, by decide, by decide⟩ (Nat.le_of_ble_eq_true rfl) (Nat.le_of_ble_eq_true rfl) (fun a2 => ?_)
  refine b_putF C hin 0 (k := 2) kX6 dX6_init_22 rfl (by decide) fl_X6_19 rfl rfl rfl rfl (Nat.le_of_ble_eq_true rfl) (tl' := [(h, .inr (6, [.int 0, .ref a1, .ref a2, .null, .null, .null, .null, .null, .int 0, .int 0, .null])), (a1, .inl (gA (xG X), 20, .inl fun _ => 0)), (a2, .inl (gA (xG X), 20, .inl fun _ => 0))]) rfl ?_
  refine b_aload C dX6_init_25 rfl (q := 0) rfl ?_
  refine b_bipush C dX6_init_26 (v := 20) (by decide) ?_
  refine b_newa (kc' := 5) (ks' := 82) C (n := 20) dX6_init_28 ⟨by decide, by decide, by decide⟩ (Nat.le_of_ble_eq_true rfl) (Nat.le_of_ble_eq_true rfl) (fun a3 => ?_)
  refine b_putF C hin 0 (k := 3) kX6 dX6_init_30 rfl (by decide) fl_X6_22 rfl rfl rfl rfl (Nat.le_of_ble_eq_true rfl) (tl' := [(h, .inr (6, [.int 0, .ref a1, .ref a2, .ref a3, .null, .null, .null, .null, .int 0, .int 0, .null])), (a1, .inl (gA (xG X), 20, .inl fun _ => 0)), (a2, .inl (gA (xG X), 20, .inl fun _ => 0)), (a3, .inl (gA (xG X), 20, .inl fun _ => 0))]) rfl ?_
  refine b_aload C dX6_init_33 rfl (q := 0) rfl ?_
  refine b_bipush C dX6_init_34 (v := 20) (by decide) ?_
  refine b_newa (kc' := 4) (ks' := 62) C (n := 20) dX6_init_36 ⟨by decide, by decide, by decide⟩ (Nat.le_of_ble_eq_true rfl) (Nat.le_of_ble_eq_true rfl) (fun a4 => ?_)
  refine b_putF C hin 0 (k := 4) kX6 dX6_init_38 rfl (by decide) fl_X6_25 rfl rfl rfl rfl (Nat.le_of_ble_eq_true rfl) (tl' := [(h, .inr (6, [.int 0, .ref a1, .ref a2, .ref a3, .ref a4, .null, .null, .null, .int 0, .int 0, .null])), (a1, .inl (gA (xG X), 20, .inl fun _ => 0)), (a2, .inl (gA (xG X), 20, .inl fun _ => 0)), (a3, .inl (gA (xG X), 20, .inl fun _ => 0)), (a4, .inl (gA (xG X), 20, .inl fun _ => 0))]) rfl ?_
  refine b_aload C dX6_init_41 rfl (q := 0) rfl ?_
  refine b_bipush C dX6_init_42 (v := 20) (by decide) ?_
  refine b_newa (kc' := 3) (ks' := 42) C (n := 20) dX6_init_44 ⟨by decide, by decide, by decide⟩ (Nat.le_of_ble_eq_true rfl) (Nat.le_of_ble_eq_true rfl) (fun a5 => ?_)
  refine b_putF C hin 0 (k := 5) kX6 dX6_init_46 rfl (by decide) fl_X6_28 rfl rfl rfl rfl (Nat.le_of_ble_eq_true rfl) (tl' := [(h, .inr (6, [.int 0, .ref a1, .ref a2, .ref a3, .ref a4, .ref a5, .null, .null, .int 0, .int 0, .null])), (a1, .inl (gA (xG X), 20, .inl fun _ => 0)), (a2, .inl (gA (xG X), 20, .inl fun _ => 0)), (a3, .inl (gA (xG X), 20, .inl fun _ => 0)), (a4, .inl (gA (xG X), 20, .inl fun _ => 0)), (a5, .inl (gA (xG X), 20, .inl fun _ => 0))]) rfl ?_
  refine b_aload C dX6_init_49 rfl (q := 0) rfl ?_
  refine b_bipush C dX6_init_50 (v := 20) (by decide) ?_
  refine b_newa (kc' := 2) (ks' := 22) C (n := 20) dX6_init_52 ⟨by decide, by decide, by decide⟩ (Nat.le_of_ble_eq_true rfl) (Nat.le_of_ble_eq_true rfl) (fun a6 => ?_)
  refine b_putF C hin 0 (k := 6) kX6 dX6_init_54 rfl (by decide) fl_X6_31 rfl rfl rfl rfl (Nat.le_of_ble_eq_true rfl) (tl' := [(h, .inr (6, [.int 0, .ref a1, .ref a2, .ref a3, .ref a4, .ref a5, .ref a6, .null, .int 0, .int 0, .null])), (a1, .inl (gA (xG X), 20, .inl fun _ => 0)), (a2, .inl (gA (xG X), 20, .inl fun _ => 0)), (a3, .inl (gA (xG X), 20, .inl fun _ => 0)), (a4, .inl (gA (xG X), 20, .inl fun _ => 0)), (a5, .inl (gA (xG X), 20, .inl fun _ => 0)), (a6, .inl (gA (xG X), 20, .inl fun _ => 0))]) rfl ?_
  refine b_aload C dX6_init_57 rfl (q := 0) rfl ?_
  refine b_bipush C dX6_init_58 (v := 20) (by decide) ?_
  refine b_newa (kc' := 1) (ks' := 2) C (n := 20) dX6_init_60 ⟨by decide, by decide, by decide⟩ (Nat.le_of_ble_eq_true rfl) (Nat.le_of_ble_eq_true rfl) (fun a7 => ?_)
  refine b_putF C hin 0 (k := 7) kX6 dX6_init_62 rfl (by decide) fl_X6_34 rfl rfl rfl rfl (Nat.le_of_ble_eq_true rfl) (tl' := [(h, .inr (6, [.int 0, .ref a1, .ref a2, .ref a3, .ref a4, .ref a5, .ref a6, .ref a7, .int 0, .int 0, .null])), (a1, .inl (gA (xG X), 20, .inl fun _ => 0)), (a2, .inl (gA (xG X), 20, .inl fun _ => 0)), (a3, .inl (gA (xG X), 20, .inl fun _ => 0)), (a4, .inl (gA (xG X), 20, .inl fun _ => 0)), (a5, .inl (gA (xG X), 20, .inl fun _ => 0)), (a6, .inl (gA (xG X), 20, .inl fun _ => 0)), (a7, .inl (gA (xG X), 20, .inl fun _ => 0))]) rfl ?_
  refine b_aload C dX6_init_65 rfl (q := 0) rfl ?_
  refine b_iconst C dX6_init_66 (v := 0) rfl ?_
  refine b_put C 0 (k := 8) kX6 dX6_init_67 rfl (by decide) fl_X6_37 rfl rfl rfl (Nat.le_of_ble_eq_true rfl) (tl' := [(h, .inr (6, [.int 0, .ref a1, .ref a2, .ref a3, .ref a4, .ref a5, .ref a6, .ref a7, .int 0, .int 0, .null])), (a1, .inl (gA (xG X), 20, .inl fun _ => 0)), (a2, .inl (gA (xG X), 20, .inl fun _ => 0)), (a3, .inl (gA (xG X), 20, .inl fun _ => 0)), (a4, .inl (gA (xG X), 20, .inl fun _ => 0)), (a5, .inl (gA (xG X), 20, .inl fun _ => 0)), (a6, .inl (gA (xG X), 20, .inl fun _ => 0)), (a7, .inl (gA (xG X), 20, .inl fun _ => 0))]) rfl ?_
  refine b_aload C dX6_init_70 rfl (q := 0) rfl ?_
  refine b_iconst C dX6_init_71 (v := 0) rfl ?_
  refine b_put C 0 (k := 9) kX6 dX6_init_72 rfl (by decide) fl_X6_40 rfl rfl rfl (Nat.le_of_ble_eq_true rfl) (tl' := [(h, .inr (6, [.int 0, .ref a1, .ref a2, .ref a3, .ref a4, .ref a5, .ref a6, .ref a7, .int 0, .int 0, .null])), (a1, .inl (gA (xG X), 20, .inl fun _ => 0)), (a2, .inl (gA (xG X), 20, .inl fun _ => 0)), (a3, .inl (gA (xG X), 20, .inl fun _ => 0)), (a4, .inl (gA (xG X), 20, .inl fun _ => 0)), (a5, .inl (gA (xG X), 20, .inl fun _ => 0)), (a6, .inl (gA (xG X), 20, .inl fun _ => 0)), (a7, .inl (gA (xG X), 20, .inl fun _ => 0))]) rfl ?_
  refine b_aload C dX6_init_75 rfl (q := 0) rfl ?_
  refine b_iconst C dX6_init_76 (v := 2) rfl ?_
  refine b_newa (kc' := 0) (ks' := 0) C (n := 2) dX6_init_77 ⟨by decide, by decide, by decide⟩ (Nat.le_of_ble_eq_true rfl) (Nat.le_of_ble_eq_true rfl) (fun a8 => ?_)
  refine b_putF C hin 0 (k := 10) kX6 dX6_init_79 rfl (by decide) fl_X6_43 rfl rfl rfl rfl (Nat.le_of_ble_eq_true rfl) (tl' := [(h, .inr (6, [.int 0, .ref a1, .ref a2, .ref a3, .ref a4, .ref a5, .ref a6, .ref a7, .int 0, .int 0, .ref a8])), (a1, .inl (gA (xG X), 20, .inl fun _ => 0)), (a2, .inl (gA (xG X), 20, .inl fun _ => 0)), (a3, .inl (gA (xG X), 20, .inl fun _ => 0)), (a4, .inl (gA (xG X), 20, .inl fun _ => 0)), (a5, .inl (gA (xG X), 20, .inl fun _ => 0)), (a6, .inl (gA (xG X), 20, .inl fun _ => 0)), (a7, .inl (gA (xG X), 20, .inl fun _ => 0)), (a8, .inl (gA (xG X), 2, .inl fun _ => 0))]) rfl ?_
  subst hG
  exact b_ret C rfl hR hq (fun i => [a1, a2, a3, a4, a5, a6, a7, a8].getD i 0) rfl dX6_init_82
set_option maxRecDepth 100000 in
set_option maxHeartbeats 4000000 in
theorem cc_X9_init (l : Launch) (G : Gx) : Cc l G yX9_init (wsM yX9_init cX9_init 1 none) rmX9_init 9 [.int 0, .null, .null, .null, .null, .null, .null, .null, .null, .null, .null, .null, .null, .null, .null] (psX9 G) := by
  refine cc_of RX9 (by decide +kernel) rfl (Nat.le_of_ble_eq_true rfl) rfl ?_
  intro X wr h C hin hl hG hN hR hq
  have hRo : 1 ≤ (xR X).frames ∧ 20 ≤ (xR X).locals := by rw [hR]; exact ⟨Nat.le_of_ble_eq_true rfl, Nat.le_of_ble_eq_true rfl⟩
  have hRm : ∀ {rm : Room} {ny : Nat}, RmOk rmX9_init rm ny → RmOk (xR X) rm ny := fun h => by rw [hR]; exact h
  show Bd X 14 1100 0 [(0, .ref h)] [] wr [(h, .inr (9, [.int 0, .null, .null, .null, .null, .null, .null, .null, .null, .null, .null, .null, .null, .null, .null]))]
  refine b_aload C dX9_init_0 rfl (q := 0) rfl ?_
  refine b_obj C hRo dX9_init_1 ml_X9_3 oi_im oi_cd ?_
  refine b_aload C dX9_init_4 rfl (q := 0) rfl ?_
  refine b_iconst C dX9_init_5 (v := 0) rfl ?_
  refine b_put C 0 (k := 0) kX9 dX9_init_6 rfl (by decide) fl_X9_9 rfl rfl rfl (Nat.le_of_ble_eq_true rfl) (tl' := [(h, .inr (9, [.int 0, .null, .null, .null, .null, .null, .null, .null, .null, .null, .null, .null, .null, .null, .null]))]) rfl ?_
  refine b_aload C dX9_init_9 rfl (q := 0) rfl ?_
  refine b_bipush C dX9_init_10 (v := 40) (by decide) ?_
  refine b_newa (kc' := 13) (ks' := 1060) C (n := 40) dX9_init_12 ⟨by decide, by decide, by decide⟩ (Nat.le_of_ble_eq_true rfl) (Nat.le_of_ble_eq_true rfl) (fun a1 => ?_)
  refine b_putF C hin 0 (k := 1) kX9 dX9_init_14 rfl (by decide) fl_X9_15 rfl rfl rfl rfl (Nat.le_of_ble_eq_true rfl) (tl' := [(h, .inr (9, [.int 0, .ref a1, .null, .null, .null, .null, .null, .null, .null, .null, .null, .null, .null, .null, .null])), (a1, .inl (gA (xG X), 40, .inl fun _ => 0))]) rfl ?_
  refine b_aload C dX9_init_17 rfl (q := 0) rfl ?_
  refine b_bipush C dX9_init_18 (v := 40) (by decide) ?_
  refine b_newa (kc' := 12) (ks' := 1020) C (n := 40) dX9_init_20 ⟨by decide, by decide, by decide⟩ (Nat.le_of_ble_eq_true rfl) (Nat.le_of_ble_eq_true rfl) (fun a2 => ?_)
  refine b_putF C hin 0 (k := 2) kX9 dX9_init_22 rfl (by decide) fl_X9_19 rfl rfl rfl rfl (Nat.le_of_ble_eq_true rfl) (tl' := [(h, .inr (9, [.int 0, .ref a1, .ref a2, .null, .null, .null, .null, .null, .null, .null, .null, .null, .null, .null, .null])), (a1, .inl (gA (xG X), 40, .inl fun _ => 0)), (a2, .inl (gA (xG X), 40, .inl fun _ => 0))]) rfl ?_
  refine b_aload C dX9_init_25 rfl (q := 0) rfl ?_
  refine b_bipush C dX9_init_26 (v := 40) (by decide) ?_
  refine b_newa (kc' := 11) (ks' := 980) C (n := 40) dX9_init_28 ⟨by decide, by decide, by decide⟩ (Nat.le_of_ble_eq_true rfl) (Nat.le_of_ble_eq_true rfl) (fun a3 => ?_)
  refine b_putF C hin 0 (k := 3) kX9 dX9_init_30 rfl (by decide) fl_X9_22 rfl rfl rfl rfl (Nat.le_of_ble_eq_true rfl) (tl' := [(h, .inr (9, [.int 0, .ref a1, .ref a2, .ref a3, .null, .null, .null, .null, .null, .null, .null, .null, .null, .null, .null])), (a1, .inl (gA (xG X), 40, .inl fun _ => 0)), (a2, .inl (gA (xG X), 40, .inl fun _ => 0)), (a3, .inl (gA (xG X), 40, .inl fun _ => 0))]) rfl ?_
  refine b_aload C dX9_init_33 rfl (q := 0) rfl ?_
  refine b_bipush C dX9_init_34 (v := 40) (by decide) ?_
  refine b_newa (kc' := 10) (ks' := 940) C (n := 40) dX9_init_36 ⟨by decide, by decide, by decide⟩ (Nat.le_of_ble_eq_true rfl) (Nat.le_of_ble_eq_true rfl) (fun a4 => ?_)
  refine b_putF C hin 0 (k := 4) kX9 dX9_init_38 rfl (by decide) fl_X9_25 rfl rfl rfl rfl (Nat.le_of_ble_eq_true rfl) (tl' := [(h, .inr (9, [.int 0, .ref a1, .ref a2, .ref a3, .ref a4, .null, .null, .null, .null, .null, .null, .null, .null, .null, .null])), (a1, .inl (gA (xG X), 40, .inl fun _ => 0)), (a2, .inl (gA (xG X), 40, .inl fun _ => 0)), (a3, .inl (gA (xG X), 40, .inl fun _ => 0)), (a4, .inl (gA (xG X), 40, .inl fun _ => 0))]) rfl ?_
  refine b_aload C dX9_init_41 rfl (q := 0) rfl ?_
  refine b_bipush C dX9_init_42 (v := 40) (by decide) ?_
  refine b_newa (kc' := 9) (ks' := 900) C (n := 40) dX9_init_44 ⟨by decide, by decide, by decide⟩ (Nat.le_of_ble_eq_true rfl) (Nat.le_of_ble_eq_true rfl) (fun a5 => ?_)
  refine b_putF C hin 0 (k := 5) kX9 dX9_init_46 rfl (by decide) fl_X9_28 rfl rfl rfl rfl (Nat.le_of_ble_eq_true rfl) (tl' := [(h, .inr (9, [.int 0, .ref a1, .ref a2, .ref a3, .ref a4, .ref a5, .null, .null, .null, .null, .null, .null, .null, .null, .null])), (a1, .inl (gA (xG X), 40, .inl fun _ => 0)), (a2, .inl (gA (xG X), 40, .inl fun _ => 0)), (a3, .inl (gA (xG X), 40, .inl fun _ => 0)), (a4, .inl (gA (xG X), 40, .inl fun _ => 0)), (a5, .inl (gA (xG X), 40, .inl fun _ => 0))]) rfl ?_
  refine b_aload C dX9_init_49 rfl (q := 0) rfl ?_
  refine b_bipush C dX9_init_50 (v := 40) (by decide) ?_
  refine b_newa (kc' := 8) (ks' := 860) C (n := 40) dX9_init_52 ⟨by decide, by decide, by decide⟩ (Nat.le_of_ble_eq_true rfl) (Nat.le_of_ble_eq_true rfl) (fun a6 => ?_)
  refine b_putF C hin 0 (k := 6) kX9 dX9_init_54 rfl (by decide) fl_X9_31 rfl rfl rfl rfl (Nat.le_of_ble_eq_true rfl) (tl' := [(h, .inr (9, [.int 0, .ref a1, .ref a2, .ref a3, .ref a4, .ref a5, .ref a6, .null, .null, .null, .null, .null, .null, .null, .null])), (a1, .inl (gA (xG X), 40, .inl fun _ => 0)), (a2, .inl (gA (xG X), 40, .inl fun _ => 0)), (a3, .inl (gA (xG X), 40, .inl fun _ => 0)), (a4, .inl (gA (xG X), 40, .inl fun _ => 0)), (a5, .inl (gA (xG X), 40, .inl fun _ => 0)), (a6, .inl (gA (xG X), 40, .inl fun _ => 0))]) rfl ?_
  refine b_aload C dX9_init_57 rfl (q := 0) rfl ?_
  refine b_bipush C dX9_init_58 (v := 40) (by decide) ?_
  refine b_newa (kc' := 7) (ks' := 820) C (n := 40) dX9_init_60 ⟨by decide, by decide, by decide⟩ (Nat.le_of_ble_eq_true rfl) (Nat.le_of_ble_eq_true rfl) (fun a7 => ?_)
  refine b_putF C hin 0 (k := 7) kX9 dX9_init_62 rfl (by decide) fl_X9_34 rfl rfl rfl rfl (Nat.le_of_ble_eq_true rfl) (tl' := [(h, .inr (9, [.int 0, .ref a1, .ref a2, .ref a3, .ref a4, .ref a5, .ref a6, .ref a7, .null, .null, .null, .null, .null, .null, .null])), (a1, .inl (gA (xG X), 40, .inl fun _ => 0)), (a2, .inl (gA (xG X), 40, .inl fun _ => 0)), (a3, .inl (gA (xG X), 40, .inl fun _ => 0)), (a4, .inl (gA (xG X), 40, .inl fun _ => 0)), (a5, .inl (gA (xG X), 40, .inl fun _ => 0)), (a6, .inl (gA (xG X), 40, .inl fun _ => 0)), (a7, .inl (gA (xG X), 40, .inl fun _ => 0))]) rfl ?_
  refine b_aload C dX9_init_65 rfl (q := 0) rfl ?_
  refine b_bipush C dX9_init_66 (v := 40) (by decide) ?_
  refine b_newa (kc' := 6) (ks' := 780) C (n := 40) dX9_init_68 ⟨by decide, by decide, by decide⟩ (Nat.le_of_ble_eq_true rfl) (Nat.le_of_ble_eq_true rfl) (fun a8 => ?_)
  refine b_putF C hin 0 (k := 8) kX9 dX9_init_70 rfl (by decide) fl_X9_37 rfl rfl rfl rfl (Nat.le_of_ble_eq_true rfl) (tl' := [(h, .inr (9, [.int 0, .ref a1, .ref a2, .ref a3, .ref a4, .ref a5, .ref a6, .ref a7, .ref a8, .null, .null, .null, .null, .null, .null])), (a1, .inl (gA (xG X), 40, .inl fun _ => 0)), (a2, .inl (gA (xG X), 40, .inl fun _ => 0)), (a3, .inl (gA (xG X), 40, .inl fun _ => 0)), (a4, .inl (gA (xG X), 40, .inl fun _ => 0)), (a5, .inl (gA (xG X), 40, .inl fun _ => 0)), (a6, .inl (gA (xG X), 40, .inl fun _ => 0)), (a7, .inl (gA (xG X), 40, .inl fun _ => 0)), (a8, .inl (gA (xG X), 40, .inl fun _ => 0))]) rfl ?_
  refine b_aload C dX9_init_73 rfl (q := 0) rfl ?_
  refine b_bipush C dX9_init_74 (v := 40) (by decide) ?_
  refine b_newa (kc' := 5) (ks' := 740) C (n := 40) dX9_init_76 ⟨by decide, by decide, by decide⟩ (Nat.le_of_ble_eq_true rfl) (Nat.le_of_ble_eq_true rfl) (fun a9 => ?_)
  refine b_putF C hin 0 (k := 9) kX9 dX9_init_78 rfl (by decide) fl_X9_40 rfl rfl rfl rfl (Nat.le_of_ble_eq_true rfl) (tl' := [(h, .inr (9, [.int 0, .ref a1, .ref a2, .ref a3, .ref a4, .ref a5, .ref a6, .ref a7, .ref a8, .ref a9, .null, .null, .null, .null, .null])), (a1, .inl (gA (xG X), 40, .inl fun _ => 0)), (a2, .inl (gA (xG X), 40, .inl fun _ => 0)), (a3, .inl (gA (xG X), 40, .inl fun _ => 0)), (a4, .inl (gA (xG X), 40, .inl fun _ => 0)), (a5, .inl (gA (xG X), 40, .inl fun _ => 0)), (a6, .inl (gA (xG X), 40, .inl fun _ => 0)), (a7, .inl (gA (xG X), 40, .inl fun _ => 0)), (a8, .inl (gA (xG X), 40, .inl fun _ => 0)), (a9, .inl (gA (xG X), 40, .inl fun _ => 0))]) rfl ?_
  refine b_aload C dX9_init_81 rfl (q := 0) rfl ?_
  refine b_bipush C dX9_init_82 (v := 40) (by decide) ?_
  refine b_newa (kc' := 4) (ks' := 700) C (n := 40) dX9_init_84 ⟨by decide, by decide, by decide⟩ (Nat.le_of_ble_eq_true rfl) (Nat.le_of_ble_eq_true rfl) (fun a10 => ?_)
  refine b_putF C hin 0 (k := 10) kX9 dX9_init_86 rfl (by decide) fl_X9_43 rfl rfl rfl rfl (Nat.le_of_ble_eq_true rfl) (tl' := [(h, .inr (9, [.int 0, .ref a1, .ref a2, .ref a3, .ref a4, .ref a5, .ref a6, .ref a7, .ref a8, .ref a9, .ref a10, .null, .null, .null, .null])), (a1, .inl (gA (xG X), 40, .inl fun _ => 0)), (a2, .inl (gA (xG X), 40, .inl fun _ => 0)), (a3, .inl (gA (xG X), 40, .inl fun _ => 0)), (a4, .inl (gA (xG X), 40, .inl fun _ => 0)), (a5, .inl (gA (xG X), 40, .inl fun _ => 0)), (a6, .inl (gA (xG X), 40, .inl fun _ => 0)), (a7, .inl (gA (xG X), 40, .inl fun _ => 0)), (a8, .inl (gA (xG X), 40, .inl fun _ => 0)), (a9, .inl (gA (xG X), 40, .inl fun _ => 0)), (a10, .inl (gA (xG X), 40, .inl fun _ => 0))]) rfl ?_
  refine b_aload C dX9_init_89 rfl (q := 0) rfl ?_
  refine b_bipush C dX9_init_90 (v := 40) (by decide) ?_
  refine b_newa (kc' := 3) (ks' := 660) C (n := 40) dX9_init_92 ⟨by decide, by decide, by decide⟩ (Nat.le_of_ble_eq_true rfl) (Nat.le_of_ble_eq_true rfl) (fun a11 => ?_)
  refine b_putF C hin 0 (k := 11) kX9 dX9_init_94 rfl (by decide) fl_X9_46 rfl rfl rfl rfl (Nat.le_of_ble_eq_true rfl) (tl' := [(h, .inr (9, [.int 0, .ref a1, .ref a2, .ref a3, .ref a4, .ref a5, .ref a6, .ref a7, .ref a8, .ref a9, .ref a10, .ref a11, .null, .null, .null])), (a1, .inl (gA (xG X), 40, .inl fun _ => 0)), (a2, .inl (gA (xG X), 40, .inl fun _ => 0)), (a3, .inl (gA (xG X), 40, .inl fun _ => 0)), (a4, .inl (gA (xG X), 40, .inl fun _ => 0)), (a5, .inl (gA (xG X), 40, .inl fun _ => 0)), (a6, .inl (gA (xG X), 40, .inl fun _ => 0)), (a7, .inl (gA (xG X), 40, .inl fun _ => 0)), (a8, .inl (gA (xG X), 40, .inl fun _ => 0)), (a9, .inl (gA (xG X), 40, .inl fun _ => 0)), (a10, .inl (gA (xG X), 40, .inl fun _ => 0)), (a11, .inl (gA (xG X), 40, .inl fun _ => 0))]) rfl ?_
  refine b_aload C dX9_init_97 rfl (q := 0) rfl ?_
  refine b_sipush C dX9_init_98 (v := 320) (by decide) ?_
  refine b_newa (kc' := 2) (ks' := 340) C (n := 320) dX9_init_101 ⟨by decide, by decide, by decide⟩ (Nat.le_of_ble_eq_true rfl) (Nat.le_of_ble_eq_true rfl) (fun a12 => ?_)
  refine b_putF C hin 0 (k := 12) kX9 dX9_init_103 rfl (by decide) fl_X9_49 rfl rfl rfl rfl (Nat.le_of_ble_eq_true rfl) (tl' := [(h, .inr (9, [.int 0, .ref a1, .ref a2, .ref a3, .ref a4, .ref a5, .ref a6, .ref a7, .ref a8, .ref a9, .ref a10, .ref a11, .ref a12, .null, .null])), (a1, .inl (gA (xG X), 40, .inl fun _ => 0)), (a2, .inl (gA (xG X), 40, .inl fun _ => 0)), (a3, .inl (gA (xG X), 40, .inl fun _ => 0)), (a4, .inl (gA (xG X), 40, .inl fun _ => 0)), (a5, .inl (gA (xG X), 40, .inl fun _ => 0)), (a6, .inl (gA (xG X), 40, .inl fun _ => 0)), (a7, .inl (gA (xG X), 40, .inl fun _ => 0)), (a8, .inl (gA (xG X), 40, .inl fun _ => 0)), (a9, .inl (gA (xG X), 40, .inl fun _ => 0)), (a10, .inl (gA (xG X), 40, .inl fun _ => 0)), (a11, .inl (gA (xG X), 40, .inl fun _ => 0)), (a12, .inl (gA (xG X), 320, .inl fun _ => 0))]) rfl ?_
  refine b_aload C dX9_init_106 rfl (q := 0) rfl ?_
  refine b_sipush C dX9_init_107 (v := 320) (by decide) ?_
  refine b_newa (kc' := 1) (ks' := 20) C (n := 320) dX9_init_110 ⟨by decide, by decide, by decide⟩ (Nat.le_of_ble_eq_true rfl) (Nat.le_of_ble_eq_true rfl) (fun a13 => ?_)
  refine b_putF C hin 0 (k := 13) kX9 dX9_init_112 rfl (by decide) fl_X9_52 rfl rfl rfl rfl (Nat.le_of_ble_eq_true rfl) (tl' := [(h, .inr (9, [.int 0, .ref a1, .ref a2, .ref a3, .ref a4, .ref a5, .ref a6, .ref a7, .ref a8, .ref a9, .ref a10, .ref a11, .ref a12, .ref a13, .null])), (a1, .inl (gA (xG X), 40, .inl fun _ => 0)), (a2, .inl (gA (xG X), 40, .inl fun _ => 0)), (a3, .inl (gA (xG X), 40, .inl fun _ => 0)), (a4, .inl (gA (xG X), 40, .inl fun _ => 0)), (a5, .inl (gA (xG X), 40, .inl fun _ => 0)), (a6, .inl (gA (xG X), 40, .inl fun _ => 0)), (a7, .inl (gA (xG X), 40, .inl fun _ => 0)), (a8, .inl (gA (xG X), 40, .inl fun _ => 0)), (a9, .inl (gA (xG X), 40, .inl fun _ => 0)), (a10, .inl (gA (xG X), 40, .inl fun _ => 0)), (a11, .inl (gA (xG X), 40, .inl fun _ => 0)), (a12, .inl (gA (xG X), 320, .inl fun _ => 0)), (a13, .inl (gA (xG X), 320, .inl fun _ => 0))]) rfl ?_
  refine b_aload C dX9_init_115 rfl (q := 0) rfl ?_
  refine b_bipush C dX9_init_116 (v := 20) (by decide) ?_
  refine b_newa (kc' := 0) (ks' := 0) C (n := 20) dX9_init_118 ⟨by decide, by decide, by decide⟩ (Nat.le_of_ble_eq_true rfl) (Nat.le_of_ble_eq_true rfl) (fun a14 => ?_)
  refine b_putF C hin 0 (k := 14) kX9 dX9_init_120 rfl (by decide) fl_X9_55 rfl rfl rfl rfl (Nat.le_of_ble_eq_true rfl) (tl' := [(h, .inr (9, [.int 0, .ref a1, .ref a2, .ref a3, .ref a4, .ref a5, .ref a6, .ref a7, .ref a8, .ref a9, .ref a10, .ref a11, .ref a12, .ref a13, .ref a14])), (a1, .inl (gA (xG X), 40, .inl fun _ => 0)), (a2, .inl (gA (xG X), 40, .inl fun _ => 0)), (a3, .inl (gA (xG X), 40, .inl fun _ => 0)), (a4, .inl (gA (xG X), 40, .inl fun _ => 0)), (a5, .inl (gA (xG X), 40, .inl fun _ => 0)), (a6, .inl (gA (xG X), 40, .inl fun _ => 0)), (a7, .inl (gA (xG X), 40, .inl fun _ => 0)), (a8, .inl (gA (xG X), 40, .inl fun _ => 0)), (a9, .inl (gA (xG X), 40, .inl fun _ => 0)), (a10, .inl (gA (xG X), 40, .inl fun _ => 0)), (a11, .inl (gA (xG X), 40, .inl fun _ => 0)), (a12, .inl (gA (xG X), 320, .inl fun _ => 0)), (a13, .inl (gA (xG X), 320, .inl fun _ => 0)), (a14, .inl (gA (xG X), 20, .inl fun _ => 0))]) rfl ?_
  subst hG
  exact b_ret C rfl hR hq (fun i => [a1, a2, a3, a4, a5, a6, a7, a8, a9, a10, a11, a12, a13, a14].getD i 0) rfl dX9_init_123
set_option maxRecDepth 100000 in
set_option maxHeartbeats 4000000 in
theorem cc_X7_init (l : Launch) (G : Gx) : Cc l G yX7_init (wsM yX7_init cX7_init 1 none) rmX7_init 7 [.int 0, .null, .null, .null, .int 0, .null, .null, .null] (psX7 G) := by
  refine cc_of RX7 (by decide +kernel) rfl (Nat.le_of_ble_eq_true rfl) rfl ?_
  intro X wr h C hin hl hG hN hR hq
  have hRo : 1 ≤ (xR X).frames ∧ 20 ≤ (xR X).locals := by rw [hR]; exact ⟨Nat.le_of_ble_eq_true rfl, Nat.le_of_ble_eq_true rfl⟩
  have hRm : ∀ {rm : Room} {ny : Nat}, RmOk rmX7_init rm ny → RmOk (xR X) rm ny := fun h => by rw [hR]; exact h
  show Bd X 6 120 0 [(0, .ref h)] [] wr [(h, .inr (7, [.int 0, .null, .null, .null, .int 0, .null, .null, .null]))]
  refine b_aload C dX7_init_0 rfl (q := 0) rfl ?_
  refine b_obj C hRo dX7_init_1 ml_X7_3 oi_im oi_cd ?_
  refine b_aload C dX7_init_4 rfl (q := 0) rfl ?_
  refine b_iconst C dX7_init_5 (v := 0) rfl ?_
  refine b_put C 0 (k := 0) kX7 dX7_init_6 rfl (by decide) fl_X7_9 rfl rfl rfl (Nat.le_of_ble_eq_true rfl) (tl' := [(h, .inr (7, [.int 0, .null, .null, .null, .int 0, .null, .null, .null]))]) rfl ?_
  refine b_aload C dX7_init_9 rfl (q := 0) rfl ?_
  refine b_bipush C dX7_init_10 (v := 20) (by decide) ?_
  refine b_newa (kc' := 5) (ks' := 100) C (n := 20) dX7_init_12 ⟨by decide, by decide, by decide⟩ (Nat.le_of_ble_eq_true rfl) (Nat.le_of_ble_eq_true rfl) (fun a1 => ?_)
  refine b_putF C hin 0 (k := 1) kX7 dX7_init_14 rfl (by decide) fl_X7_15 rfl rfl rfl rfl (Nat.le_of_ble_eq_true rfl) (tl' := [(h, .inr (7, [.int 0, .ref a1, .null, .null, .int 0, .null, .null, .null])), (a1, .inl (gA (xG X), 20, .inl fun _ => 0))]) rfl ?_
  refine b_aload C dX7_init_17 rfl (q := 0) rfl ?_
  refine b_bipush C dX7_init_18 (v := 20) (by decide) ?_
  refine b_newa (kc' := 4) (ks' := 80) C (n := 20) dX7_init_20 ⟨by decide, by decide, by decide⟩ (Nat.le_of_ble_eq_true rfl) (Nat.le_of_ble_eq_true rfl) (fun a2 => ?_)
  refine b_putF C hin 0 (k := 2) kX7 dX7_init_22 rfl (by decide) fl_X7_19 rfl rfl rfl rfl (Nat.le_of_ble_eq_true rfl) (tl' := [(h, .inr (7, [.int 0, .ref a1, .ref a2, .null, .int 0, .null, .null, .null])), (a1, .inl (gA (xG X), 20, .inl fun _ => 0)), (a2, .inl (gA (xG X), 20, .inl fun _ => 0))]) rfl ?_
  refine b_aload C dX7_init_25 rfl (q := 0) rfl ?_
  refine b_bipush C dX7_init_26 (v := 20) (by decide) ?_
  refine b_newa (kc' := 3) (ks' := 60) C (n := 20) dX7_init_28 ⟨by decide, by decide, by decide⟩ (Nat.le_of_ble_eq_true rfl) (Nat.le_of_ble_eq_true rfl) (fun a3 => ?_)
  refine b_putF C hin 0 (k := 3) kX7 dX7_init_30 rfl (by decide) fl_X7_22 rfl rfl rfl rfl (Nat.le_of_ble_eq_true rfl) (tl' := [(h, .inr (7, [.int 0, .ref a1, .ref a2, .ref a3, .int 0, .null, .null, .null])), (a1, .inl (gA (xG X), 20, .inl fun _ => 0)), (a2, .inl (gA (xG X), 20, .inl fun _ => 0)), (a3, .inl (gA (xG X), 20, .inl fun _ => 0))]) rfl ?_
  refine b_aload C dX7_init_33 rfl (q := 0) rfl ?_
  refine b_iconst C dX7_init_34 (v := 0) rfl ?_
  refine b_put C 0 (k := 4) kX7 dX7_init_35 rfl (by decide) fl_X7_25 rfl rfl rfl (Nat.le_of_ble_eq_true rfl) (tl' := [(h, .inr (7, [.int 0, .ref a1, .ref a2, .ref a3, .int 0, .null, .null, .null])), (a1, .inl (gA (xG X), 20, .inl fun _ => 0)), (a2, .inl (gA (xG X), 20, .inl fun _ => 0)), (a3, .inl (gA (xG X), 20, .inl fun _ => 0))]) rfl ?_
  refine b_aload C dX7_init_38 rfl (q := 0) rfl ?_
  refine b_bipush C dX7_init_39 (v := 20) (by decide) ?_
  refine b_newa (kc' := 2) (ks' := 40) C (n := 20) dX7_init_41 ⟨by decide, by decide, by decide⟩ (Nat.le_of_ble_eq_true rfl) (Nat.le_of_ble_eq_true rfl) (fun a4 => ?_)
  refine b_putF C hin 0 (k := 5) kX7 dX7_init_43 rfl (by decide) fl_X7_28 rfl rfl rfl rfl (Nat.le_of_ble_eq_true rfl) (tl' := [(h, .inr (7, [.int 0, .ref a1, .ref a2, .ref a3, .int 0, .ref a4, .null, .null])), (a1, .inl (gA (xG X), 20, .inl fun _ => 0)), (a2, .inl (gA (xG X), 20, .inl fun _ => 0)), (a3, .inl (gA (xG X), 20, .inl fun _ => 0)), (a4, .inl (gA (xG X), 20, .inl fun _ => 0))]) rfl ?_
  refine b_aload C dX7_init_46 rfl (q := 0) rfl ?_
  refine b_bipush C dX7_init_47 (v := 20) (by decide) ?_
  refine b_newa (kc' := 1) (ks' := 20) C (n := 20) dX7_init_49 ⟨by decide, by decide, by decide⟩ (Nat.le_of_ble_eq_true rfl) (Nat.le_of_ble_eq_true rfl) (fun a5 => ?_)
  refine b_putF C hin 0 (k := 6) kX7 dX7_init_51 rfl (by decide) fl_X7_31 rfl rfl rfl rfl (Nat.le_of_ble_eq_true rfl) (tl' := [(h, .inr (7, [.int 0, .ref a1, .ref a2, .ref a3, .int 0, .ref a4, .ref a5, .null])), (a1, .inl (gA (xG X), 20, .inl fun _ => 0)), (a2, .inl (gA (xG X), 20, .inl fun _ => 0)), (a3, .inl (gA (xG X), 20, .inl fun _ => 0)), (a4, .inl (gA (xG X), 20, .inl fun _ => 0)), (a5, .inl (gA (xG X), 20, .inl fun _ => 0))]) rfl ?_
  refine b_aload C dX7_init_54 rfl (q := 0) rfl ?_
  refine b_bipush C dX7_init_55 (v := 20) (by decide) ?_
  refine b_newa (kc' := 0) (ks' := 0) C (n := 20) dX7_init_57 ⟨by decide, by decide, by decide⟩ (Nat.le_of_ble_eq_true rfl) (Nat.le_of_ble_eq_true rfl) (fun a6 => ?_)
  refine b_putF C hin 0 (k := 7) kX7 dX7_init_59 rfl (by decide) fl_X7_34 rfl rfl rfl rfl (Nat.le_of_ble_eq_true rfl) (tl' := [(h, .inr (7, [.int 0, .ref a1, .ref a2, .ref a3, .int 0, .ref a4, .ref a5, .ref a6])), (a1, .inl (gA (xG X), 20, .inl fun _ => 0)), (a2, .inl (gA (xG X), 20, .inl fun _ => 0)), (a3, .inl (gA (xG X), 20, .inl fun _ => 0)), (a4, .inl (gA (xG X), 20, .inl fun _ => 0)), (a5, .inl (gA (xG X), 20, .inl fun _ => 0)), (a6, .inl (gA (xG X), 20, .inl fun _ => 0))]) rfl ?_
  subst hG
  exact b_ret C rfl hR hq (fun i => [a1, a2, a3, a4, a5, a6].getD i 0) rfl dX7_init_62
set_option maxRecDepth 100000 in
set_option maxHeartbeats 4000000 in
theorem cc_X4_init (l : Launch) (G : Gx) : Cc l G yX4_init (wsM yX4_init cX4_init 1 none) rmX4_init 4 [.int 0, .null, .null, .null, .null, .null, .null, .null, .null, .null] (psX4 G) := by
  refine cc_of RX4 (by decide +kernel) rfl (Nat.le_of_ble_eq_true rfl) rfl ?_
  intro X wr h C hin hl hG hN hR hq
  have hRo : 1 ≤ (xR X).frames ∧ 20 ≤ (xR X).locals := by rw [hR]; exact ⟨Nat.le_of_ble_eq_true rfl, Nat.le_of_ble_eq_true rfl⟩
  have hRm : ∀ {rm : Room} {ny : Nat}, RmOk rmX4_init rm ny → RmOk (xR X) rm ny := fun h => by rw [hR]; exact h
  show Bd X 9 1324 0 [(0, .ref h)] [] wr [(h, .inr (4, [.int 0, .null, .null, .null, .null, .null, .null, .null, .null, .null]))]
  refine b_aload C dX4_init_0 rfl (q := 0) rfl ?_
  refine b_obj C hRo dX4_init_1 ml_X4_3 oi_im oi_cd ?_
  refine b_aload C dX4_init_4 rfl (q := 0) rfl ?_
  refine b_iconst C dX4_init_5 (v := 0) rfl ?_
  refine b_put C 0 (k := 0) kX4 dX4_init_6 rfl (by decide) fl_X4_9 rfl rfl rfl (Nat.le_of_ble_eq_true rfl) (tl' := [(h, .inr (4, [.int 0, .null, .null, .null, .null, .null, .null, .null, .null, .null]))]) rfl ?_
  refine b_aload C dX4_init_9 rfl (q := 0) rfl ?_
  refine b_bipush C dX4_init_10 (v := 12) (by decide) ?_
  refine b_newa (kc' := 8) (ks' := 1312) C (n := 12) dX4_init_12 ⟨by decide, by decide, by decide⟩ (Nat.le_of_ble_eq_true rfl) (Nat.le_of_ble_eq_true rfl) (fun a1 => ?_)
  refine b_putF C hin 0 (k := 1) kX4 dX4_init_14 rfl (by decide) fl_X4_15 rfl rfl rfl rfl (Nat.le_of_ble_eq_true rfl) (tl' := [(h, .inr (4, [.int 0, .ref a1, .null, .null, .null, .null, .null, .null, .null, .null])), (a1, .inl (gA (xG X), 12, .inl fun _ => 0))]) rfl ?_
  refine b_aload C dX4_init_17 rfl (q := 0) rfl ?_
  refine b_bipush C dX4_init_18 (v := 12) (by decide) ?_
  refine b_newa (kc' := 7) (ks' := 1300) C (n := 12) dX4_init_20 ⟨by decide, by decide, by decide⟩ (Nat.le_of_ble_eq_true rfl) (Nat.le_of_ble_eq_true rfl) (fun a2 => ?_)
  refine b_putF C hin 0 (k := 2) kX4 dX4_init_22 rfl (by decide) fl_X4_19 rfl rfl rfl rfl (Nat.le_of_ble_eq_true rfl) (tl' := [(h, .inr (4, [.int 0, .ref a1, .ref a2, .null, .null, .null, .null, .null, .null, .null])), (a1, .inl (gA (xG X), 12, .inl fun _ => 0)), (a2, .inl (gA (xG X), 12, .inl fun _ => 0))]) rfl ?_
  refine b_aload C dX4_init_25 rfl (q := 0) rfl ?_
  refine b_bipush C dX4_init_26 (v := 12) (by decide) ?_
  refine b_newa (kc' := 6) (ks' := 1288) C (n := 12) dX4_init_28 ⟨by decide, by decide, by decide⟩ (Nat.le_of_ble_eq_true rfl) (Nat.le_of_ble_eq_true rfl) (fun a3 => ?_)
  refine b_putF C hin 0 (k := 3) kX4 dX4_init_30 rfl (by decide) fl_X4_22 rfl rfl rfl rfl (Nat.le_of_ble_eq_true rfl) (tl' := [(h, .inr (4, [.int 0, .ref a1, .ref a2, .ref a3, .null, .null, .null, .null, .null, .null])), (a1, .inl (gA (xG X), 12, .inl fun _ => 0)), (a2, .inl (gA (xG X), 12, .inl fun _ => 0)), (a3, .inl (gA (xG X), 12, .inl fun _ => 0))]) rfl ?_
  refine b_aload C dX4_init_33 rfl (q := 0) rfl ?_
  refine b_bipush C dX4_init_34 (v := 12) (by decide) ?_
  refine b_newa (kc' := 5) (ks' := 1276) C (n := 12) dX4_init_36 ⟨by decide, by decide, by decide⟩ (Nat.le_of_ble_eq_true rfl) (Nat.le_of_ble_eq_true rfl) (fun a4 => ?_)
  refine b_putF C hin 0 (k := 4) kX4 dX4_init_38 rfl (by decide) fl_X4_25 rfl rfl rfl rfl (Nat.le_of_ble_eq_true rfl) (tl' := [(h, .inr (4, [.int 0, .ref a1, .ref a2, .ref a3, .ref a4, .null, .null, .null, .null, .null])), (a1, .inl (gA (xG X), 12, .inl fun _ => 0)), (a2, .inl (gA (xG X), 12, .inl fun _ => 0)), (a3, .inl (gA (xG X), 12, .inl fun _ => 0)), (a4, .inl (gA (xG X), 12, .inl fun _ => 0))]) rfl ?_
  refine b_aload C dX4_init_41 rfl (q := 0) rfl ?_
  refine b_bipush C dX4_init_42 (v := 12) (by decide) ?_
  refine b_newa (kc' := 4) (ks' := 1264) C (n := 12) dX4_init_44 ⟨by decide, by decide, by decide⟩ (Nat.le_of_ble_eq_true rfl) (Nat.le_of_ble_eq_true rfl) (fun a5 => ?_)
  refine b_putF C hin 0 (k := 5) kX4 dX4_init_46 rfl (by decide) fl_X4_28 rfl rfl rfl rfl (Nat.le_of_ble_eq_true rfl) (tl' := [(h, .inr (4, [.int 0, .ref a1, .ref a2, .ref a3, .ref a4, .ref a5, .null, .null, .null, .null])), (a1, .inl (gA (xG X), 12, .inl fun _ => 0)), (a2, .inl (gA (xG X), 12, .inl fun _ => 0)), (a3, .inl (gA (xG X), 12, .inl fun _ => 0)), (a4, .inl (gA (xG X), 12, .inl fun _ => 0)), (a5, .inl (gA (xG X), 12, .inl fun _ => 0))]) rfl ?_
  refine b_aload C dX4_init_49 rfl (q := 0) rfl ?_
  refine b_bipush C dX4_init_50 (v := 12) (by decide) ?_
  refine b_newa (kc' := 3) (ks' := 1252) C (n := 12) dX4_init_52 ⟨by decide, by decide, by decide⟩ (Nat.le_of_ble_eq_true rfl) (Nat.le_of_ble_eq_true rfl) (fun a6 => ?_)
  refine b_putF C hin 0 (k := 6) kX4 dX4_init_54 rfl (by decide) fl_X4_31 rfl rfl rfl rfl (Nat.le_of_ble_eq_true rfl) (tl' := [(h, .inr (4, [.int 0, .ref a1, .ref a2, .ref a3, .ref a4, .ref a5, .ref a6, .null, .null, .null])), (a1, .inl (gA (xG X), 12, .inl fun _ => 0)), (a2, .inl (gA (xG X), 12, .inl fun _ => 0)), (a3, .inl (gA (xG X), 12, .inl fun _ => 0)), (a4, .inl (gA (xG X), 12, .inl fun _ => 0)), (a5, .inl (gA (xG X), 12, .inl fun _ => 0)), (a6, .inl (gA (xG X), 12, .inl fun _ => 0))]) rfl ?_
  refine b_aload C dX4_init_57 rfl (q := 0) rfl ?_
  refine b_sipush C dX4_init_58 (v := 1152) (by decide) ?_
  refine b_newa (kc' := 2) (ks' := 100) C (n := 1152) dX4_init_61 ⟨by decide, by decide, by decide⟩ (Nat.le_of_ble_eq_true rfl) (Nat.le_of_ble_eq_true rfl) (fun a7 => ?_)
  refine b_putF C hin 0 (k := 7) kX4 dX4_init_63 rfl (by decide) fl_X4_34 rfl rfl rfl rfl (Nat.le_of_ble_eq_true rfl) (tl' := [(h, .inr (4, [.int 0, .ref a1, .ref a2, .ref a3, .ref a4, .ref a5, .ref a6, .ref a7, .null, .null])), (a1, .inl (gA (xG X), 12, .inl fun _ => 0)), (a2, .inl (gA (xG X), 12, .inl fun _ => 0)), (a3, .inl (gA (xG X), 12, .inl fun _ => 0)), (a4, .inl (gA (xG X), 12, .inl fun _ => 0)), (a5, .inl (gA (xG X), 12, .inl fun _ => 0)), (a6, .inl (gA (xG X), 12, .inl fun _ => 0)), (a7, .inl (gA (xG X), 1152, .inl fun _ => 0))]) rfl ?_
  refine b_aload C dX4_init_66 rfl (q := 0) rfl ?_
  refine b_iconst C dX4_init_67 (v := 4) rfl ?_
  refine b_newa (kc' := 1) (ks' := 96) C (n := 4) dX4_init_68 ⟨by decide, by decide, by decide⟩ (Nat.le_of_ble_eq_true rfl) (Nat.le_of_ble_eq_true rfl) (fun a8 => ?_)
  refine b_putF C hin 0 (k := 8) kX4 dX4_init_70 rfl (by decide) fl_X4_37 rfl rfl rfl rfl (Nat.le_of_ble_eq_true rfl) (tl' := [(h, .inr (4, [.int 0, .ref a1, .ref a2, .ref a3, .ref a4, .ref a5, .ref a6, .ref a7, .ref a8, .null])), (a1, .inl (gA (xG X), 12, .inl fun _ => 0)), (a2, .inl (gA (xG X), 12, .inl fun _ => 0)), (a3, .inl (gA (xG X), 12, .inl fun _ => 0)), (a4, .inl (gA (xG X), 12, .inl fun _ => 0)), (a5, .inl (gA (xG X), 12, .inl fun _ => 0)), (a6, .inl (gA (xG X), 12, .inl fun _ => 0)), (a7, .inl (gA (xG X), 1152, .inl fun _ => 0)), (a8, .inl (gA (xG X), 4, .inl fun _ => 0))]) rfl ?_
  refine b_aload C dX4_init_73 rfl (q := 0) rfl ?_
  refine b_bipush C dX4_init_74 (v := 96) (by decide) ?_
  refine b_newa (kc' := 0) (ks' := 0) C (n := 96) dX4_init_76 ⟨by decide, by decide, by decide⟩ (Nat.le_of_ble_eq_true rfl) (Nat.le_of_ble_eq_true rfl) (fun a9 => ?_)
  refine b_putF C hin 0 (k := 9) kX4 dX4_init_78 rfl (by decide) fl_X4_40 rfl rfl rfl rfl (Nat.le_of_ble_eq_true rfl) (tl' := [(h, .inr (4, [.int 0, .ref a1, .ref a2, .ref a3, .ref a4, .ref a5, .ref a6, .ref a7, .ref a8, .ref a9])), (a1, .inl (gA (xG X), 12, .inl fun _ => 0)), (a2, .inl (gA (xG X), 12, .inl fun _ => 0)), (a3, .inl (gA (xG X), 12, .inl fun _ => 0)), (a4, .inl (gA (xG X), 12, .inl fun _ => 0)), (a5, .inl (gA (xG X), 12, .inl fun _ => 0)), (a6, .inl (gA (xG X), 12, .inl fun _ => 0)), (a7, .inl (gA (xG X), 1152, .inl fun _ => 0)), (a8, .inl (gA (xG X), 4, .inl fun _ => 0)), (a9, .inl (gA (xG X), 96, .inl fun _ => 0))]) rfl ?_
  subst hG
  exact b_ret C rfl hR hq (fun i => [a1, a2, a3, a4, a5, a6, a7, a8, a9].getD i 0) rfl dX4_init_81
set_option maxRecDepth 100000 in
set_option maxHeartbeats 4000000 in
theorem cc_X3_init (l : Launch) (G : Gx) : Cc l G yX3_init (wsM yX3_init cX3_init 1 none) rmX3_init 3 [.null, .null, .null, .null, .null, .int 0, .null] (psX3 G) := by
  refine cc_of RX3 (by decide +kernel) rfl (Nat.le_of_ble_eq_true rfl) rfl ?_
  intro X wr h C hin hl hG hN hR hq
  have hRo : 1 ≤ (xR X).frames ∧ 20 ≤ (xR X).locals := by rw [hR]; exact ⟨Nat.le_of_ble_eq_true rfl, Nat.le_of_ble_eq_true rfl⟩
  have hRm : ∀ {rm : Room} {ny : Nat}, RmOk rmX3_init rm ny → RmOk (xR X) rm ny := fun h => by rw [hR]; exact h
  show Bd X 6 56 0 [(0, .ref h)] [] wr [(h, .inr (3, [.null, .null, .null, .null, .null, .int 0, .null]))]
  refine b_aload C dX3_init_0 rfl (q := 0) rfl ?_
  refine b_obj C hRo dX3_init_1 ml_X3_3 oi_im oi_cd ?_
  refine b_aload C dX3_init_4 rfl (q := 0) rfl ?_
  refine b_iconst C dX3_init_5 (v := 2) rfl ?_
  refine b_newa (kc' := 5) (ks' := 54) C (n := 2) dX3_init_6 ⟨by decide, by decide, by decide⟩ (Nat.le_of_ble_eq_true rfl) (Nat.le_of_ble_eq_true rfl) (fun a1 => ?_)
  refine b_putF C hin 0 (k := 0) kX3 dX3_init_8 rfl (by decide) fl_X3_9 rfl rfl rfl rfl (Nat.le_of_ble_eq_true rfl) (tl' := [(h, .inr (3, [.ref a1, .null, .null, .null, .null, .int 0, .null])), (a1, .inl (gA (xG X), 2, .inl fun _ => 0))]) rfl ?_
  refine b_aload C dX3_init_11 rfl (q := 0) rfl ?_
  refine b_bipush C dX3_init_12 (v := 20) (by decide) ?_
  refine b_newa (kc' := 4) (ks' := 34) C (n := 20) dX3_init_14 ⟨by decide, by decide, by decide⟩ (Nat.le_of_ble_eq_true rfl) (Nat.le_of_ble_eq_true rfl) (fun a2 => ?_)
  refine b_putF C hin 0 (k := 1) kX3 dX3_init_16 rfl (by decide) fl_X3_15 rfl rfl rfl rfl (Nat.le_of_ble_eq_true rfl) (tl' := [(h, .inr (3, [.ref a1, .ref a2, .null, .null, .null, .int 0, .null])), (a1, .inl (gA (xG X), 2, .inl fun _ => 0)), (a2, .inl (gA (xG X), 20, .inl fun _ => 0))]) rfl ?_
  refine b_aload C dX3_init_19 rfl (q := 0) rfl ?_
  refine b_bipush C dX3_init_20 (v := 20) (by decide) ?_
  refine b_newa (kc' := 3) (ks' := 14) C (n := 20) dX3_init_22 ⟨by decide, by decide, by decide⟩ (Nat.le_of_ble_eq_true rfl) (Nat.le_of_ble_eq_true rfl) (fun a3 => ?_)
  refine b_putF C hin 0 (k := 2) kX3 dX3_init_24 rfl (by decide) fl_X3_18 rfl rfl rfl rfl (Nat.le_of_ble_eq_true rfl) (tl' := [(h, .inr (3, [.ref a1, .ref a2, .ref a3, .null, .null, .int 0, .null])), (a1, .inl (gA (xG X), 2, .inl fun _ => 0)), (a2, .inl (gA (xG X), 20, .inl fun _ => 0)), (a3, .inl (gA (xG X), 20, .inl fun _ => 0))]) rfl ?_
  refine b_aload C dX3_init_27 rfl (q := 0) rfl ?_
  refine b_iconst C dX3_init_28 (v := 3) rfl ?_
  refine b_newa (kc' := 2) (ks' := 11) C (n := 3) dX3_init_29 ⟨by decide, by decide, by decide⟩ (Nat.le_of_ble_eq_true rfl) (Nat.le_of_ble_eq_true rfl) (fun a4 => ?_)
  refine b_putF C hin 0 (k := 3) kX3 dX3_init_31 rfl (by decide) fl_X3_21 rfl rfl rfl rfl (Nat.le_of_ble_eq_true rfl) (tl' := [(h, .inr (3, [.ref a1, .ref a2, .ref a3, .ref a4, .null, .int 0, .null])), (a1, .inl (gA (xG X), 2, .inl fun _ => 0)), (a2, .inl (gA (xG X), 20, .inl fun _ => 0)), (a3, .inl (gA (xG X), 20, .inl fun _ => 0)), (a4, .inl (gA (xG X), 3, .inl fun _ => 0))]) rfl ?_
  refine b_aload C dX3_init_34 rfl (q := 0) rfl ?_
  refine b_bipush C dX3_init_35 (v := 10) (by decide) ?_
  refine b_newa (kc' := 1) (ks' := 1) C (n := 10) dX3_init_37 ⟨by decide, by decide, by decide⟩ (Nat.le_of_ble_eq_true rfl) (Nat.le_of_ble_eq_true rfl) (fun a5 => ?_)
  refine b_putF C hin 0 (k := 4) kX3 dX3_init_39 rfl (by decide) fl_X3_24 rfl rfl rfl rfl (Nat.le_of_ble_eq_true rfl) (tl' := [(h, .inr (3, [.ref a1, .ref a2, .ref a3, .ref a4, .ref a5, .int 0, .null])), (a1, .inl (gA (xG X), 2, .inl fun _ => 0)), (a2, .inl (gA (xG X), 20, .inl fun _ => 0)), (a3, .inl (gA (xG X), 20, .inl fun _ => 0)), (a4, .inl (gA (xG X), 3, .inl fun _ => 0)), (a5, .inl (gA (xG X), 10, .inl fun _ => 0))]) rfl ?_
  refine b_aload C dX3_init_42 rfl (q := 0) rfl ?_
  refine b_iconst C dX3_init_43 (v := 0) rfl ?_
  refine b_put C 0 (k := 5) kX3 dX3_init_44 rfl (by decide) fl_X3_27 rfl rfl rfl (Nat.le_of_ble_eq_true rfl) (tl' := [(h, .inr (3, [.ref a1, .ref a2, .ref a3, .ref a4, .ref a5, .int 0, .null])), (a1, .inl (gA (xG X), 2, .inl fun _ => 0)), (a2, .inl (gA (xG X), 20, .inl fun _ => 0)), (a3, .inl (gA (xG X), 20, .inl fun _ => 0)), (a4, .inl (gA (xG X), 3, .inl fun _ => 0)), (a5, .inl (gA (xG X), 10, .inl fun _ => 0))]) rfl ?_
  refine b_aload C dX3_init_47 rfl (q := 0) rfl ?_
  refine b_iconst C dX3_init_48 (v := 1) rfl ?_
  refine b_newa (kc' := 0) (ks' := 0) C (n := 1) dX3_init_49 ⟨by decide, by decide, by decide⟩ (Nat.le_of_ble_eq_true rfl) (Nat.le_of_ble_eq_true rfl) (fun a6 => ?_)
  refine b_put C 0 (k := 6) kX3 dX3_init_51 rfl (by decide) fl_X3_31 rfl rfl rfl (Nat.le_of_ble_eq_true rfl) (tl' := [(h, .inr (3, [.ref a1, .ref a2, .ref a3, .ref a4, .ref a5, .int 0, .ref a6])), (a1, .inl (gA (xG X), 2, .inl fun _ => 0)), (a2, .inl (gA (xG X), 20, .inl fun _ => 0)), (a3, .inl (gA (xG X), 20, .inl fun _ => 0)), (a4, .inl (gA (xG X), 3, .inl fun _ => 0)), (a5, .inl (gA (xG X), 10, .inl fun _ => 0)), (a6, .inl (gA (xG X), 1, .inl fun _ => 0))]) rfl ?_
  subst hG
  exact b_ret C rfl hR hq (fun i => [a1, a2, a3, a4, a5, a6].getD i 0) rfl dX3_init_54
set_option maxRecDepth 100000 in
set_option maxHeartbeats 4000000 in
theorem cc_X2_init (l : Launch) (G : Gx) : Cc l G yX2_init (wsM yX2_init cX2_init 1 none) rmX2_init 2 [.null, .null, .null] (psX2 G) := by
  refine cc_of RX2 (by decide +kernel) rfl (Nat.le_of_ble_eq_true rfl) rfl ?_
  intro X wr h C hin hl hG hN hR hq
  have hRo : 1 ≤ (xR X).frames ∧ 20 ≤ (xR X).locals := by rw [hR]; exact ⟨Nat.le_of_ble_eq_true rfl, Nat.le_of_ble_eq_true rfl⟩
  have hRm : ∀ {rm : Room} {ny : Nat}, RmOk rmX2_init rm ny → RmOk (xR X) rm ny := fun h => by rw [hR]; exact h
  show Bd X 3 120 0 [(0, .ref h)] [] wr [(h, .inr (2, [.null, .null, .null]))]
  refine b_aload C dX2_init_0 rfl (q := 0) rfl ?_
  refine b_obj C hRo dX2_init_1 ml_X2_3 oi_im oi_cd ?_
  refine b_aload C dX2_init_4 rfl (q := 0) rfl ?_
  refine b_bipush C dX2_init_5 (v := 104) (by decide) ?_
  refine b_newa (kc' := 2) (ks' := 16) C (n := 104) dX2_init_7 ⟨by decide, by decide, by decide⟩ (Nat.le_of_ble_eq_true rfl) (Nat.le_of_ble_eq_true rfl) (fun a1 => ?_)
  refine b_putF C hin 0 (k := 0) kX2 dX2_init_9 rfl (by decide) fl_X2_9 rfl rfl rfl rfl (Nat.le_of_ble_eq_true rfl) (tl' := [(h, .inr (2, [.ref a1, .null, .null])), (a1, .inl (gA (xG X), 104, .inl fun _ => 0))]) rfl ?_
  refine b_aload C dX2_init_12 rfl (q := 0) rfl ?_
  refine b_bipush C dX2_init_13 (v := 8) (by decide) ?_
  refine b_newa (kc' := 1) (ks' := 8) C (n := 8) dX2_init_15 ⟨by decide, by decide, by decide⟩ (Nat.le_of_ble_eq_true rfl) (Nat.le_of_ble_eq_true rfl) (fun a2 => ?_)
  refine b_putF C hin 0 (k := 1) kX2 dX2_init_17 rfl (by decide) fl_X2_15 rfl rfl rfl rfl (Nat.le_of_ble_eq_true rfl) (tl' := [(h, .inr (2, [.ref a1, .ref a2, .null])), (a1, .inl (gA (xG X), 104, .inl fun _ => 0)), (a2, .inl (gA (xG X), 8, .inl fun _ => 0))]) rfl ?_
  refine b_aload C dX2_init_20 rfl (q := 0) rfl ?_
  refine b_bipush C dX2_init_21 (v := 8) (by decide) ?_
  refine b_newa (kc' := 0) (ks' := 0) C (n := 8) dX2_init_23 ⟨by decide, by decide, by decide⟩ (Nat.le_of_ble_eq_true rfl) (Nat.le_of_ble_eq_true rfl) (fun a3 => ?_)
  refine b_putF C hin 0 (k := 2) kX2 dX2_init_25 rfl (by decide) fl_X2_18 rfl rfl rfl rfl (Nat.le_of_ble_eq_true rfl) (tl' := [(h, .inr (2, [.ref a1, .ref a2, .ref a3])), (a1, .inl (gA (xG X), 104, .inl fun _ => 0)), (a2, .inl (gA (xG X), 8, .inl fun _ => 0)), (a3, .inl (gA (xG X), 8, .inl fun _ => 0))]) rfl ?_
  subst hG
  exact b_ret C rfl hR hq (fun i => [a1, a2, a3].getD i 0) rfl dX2_init_28
set_option maxRecDepth 100000 in
set_option maxHeartbeats 4000000 in
theorem cc_X1_init (l : Launch) (G : Gx) : Cc l G yX1_init (wsM yX1_init cX1_init 1 none) rmX1_init 1 [.int 0, .null, .null, .null, .null, .int 0, .null, .int 0, .int 0, .int 0] (psX1 G) := by
  refine cc_of RX1 (by decide +kernel) rfl (Nat.le_of_ble_eq_true rfl) rfl ?_
  intro X wr h C hin hl hG hN hR hq
  have hRo : 1 ≤ (xR X).frames ∧ 20 ≤ (xR X).locals := by rw [hR]; exact ⟨Nat.le_of_ble_eq_true rfl, Nat.le_of_ble_eq_true rfl⟩
  have hRm : ∀ {rm : Room} {ny : Nat}, RmOk rmX1_init rm ny → RmOk (xR X) rm ny := fun h => by rw [hR]; exact h
  show Bd X 5 35 0 [(0, .ref h)] [] wr [(h, .inr (1, [.int 0, .null, .null, .null, .null, .int 0, .null, .int 0, .int 0, .int 0]))]
  refine b_aload C dX1_init_0 rfl (q := 0) rfl ?_
  refine b_obj C hRo dX1_init_1 ml_X1_3 oi_im oi_cd ?_
  refine b_aload C dX1_init_4 rfl (q := 0) rfl ?_
  refine b_iconst C dX1_init_5 (v := 0) rfl ?_
  refine b_put C 0 (k := 0) kX1 dX1_init_6 rfl (by decide) fl_X1_9 rfl rfl rfl (Nat.le_of_ble_eq_true rfl) (tl' := [(h, .inr (1, [.int 0, .null, .null, .null, .null, .int 0, .null, .int 0, .int 0, .int 0]))]) rfl ?_
  refine b_aload C dX1_init_9 rfl (q := 0) rfl ?_
  refine b_bipush C dX1_init_10 (v := 7) (by decide) ?_
  refine b_newa (kc' := 4) (ks' := 28) C (n := 7) dX1_init_12 ⟨by decide, by decide, by decide⟩ (Nat.le_of_ble_eq_true rfl) (Nat.le_of_ble_eq_true rfl) (fun a1 => ?_)
  refine b_putF C hin 0 (k := 1) kX1 dX1_init_14 rfl (by decide) fl_X1_15 rfl rfl rfl rfl (Nat.le_of_ble_eq_true rfl) (tl' := [(h, .inr (1, [.int 0, .ref a1, .null, .null, .null, .int 0, .null, .int 0, .int 0, .int 0])), (a1, .inl (gA (xG X), 7, .inl fun _ => 0))]) rfl ?_
  refine b_aload C dX1_init_17 rfl (q := 0) rfl ?_
  refine b_bipush C dX1_init_18 (v := 7) (by decide) ?_
  refine b_newa (kc' := 3) (ks' := 21) C (n := 7) dX1_init_20 ⟨by decide, by decide, by decide⟩ (Nat.le_of_ble_eq_true rfl) (Nat.le_of_ble_eq_true rfl) (fun a2 => ?_)
  refine b_putF C hin 0 (k := 2) kX1 dX1_init_22 rfl (by decide) fl_X1_19 rfl rfl rfl rfl (Nat.le_of_ble_eq_true rfl) (tl' := [(h, .inr (1, [.int 0, .ref a1, .ref a2, .null, .null, .int 0, .null, .int 0, .int 0, .int 0])), (a1, .inl (gA (xG X), 7, .inl fun _ => 0)), (a2, .inl (gA (xG X), 7, .inl fun _ => 0))]) rfl ?_
  refine b_aload C dX1_init_25 rfl (q := 0) rfl ?_
  refine b_bipush C dX1_init_26 (v := 7) (by decide) ?_
  refine b_newa (kc' := 2) (ks' := 14) C (n := 7) dX1_init_28 ⟨by decide, by decide, by decide⟩ (Nat.le_of_ble_eq_true rfl) (Nat.le_of_ble_eq_true rfl) (fun a3 => ?_)
  refine b_putF C hin 0 (k := 3) kX1 dX1_init_30 rfl (by decide) fl_X1_22 rfl rfl rfl rfl (Nat.le_of_ble_eq_true rfl) (tl' := [(h, .inr (1, [.int 0, .ref a1, .ref a2, .ref a3, .null, .int 0, .null, .int 0, .int 0, .int 0])), (a1, .inl (gA (xG X), 7, .inl fun _ => 0)), (a2, .inl (gA (xG X), 7, .inl fun _ => 0)), (a3, .inl (gA (xG X), 7, .inl fun _ => 0))]) rfl ?_
  refine b_aload C dX1_init_33 rfl (q := 0) rfl ?_
  refine b_bipush C dX1_init_34 (v := 7) (by decide) ?_
  refine b_newa (kc' := 1) (ks' := 7) C (n := 7) dX1_init_36 ⟨by decide, by decide, by decide⟩ (Nat.le_of_ble_eq_true rfl) (Nat.le_of_ble_eq_true rfl) (fun a4 => ?_)
  refine b_putF C hin 0 (k := 4) kX1 dX1_init_38 rfl (by decide) fl_X1_25 rfl rfl rfl rfl (Nat.le_of_ble_eq_true rfl) (tl' := [(h, .inr (1, [.int 0, .ref a1, .ref a2, .ref a3, .ref a4, .int 0, .null, .int 0, .int 0, .int 0])), (a1, .inl (gA (xG X), 7, .inl fun _ => 0)), (a2, .inl (gA (xG X), 7, .inl fun _ => 0)), (a3, .inl (gA (xG X), 7, .inl fun _ => 0)), (a4, .inl (gA (xG X), 7, .inl fun _ => 0))]) rfl ?_
  refine b_aload C dX1_init_41 rfl (q := 0) rfl ?_
  refine b_iconst C dX1_init_42 (v := 0) rfl ?_
  refine b_put C 0 (k := 5) kX1 dX1_init_43 rfl (by decide) fl_X1_28 rfl rfl rfl (Nat.le_of_ble_eq_true rfl) (tl' := [(h, .inr (1, [.int 0, .ref a1, .ref a2, .ref a3, .ref a4, .int 0, .null, .int 0, .int 0, .int 0])), (a1, .inl (gA (xG X), 7, .inl fun _ => 0)), (a2, .inl (gA (xG X), 7, .inl fun _ => 0)), (a3, .inl (gA (xG X), 7, .inl fun _ => 0)), (a4, .inl (gA (xG X), 7, .inl fun _ => 0))]) rfl ?_
  refine b_aload C dX1_init_46 rfl (q := 0) rfl ?_
  refine b_bipush C dX1_init_47 (v := 7) (by decide) ?_
  refine b_newa (kc' := 0) (ks' := 0) C (n := 7) dX1_init_49 ⟨by decide, by decide, by decide⟩ (Nat.le_of_ble_eq_true rfl) (Nat.le_of_ble_eq_true rfl) (fun a5 => ?_)
  refine b_putF C hin 0 (k := 6) kX1 dX1_init_51 rfl (by decide) fl_X1_31 rfl rfl rfl rfl (Nat.le_of_ble_eq_true rfl) (tl' := [(h, .inr (1, [.int 0, .ref a1, .ref a2, .ref a3, .ref a4, .int 0, .ref a5, .int 0, .int 0, .int 0])), (a1, .inl (gA (xG X), 7, .inl fun _ => 0)), (a2, .inl (gA (xG X), 7, .inl fun _ => 0)), (a3, .inl (gA (xG X), 7, .inl fun _ => 0)), (a4, .inl (gA (xG X), 7, .inl fun _ => 0)), (a5, .inl (gA (xG X), 7, .inl fun _ => 0))]) rfl ?_
  refine b_aload C dX1_init_54 rfl (q := 0) rfl ?_
  refine b_iconst C dX1_init_55 (v := 0) rfl ?_
  refine b_put C 0 (k := 7) kX1 dX1_init_56 rfl (by decide) fl_X1_34 rfl rfl rfl (Nat.le_of_ble_eq_true rfl) (tl' := [(h, .inr (1, [.int 0, .ref a1, .ref a2, .ref a3, .ref a4, .int 0, .ref a5, .int 0, .int 0, .int 0])), (a1, .inl (gA (xG X), 7, .inl fun _ => 0)), (a2, .inl (gA (xG X), 7, .inl fun _ => 0)), (a3, .inl (gA (xG X), 7, .inl fun _ => 0)), (a4, .inl (gA (xG X), 7, .inl fun _ => 0)), (a5, .inl (gA (xG X), 7, .inl fun _ => 0))]) rfl ?_
  refine b_aload C dX1_init_59 rfl (q := 0) rfl ?_
  refine b_iconst C dX1_init_60 (v := 0) rfl ?_
  refine b_put C 0 (k := 8) kX1 dX1_init_61 rfl (by decide) fl_X1_37 rfl rfl rfl (Nat.le_of_ble_eq_true rfl) (tl' := [(h, .inr (1, [.int 0, .ref a1, .ref a2, .ref a3, .ref a4, .int 0, .ref a5, .int 0, .int 0, .int 0])), (a1, .inl (gA (xG X), 7, .inl fun _ => 0)), (a2, .inl (gA (xG X), 7, .inl fun _ => 0)), (a3, .inl (gA (xG X), 7, .inl fun _ => 0)), (a4, .inl (gA (xG X), 7, .inl fun _ => 0)), (a5, .inl (gA (xG X), 7, .inl fun _ => 0))]) rfl ?_
  refine b_aload C dX1_init_64 rfl (q := 0) rfl ?_
  refine b_iconst C dX1_init_65 (v := 0) rfl ?_
  refine b_put C 0 (k := 9) kX1 dX1_init_66 rfl (by decide) fl_X1_40 rfl rfl rfl (Nat.le_of_ble_eq_true rfl) (tl' := [(h, .inr (1, [.int 0, .ref a1, .ref a2, .ref a3, .ref a4, .int 0, .ref a5, .int 0, .int 0, .int 0])), (a1, .inl (gA (xG X), 7, .inl fun _ => 0)), (a2, .inl (gA (xG X), 7, .inl fun _ => 0)), (a3, .inl (gA (xG X), 7, .inl fun _ => 0)), (a4, .inl (gA (xG X), 7, .inl fun _ => 0)), (a5, .inl (gA (xG X), 7, .inl fun _ => 0))]) rfl ?_
  subst hG
  exact b_ret C rfl hR hq (fun i => [a1, a2, a3, a4, a5].getD i 0) rfl dX1_init_69
set_option maxRecDepth 100000 in
set_option maxHeartbeats 4000000 in
theorem cc_X0_init (l : Launch) (G : Gx) : Cc l G yX0_init (wsM yX0_init cX0_init 1 none) rmX0_init 0 [.int 0, .int 0, .null, .null, .null, .null, .null, .null, .null, .null, .null, .null, .null, .null] (psX0 G) := by
  refine cc_of RX0 (by decide +kernel) rfl (Nat.le_of_ble_eq_true rfl) rfl ?_
  intro X wr h C hin hl hG hN hR hq
  have hRo : 1 ≤ (xR X).frames ∧ 20 ≤ (xR X).locals := by rw [hR]; exact ⟨Nat.le_of_ble_eq_true rfl, Nat.le_of_ble_eq_true rfl⟩
  have hRm : ∀ {rm : Room} {ny : Nat}, RmOk rmX0_init rm ny → RmOk (xR X) rm ny := fun h => by rw [hR]; exact h
  show Bd X 63 3013 0 [(0, .ref h)] [] wr [(h, .inr (0, [.int 0, .int 0, .null, .null, .null, .null, .null, .null, .null, .null, .null, .null, .null, .null]))]
  refine b_aload C dX0_init_0 rfl (q := 0) rfl ?_
  refine b_obj C hRo dX0_init_1 ml_X0_3 oi_im oi_cd ?_
  refine b_aload C dX0_init_4 rfl (q := 0) rfl ?_
  refine b_iconst C dX0_init_5 (v := 0) rfl ?_
  refine b_put C 0 (k := 0) kX0 dX0_init_6 rfl (by decide) fl_X0_9 rfl rfl rfl (Nat.le_of_ble_eq_true rfl) (tl' := [(h, .inr (0, [.int 0, .int 0, .null, .null, .null, .null, .null, .null, .null, .null, .null, .null, .null, .null]))]) rfl ?_
  refine b_aload C dX0_init_9 rfl (q := 0) rfl ?_
  refine b_iconst C dX0_init_10 (v := 0) rfl ?_
  refine b_put C 0 (k := 1) kX0 dX0_init_11 rfl (by decide) fl_X0_15 rfl rfl rfl (Nat.le_of_ble_eq_true rfl) (tl' := [(h, .inr (0, [.int 0, .int 0, .null, .null, .null, .null, .null, .null, .null, .null, .null, .null, .null, .null]))]) rfl ?_
  refine b_aload C dX0_init_14 rfl (q := 0) rfl ?_
  refine b_bipush C dX0_init_15 (v := 16) (by decide) ?_
  refine b_newa (kc' := 62) (ks' := 2997) C (n := 16) dX0_init_17 ⟨by decide, by decide, by decide⟩ (Nat.le_of_ble_eq_true rfl) (Nat.le_of_ble_eq_true rfl) (fun a1 => ?_)
  refine b_putF C hin 0 (k := 2) kX0 dX0_init_19 rfl (by decide) fl_X0_18 rfl rfl rfl rfl (Nat.le_of_ble_eq_true rfl) (tl' := [(h, .inr (0, [.int 0, .int 0, .ref a1, .null, .null, .null, .null, .null, .null, .null, .null, .null, .null, .null])), (a1, .inl (gA (xG X), 16, .inl fun _ => 0))]) rfl ?_
  refine b_aload C dX0_init_22 rfl (q := 0) rfl ?_
  refine b_bipush C dX0_init_23 (v := 16) (by decide) ?_
  refine b_newa (kc' := 61) (ks' := 2981) C (n := 16) dX0_init_25 ⟨by decide, by decide, by decide⟩ (Nat.le_of_ble_eq_true rfl) (Nat.le_of_ble_eq_true rfl) (fun a2 => ?_)
  refine b_putF C hin 0 (k := 3) kX0 dX0_init_27 rfl (by decide) fl_X0_22 rfl rfl rfl rfl (Nat.le_of_ble_eq_true rfl) (tl' := [(h, .inr (0, [.int 0, .int 0, .ref a1, .ref a2, .null, .null, .null, .null, .null, .null, .null, .null, .null, .null])), (a1, .inl (gA (xG X), 16, .inl fun _ => 0)), (a2, .inl (gA (xG X), 16, .inl fun _ => 0))]) rfl ?_
  refine b_aload C dX0_init_30 rfl (q := 0) rfl ?_
  refine b_bipush C dX0_init_31 (v := 16) (by decide) ?_
  refine b_newa (kc' := 60) (ks' := 2965) C (n := 16) dX0_init_33 ⟨by decide, by decide, by decide⟩ (Nat.le_of_ble_eq_true rfl) (Nat.le_of_ble_eq_true rfl) (fun a3 => ?_)
  refine b_putF C hin 0 (k := 4) kX0 dX0_init_35 rfl (by decide) fl_X0_25 rfl rfl rfl rfl (Nat.le_of_ble_eq_true rfl) (tl' := [(h, .inr (0, [.int 0, .int 0, .ref a1, .ref a2, .ref a3, .null, .null, .null, .null, .null, .null, .null, .null, .null])), (a1, .inl (gA (xG X), 16, .inl fun _ => 0)), (a2, .inl (gA (xG X), 16, .inl fun _ => 0)), (a3, .inl (gA (xG X), 16, .inl fun _ => 0))]) rfl ?_
  refine b_aload C dX0_init_38 rfl (q := 0) rfl ?_
  refine b_iconst C dX0_init_39 (v := 2) rfl ?_
  refine b_newa (kc' := 59) (ks' := 2963) C (n := 2) dX0_init_40 ⟨by decide, by decide, by decide⟩ (Nat.le_of_ble_eq_true rfl) (Nat.le_of_ble_eq_true rfl) (fun a4 => ?_)
  refine b_dup C dX0_init_42 rfl ?_
  refine b_iconst C dX0_init_43 (v := 0) rfl ?_
  refine b_ldc C dX0_init_44 kd_X0_28 ?_
  refine b_iast C 4 dX0_init_46 rfl (by unfold vp_in; decide) (tl' := [(h, .inr (0, [.int 0, .int 0, .ref a1, .ref a2, .ref a3, .null, .null, .null, .null, .null, .null, .null, .null, .null])), (a1, .inl (gA (xG X), 16, .inl fun _ => 0)), (a2, .inl (gA (xG X), 16, .inl fun _ => 0)), (a3, .inl (gA (xG X), 16, .inl fun _ => 0)), (a4, .inl (gA (xG X), 2, .inl (upd (fun _ => 0) 0 (-1000000005))))]) rfl ?_
  refine b_dup C dX0_init_47 rfl ?_
  refine b_iconst C dX0_init_48 (v := 1) rfl ?_
  refine b_ldc C dX0_init_49 kd_X0_28 ?_
  refine b_iast C 4 dX0_init_51 rfl (by unfold vp_in; decide) (tl' := [(h, .inr (0, [.int 0, .int 0, .ref a1, .ref a2, .ref a3, .null, .null, .null, .null, .null, .null, .null, .null, .null])), (a1, .inl (gA (xG X), 16, .inl fun _ => 0)), (a2, .inl (gA (xG X), 16, .inl fun _ => 0)), (a3, .inl (gA (xG X), 16, .inl fun _ => 0)), (a4, .inl (gA (xG X), 2, .inl (upd (upd (fun _ => 0) 0 (-1000000005)) 1 (-1000000005))))]) rfl ?_
  refine b_putF C hin 0 (k := 5) kX0 dX0_init_52 rfl (by decide) fl_X0_29 rfl rfl rfl rfl (Nat.le_of_ble_eq_true rfl) (tl' := [(h, .inr (0, [.int 0, .int 0, .ref a1, .ref a2, .ref a3, .ref a4, .null, .null, .null, .null, .null, .null, .null, .null])), (a1, .inl (gA (xG X), 16, .inl fun _ => 0)), (a2, .inl (gA (xG X), 16, .inl fun _ => 0)), (a3, .inl (gA (xG X), 16, .inl fun _ => 0)), (a4, .inl (gA (xG X), 2, .inl (upd (upd (fun _ => 0) 0 (-1000000005)) 1 (-1000000005))))]) rfl ?_
  refine b_aload C dX0_init_55 rfl (q := 0) rfl ?_
  refine b_iconst C dX0_init_56 (v := 2) rfl ?_
  refine b_newa (kc' := 58) (ks' := 2961) C (n := 2) dX0_init_57 ⟨by decide, by decide, by decide⟩ (Nat.le_of_ble_eq_true rfl) (Nat.le_of_ble_eq_true rfl) (fun a5 => ?_)
  refine b_dup C dX0_init_59 rfl ?_
  refine b_iconst C dX0_init_60 (v := 0) rfl ?_
  refine b_bipush C dX0_init_61 (v := 10) (by decide) ?_
  refine b_iast C 5 dX0_init_63 rfl (by unfold vp_in; decide) (tl' := [(h, .inr (0, [.int 0, .int 0, .ref a1, .ref a2, .ref a3, .ref a4, .null, .null, .null, .null, .null, .null, .null, .null])), (a1, .inl (gA (xG X), 16, .inl fun _ => 0)), (a2, .inl (gA (xG X), 16, .inl fun _ => 0)), (a3, .inl (gA (xG X), 16, .inl fun _ => 0)), (a4, .inl (gA (xG X), 2, .inl (upd (upd (fun _ => 0) 0 (-1000000005)) 1 (-1000000005)))), (a5, .inl (gA (xG X), 2, .inl (upd (fun _ => 0) 0 10)))]) rfl ?_
  refine b_dup C dX0_init_64 rfl ?_
  refine b_iconst C dX0_init_65 (v := 1) rfl ?_
  refine b_iconst C dX0_init_66 (v := 0) rfl ?_
  refine b_iast C 5 dX0_init_67 rfl (by unfold vp_in; decide) (tl' := [(h, .inr (0, [.int 0, .int 0, .ref a1, .ref a2, .ref a3, .ref a4, .null, .null, .null, .null, .null, .null, .null, .null])), (a1, .inl (gA (xG X), 16, .inl fun _ => 0)), (a2, .inl (gA (xG X), 16, .inl fun _ => 0)), (a3, .inl (gA (xG X), 16, .inl fun _ => 0)), (a4, .inl (gA (xG X), 2, .inl (upd (upd (fun _ => 0) 0 (-1000000005)) 1 (-1000000005)))), (a5, .inl (gA (xG X), 2, .inl (upd (upd (fun _ => 0) 0 10) 1 0)))]) rfl ?_
  refine b_putF C hin 0 (k := 6) kX0 dX0_init_68 rfl (by decide) fl_X0_32 rfl rfl rfl rfl (Nat.le_of_ble_eq_true rfl) (tl' := [(h, .inr (0, [.int 0, .int 0, .ref a1, .ref a2, .ref a3, .ref a4, .ref a5, .null, .null, .null, .null, .null, .null, .null])), (a1, .inl (gA (xG X), 16, .inl fun _ => 0)), (a2, .inl (gA (xG X), 16, .inl fun _ => 0)), (a3, .inl (gA (xG X), 16, .inl fun _ => 0)), (a4, .inl (gA (xG X), 2, .inl (upd (upd (fun _ => 0) 0 (-1000000005)) 1 (-1000000005)))), (a5, .inl (gA (xG X), 2, .inl (upd (upd (fun _ => 0) 0 10) 1 0)))]) rfl ?_
  refine b_aload C dX0_init_71 rfl (q := 0) rfl ?_
  refine b_new (kc' := 57) (ks' := 2950) C kX6 dX0_init_72 cl_X0_35 is_X6 in_X6 dfX6 (Nat.le_of_ble_eq_true rfl) (Nat.le_of_ble_eq_true rfl) (fun a6 => ?_)
  refine b_dup C dX0_init_75 rfl ?_
  refine b_call (kc' := 49) (ks' := 2808) C dX0_init_76 (by decide +kernel) cal_X6_init rfl im_X6_init (hRm ⟨Nat.le_of_ble_eq_true rfl, Nat.le_of_ble_eq_true rfl⟩) (Nat.le_of_ble_eq_true rfl) (cc_X6_init (xl X) (xG X)) (Nat.le_of_ble_eq_true rfl) (Nat.le_of_ble_eq_true rfl) (fun g0 => ?_)
  refine b_putF C hin 0 (k := 7) kX0 dX0_init_79 rfl (by decide) fl_X0_38 rfl rfl rfl rfl (Nat.le_of_ble_eq_true rfl) (tl' := [(h, .inr (0, [.int 0, .int 0, .ref a1, .ref a2, .ref a3, .ref a4, .ref a5, .ref a6, .null, .null, .null, .null, .null, .null])), (a1, .inl (gA (xG X), 16, .inl fun _ => 0)), (a2, .inl (gA (xG X), 16, .inl fun _ => 0)), (a3, .inl (gA (xG X), 16, .inl fun _ => 0)), (a4, .inl (gA (xG X), 2, .inl (upd (upd (fun _ => 0) 0 (-1000000005)) 1 (-1000000005)))), (a5, .inl (gA (xG X), 2, .inl (upd (upd (fun _ => 0) 0 10) 1 0)))] ++ psX6 (xG X) a6 g0) rfl ?_
  refine b_aload C dX0_init_82 rfl (q := 0) rfl ?_
  refine b_new (kc' := 48) (ks' := 2793) C kX9 dX0_init_83 cl_X0_42 is_X9 in_X9 dfX9 (Nat.le_of_ble_eq_true rfl) (Nat.le_of_ble_eq_true rfl) (fun a7 => ?_)
  refine b_dup C dX0_init_86 rfl ?_
  refine b_call (kc' := 34) (ks' := 1693) C dX0_init_87 (by decide +kernel) cal_X9_init rfl im_X9_init (hRm ⟨Nat.le_of_ble_eq_true rfl, Nat.le_of_ble_eq_true rfl⟩) (Nat.le_of_ble_eq_true rfl) (cc_X9_init (xl X) (xG X)) (Nat.le_of_ble_eq_true rfl) (Nat.le_of_ble_eq_true rfl) (fun g1 => ?_)
  refine b_putF C hin 0 (k := 8) kX0 dX0_init_90 rfl (by decide) fl_X0_45 rfl rfl rfl rfl (Nat.le_of_ble_eq_true rfl) (tl' := [(h, .inr (0, [.int 0, .int 0, .ref a1, .ref a2, .ref a3, .ref a4, .ref a5, .ref a6, .ref a7, .null, .null, .null, .null, .null])), (a1, .inl (gA (xG X), 16, .inl fun _ => 0)), (a2, .inl (gA (xG X), 16, .inl fun _ => 0)), (a3, .inl (gA (xG X), 16, .inl fun _ => 0)), (a4, .inl (gA (xG X), 2, .inl (upd (upd (fun _ => 0) 0 (-1000000005)) 1 (-1000000005)))), (a5, .inl (gA (xG X), 2, .inl (upd (upd (fun _ => 0) 0 10) 1 0)))] ++ psX6 (xG X) a6 g0 ++ psX9 (xG X) a7 g1) rfl ?_
  refine b_aload C dX0_init_93 rfl (q := 0) rfl ?_
  refine b_new (kc' := 33) (ks' := 1685) C kX7 dX0_init_94 cl_X0_49 is_X7 in_X7 dfX7 (Nat.le_of_ble_eq_true rfl) (Nat.le_of_ble_eq_true rfl) (fun a8 => ?_)
  refine b_dup C dX0_init_97 rfl ?_
  refine b_call (kc' := 27) (ks' := 1565) C dX0_init_98 (by decide +kernel) cal_X7_init rfl im_X7_init (hRm ⟨Nat.le_of_ble_eq_true rfl, Nat.le_of_ble_eq_true rfl⟩) (Nat.le_of_ble_eq_true rfl) (cc_X7_init (xl X) (xG X)) (Nat.le_of_ble_eq_true rfl) (Nat.le_of_ble_eq_true rfl) (fun g2 => ?_)
  refine b_putF C hin 0 (k := 9) kX0 dX0_init_101 rfl (by decide) fl_X0_52 rfl rfl rfl rfl (Nat.le_of_ble_eq_true rfl) (tl' := [(h, .inr (0, [.int 0, .int 0, .ref a1, .ref a2, .ref a3, .ref a4, .ref a5, .ref a6, .ref a7, .ref a8, .null, .null, .null, .null])), (a1, .inl (gA (xG X), 16, .inl fun _ => 0)), (a2, .inl (gA (xG X), 16, .inl fun _ => 0)), (a3, .inl (gA (xG X), 16, .inl fun _ => 0)), (a4, .inl (gA (xG X), 2, .inl (upd (upd (fun _ => 0) 0 (-1000000005)) 1 (-1000000005)))), (a5, .inl (gA (xG X), 2, .inl (upd (upd (fun _ => 0) 0 10) 1 0)))] ++ psX6 (xG X) a6 g0 ++ psX9 (xG X) a7 g1 ++ psX7 (xG X) a8 g2) rfl ?_
  refine b_aload C dX0_init_104 rfl (q := 0) rfl ?_
  refine b_new (kc' := 26) (ks' := 1555) C kX4 dX0_init_105 cl_X0_56 is_X4 in_X4 dfX4 (Nat.le_of_ble_eq_true rfl) (Nat.le_of_ble_eq_true rfl) (fun a9 => ?_)
  refine b_dup C dX0_init_108 rfl ?_
  refine b_call (kc' := 17) (ks' := 231) C dX0_init_109 (by decide +kernel) cal_X4_init rfl im_X4_init (hRm ⟨Nat.le_of_ble_eq_true rfl, Nat.le_of_ble_eq_true rfl⟩) (Nat.le_of_ble_eq_true rfl) (cc_X4_init (xl X) (xG X)) (Nat.le_of_ble_eq_true rfl) (Nat.le_of_ble_eq_true rfl) (fun g3 => ?_)
  refine b_putF C hin 0 (k := 10) kX0 dX0_init_112 rfl (by decide) fl_X0_59 rfl rfl rfl rfl (Nat.le_of_ble_eq_true rfl) (tl' := [(h, .inr (0, [.int 0, .int 0, .ref a1, .ref a2, .ref a3, .ref a4, .ref a5, .ref a6, .ref a7, .ref a8, .ref a9, .null, .null, .null])), (a1, .inl (gA (xG X), 16, .inl fun _ => 0)), (a2, .inl (gA (xG X), 16, .inl fun _ => 0)), (a3, .inl (gA (xG X), 16, .inl fun _ => 0)), (a4, .inl (gA (xG X), 2, .inl (upd (upd (fun _ => 0) 0 (-1000000005)) 1 (-1000000005)))), (a5, .inl (gA (xG X), 2, .inl (upd (upd (fun _ => 0) 0 10) 1 0)))] ++ psX6 (xG X) a6 g0 ++ psX9 (xG X) a7 g1 ++ psX7 (xG X) a8 g2 ++ psX4 (xG X) a9 g3) rfl ?_
  refine b_aload C dX0_init_115 rfl (q := 0) rfl ?_
  refine b_new (kc' := 16) (ks' := 224) C kX3 dX0_init_116 cl_X0_63 is_X3 in_X3 dfX3 (Nat.le_of_ble_eq_true rfl) (Nat.le_of_ble_eq_true rfl) (fun a10 => ?_)
  refine b_dup C dX0_init_119 rfl ?_
  refine b_call (kc' := 10) (ks' := 168) C dX0_init_120 (by decide +kernel) cal_X3_init rfl im_X3_init (hRm ⟨Nat.le_of_ble_eq_true rfl, Nat.le_of_ble_eq_true rfl⟩) (Nat.le_of_ble_eq_true rfl) (cc_X3_init (xl X) (xG X)) (Nat.le_of_ble_eq_true rfl) (Nat.le_of_ble_eq_true rfl) (fun g4 => ?_)
  refine b_putF C hin 0 (k := 11) kX0 dX0_init_123 rfl (by decide) fl_X0_66 rfl rfl rfl rfl (Nat.le_of_ble_eq_true rfl) (tl' := [(h, .inr (0, [.int 0, .int 0, .ref a1, .ref a2, .ref a3, .ref a4, .ref a5, .ref a6, .ref a7, .ref a8, .ref a9, .ref a10, .null, .null])), (a1, .inl (gA (xG X), 16, .inl fun _ => 0)), (a2, .inl (gA (xG X), 16, .inl fun _ => 0)), (a3, .inl (gA (xG X), 16, .inl fun _ => 0)), (a4, .inl (gA (xG X), 2, .inl (upd (upd (fun _ => 0) 0 (-1000000005)) 1 (-1000000005)))), (a5, .inl (gA (xG X), 2, .inl (upd (upd (fun _ => 0) 0 10) 1 0)))] ++ psX6 (xG X) a6 g0 ++ psX9 (xG X) a7 g1 ++ psX7 (xG X) a8 g2 ++ psX4 (xG X) a9 g3 ++ psX3 (xG X) a10 g4) rfl ?_
  refine b_aload C dX0_init_126 rfl (q := 0) rfl ?_
  refine b_new (kc' := 9) (ks' := 165) C kX2 dX0_init_127 cl_X0_70 is_X2 in_X2 dfX2 (Nat.le_of_ble_eq_true rfl) (Nat.le_of_ble_eq_true rfl) (fun a11 => ?_)
  refine b_dup C dX0_init_130 rfl ?_
  refine b_call (kc' := 6) (ks' := 45) C dX0_init_131 (by decide +kernel) cal_X2_init rfl im_X2_init (hRm ⟨Nat.le_of_ble_eq_true rfl, Nat.le_of_ble_eq_true rfl⟩) (Nat.le_of_ble_eq_true rfl) (cc_X2_init (xl X) (xG X)) (Nat.le_of_ble_eq_true rfl) (Nat.le_of_ble_eq_true rfl) (fun g5 => ?_)
  refine b_putF C hin 0 (k := 12) kX0 dX0_init_134 rfl (by decide) fl_X0_73 rfl rfl rfl rfl (Nat.le_of_ble_eq_true rfl) (tl' := [(h, .inr (0, [.int 0, .int 0, .ref a1, .ref a2, .ref a3, .ref a4, .ref a5, .ref a6, .ref a7, .ref a8, .ref a9, .ref a10, .ref a11, .null])), (a1, .inl (gA (xG X), 16, .inl fun _ => 0)), (a2, .inl (gA (xG X), 16, .inl fun _ => 0)), (a3, .inl (gA (xG X), 16, .inl fun _ => 0)), (a4, .inl (gA (xG X), 2, .inl (upd (upd (fun _ => 0) 0 (-1000000005)) 1 (-1000000005)))), (a5, .inl (gA (xG X), 2, .inl (upd (upd (fun _ => 0) 0 10) 1 0)))] ++ psX6 (xG X) a6 g0 ++ psX9 (xG X) a7 g1 ++ psX7 (xG X) a8 g2 ++ psX4 (xG X) a9 g3 ++ psX3 (xG X) a10 g4 ++ psX2 (xG X) a11 g5) rfl ?_
  refine b_aload C dX0_init_137 rfl (q := 0) rfl ?_
  refine b_new (kc' := 5) (ks' := 35) C kX1 dX0_init_138 cl_X0_77 is_X1 in_X1 dfX1 (Nat.le_of_ble_eq_true rfl) (Nat.le_of_ble_eq_true rfl) (fun a12 => ?_)
  refine b_dup C dX0_init_141 rfl ?_
  refine b_call (kc' := 0) (ks' := 0) C dX0_init_142 (by decide +kernel) cal_X1_init rfl im_X1_init (hRm ⟨Nat.le_of_ble_eq_true rfl, Nat.le_of_ble_eq_true rfl⟩) (Nat.le_of_ble_eq_true rfl) (cc_X1_init (xl X) (xG X)) (Nat.le_of_ble_eq_true rfl) (Nat.le_of_ble_eq_true rfl) (fun g6 => ?_)
  refine b_putF C hin 0 (k := 13) kX0 dX0_init_145 rfl (by decide) fl_X0_80 rfl rfl rfl rfl (Nat.le_of_ble_eq_true rfl) (tl' := [(h, .inr (0, [.int 0, .int 0, .ref a1, .ref a2, .ref a3, .ref a4, .ref a5, .ref a6, .ref a7, .ref a8, .ref a9, .ref a10, .ref a11, .ref a12])), (a1, .inl (gA (xG X), 16, .inl fun _ => 0)), (a2, .inl (gA (xG X), 16, .inl fun _ => 0)), (a3, .inl (gA (xG X), 16, .inl fun _ => 0)), (a4, .inl (gA (xG X), 2, .inl (upd (upd (fun _ => 0) 0 (-1000000005)) 1 (-1000000005)))), (a5, .inl (gA (xG X), 2, .inl (upd (upd (fun _ => 0) 0 10) 1 0)))] ++ psX6 (xG X) a6 g0 ++ psX9 (xG X) a7 g1 ++ psX7 (xG X) a8 g2 ++ psX4 (xG X) a9 g3 ++ psX3 (xG X) a10 g4 ++ psX2 (xG X) a11 g5 ++ psX1 (xG X) a12 g6) rfl ?_
  subst hG
  exact b_ret C rfl hR hq ((fun i => [a1, a2, a3, a4, a5].getD i 0), (a6, g0), (a7, g1), (a8, g2), (a9, g3), (a10, g4), (a11, g5), (a12, g6)) rfl dX0_init_148
set_option maxRecDepth 100000 in
set_option maxHeartbeats 4000000 in
theorem cc_X8_init (l : Launch) (G : Gx) : Cc l G yX8_init (wsM yX8_init cX8_init 1 none) rmX8_init 8 [.int 0, .null, .int 0, .int 0, .int 0, .null, .int 0, .int 0, .int 0, .null, .int 0, .int 0, .int 0, .int 0] (psX8 G) := by
  refine cc_of RX8 (by decide +kernel) rfl (Nat.le_of_ble_eq_true rfl) rfl ?_
  intro X wr h C hin hl hG hN hR hq
  have hRo : 1 ≤ (xR X).frames ∧ 20 ≤ (xR X).locals := by rw [hR]; exact ⟨Nat.le_of_ble_eq_true rfl, Nat.le_of_ble_eq_true rfl⟩
  have hRm : ∀ {rm : Room} {ny : Nat}, RmOk rmX8_init rm ny → RmOk (xR X) rm ny := fun h => by rw [hR]; exact h
  show Bd X 3 288 0 [(0, .ref h)] [] wr [(h, .inr (8, [.int 0, .null, .int 0, .int 0, .int 0, .null, .int 0, .int 0, .int 0, .null, .int 0, .int 0, .int 0, .int 0]))]
  refine b_aload C dX8_init_0 rfl (q := 0) rfl ?_
  refine b_obj C hRo dX8_init_1 ml_X8_3 oi_im oi_cd ?_
  refine b_aload C dX8_init_4 rfl (q := 0) rfl ?_
  refine b_iconst C dX8_init_5 (v := 0) rfl ?_
  refine b_put C 0 (k := 0) kX8 dX8_init_6 rfl (by decide) fl_X8_9 rfl rfl rfl (Nat.le_of_ble_eq_true rfl) (tl' := [(h, .inr (8, [.int 0, .null, .int 0, .int 0, .int 0, .null, .int 0, .int 0, .int 0, .null, .int 0, .int 0, .int 0, .int 0]))]) rfl ?_
  refine b_aload C dX8_init_9 rfl (q := 0) rfl ?_
  refine b_bipush C dX8_init_10 (v := 96) (by decide) ?_
  refine b_newa (kc' := 2) (ks' := 192) C (n := 96) dX8_init_12 ⟨by decide, by decide, by decide⟩ (Nat.le_of_ble_eq_true rfl) (Nat.le_of_ble_eq_true rfl) (fun a1 => ?_)
  refine b_putF C hin 0 (k := 1) kX8 dX8_init_14 rfl (by decide) fl_X8_15 rfl rfl rfl rfl (Nat.le_of_ble_eq_true rfl) (tl' := [(h, .inr (8, [.int 0, .ref a1, .int 0, .int 0, .int 0, .null, .int 0, .int 0, .int 0, .null, .int 0, .int 0, .int 0, .int 0])), (a1, .inl (gA (xG X), 96, .inl fun _ => 0))]) rfl ?_
  refine b_aload C dX8_init_17 rfl (q := 0) rfl ?_
  refine b_iconst C dX8_init_18 (v := 0) rfl ?_
  refine b_put C 0 (k := 2) kX8 dX8_init_19 rfl (by decide) fl_X8_19 rfl rfl rfl (Nat.le_of_ble_eq_true rfl) (tl' := [(h, .inr (8, [.int 0, .ref a1, .int 0, .int 0, .int 0, .null, .int 0, .int 0, .int 0, .null, .int 0, .int 0, .int 0, .int 0])), (a1, .inl (gA (xG X), 96, .inl fun _ => 0))]) rfl ?_
  refine b_aload C dX8_init_22 rfl (q := 0) rfl ?_
  refine b_iconst C dX8_init_23 (v := 0) rfl ?_
  refine b_put C 0 (k := 3) kX8 dX8_init_24 rfl (by decide) fl_X8_22 rfl rfl rfl (Nat.le_of_ble_eq_true rfl) (tl' := [(h, .inr (8, [.int 0, .ref a1, .int 0, .int 0, .int 0, .null, .int 0, .int 0, .int 0, .null, .int 0, .int 0, .int 0, .int 0])), (a1, .inl (gA (xG X), 96, .inl fun _ => 0))]) rfl ?_
  refine b_aload C dX8_init_27 rfl (q := 0) rfl ?_
  refine b_iconst C dX8_init_28 (v := 0) rfl ?_
  refine b_put C 0 (k := 4) kX8 dX8_init_29 rfl (by decide) fl_X8_25 rfl rfl rfl (Nat.le_of_ble_eq_true rfl) (tl' := [(h, .inr (8, [.int 0, .ref a1, .int 0, .int 0, .int 0, .null, .int 0, .int 0, .int 0, .null, .int 0, .int 0, .int 0, .int 0])), (a1, .inl (gA (xG X), 96, .inl fun _ => 0))]) rfl ?_
  refine b_aload C dX8_init_32 rfl (q := 0) rfl ?_
  refine b_bipush C dX8_init_33 (v := 96) (by decide) ?_
  refine b_newa (kc' := 1) (ks' := 96) C (n := 96) dX8_init_35 ⟨by decide, by decide, by decide⟩ (Nat.le_of_ble_eq_true rfl) (Nat.le_of_ble_eq_true rfl) (fun a2 => ?_)
  refine b_putF C hin 0 (k := 5) kX8 dX8_init_37 rfl (by decide) fl_X8_28 rfl rfl rfl rfl (Nat.le_of_ble_eq_true rfl) (tl' := [(h, .inr (8, [.int 0, .ref a1, .int 0, .int 0, .int 0, .ref a2, .int 0, .int 0, .int 0, .null, .int 0, .int 0, .int 0, .int 0])), (a1, .inl (gA (xG X), 96, .inl fun _ => 0)), (a2, .inl (gA (xG X), 96, .inl fun _ => 0))]) rfl ?_
  refine b_aload C dX8_init_40 rfl (q := 0) rfl ?_
  refine b_iconst C dX8_init_41 (v := 0) rfl ?_
  refine b_put C 0 (k := 6) kX8 dX8_init_42 rfl (by decide) fl_X8_31 rfl rfl rfl (Nat.le_of_ble_eq_true rfl) (tl' := [(h, .inr (8, [.int 0, .ref a1, .int 0, .int 0, .int 0, .ref a2, .int 0, .int 0, .int 0, .null, .int 0, .int 0, .int 0, .int 0])), (a1, .inl (gA (xG X), 96, .inl fun _ => 0)), (a2, .inl (gA (xG X), 96, .inl fun _ => 0))]) rfl ?_
  refine b_aload C dX8_init_45 rfl (q := 0) rfl ?_
  refine b_iconst C dX8_init_46 (v := 0) rfl ?_
  refine b_put C 0 (k := 7) kX8 dX8_init_47 rfl (by decide) fl_X8_34 rfl rfl rfl (Nat.le_of_ble_eq_true rfl) (tl' := [(h, .inr (8, [.int 0, .ref a1, .int 0, .int 0, .int 0, .ref a2, .int 0, .int 0, .int 0, .null, .int 0, .int 0, .int 0, .int 0])), (a1, .inl (gA (xG X), 96, .inl fun _ => 0)), (a2, .inl (gA (xG X), 96, .inl fun _ => 0))]) rfl ?_
  refine b_aload C dX8_init_50 rfl (q := 0) rfl ?_
  refine b_iconst C dX8_init_51 (v := 0) rfl ?_
  refine b_put C 0 (k := 8) kX8 dX8_init_52 rfl (by decide) fl_X8_37 rfl rfl rfl (Nat.le_of_ble_eq_true rfl) (tl' := [(h, .inr (8, [.int 0, .ref a1, .int 0, .int 0, .int 0, .ref a2, .int 0, .int 0, .int 0, .null, .int 0, .int 0, .int 0, .int 0])), (a1, .inl (gA (xG X), 96, .inl fun _ => 0)), (a2, .inl (gA (xG X), 96, .inl fun _ => 0))]) rfl ?_
  refine b_aload C dX8_init_55 rfl (q := 0) rfl ?_
  refine b_bipush C dX8_init_56 (v := 96) (by decide) ?_
  refine b_newa (kc' := 0) (ks' := 0) C (n := 96) dX8_init_58 ⟨by decide, by decide, by decide⟩ (Nat.le_of_ble_eq_true rfl) (Nat.le_of_ble_eq_true rfl) (fun a3 => ?_)
  refine b_putF C hin 0 (k := 9) kX8 dX8_init_60 rfl (by decide) fl_X8_40 rfl rfl rfl rfl (Nat.le_of_ble_eq_true rfl) (tl' := [(h, .inr (8, [.int 0, .ref a1, .int 0, .int 0, .int 0, .ref a2, .int 0, .int 0, .int 0, .ref a3, .int 0, .int 0, .int 0, .int 0])), (a1, .inl (gA (xG X), 96, .inl fun _ => 0)), (a2, .inl (gA (xG X), 96, .inl fun _ => 0)), (a3, .inl (gA (xG X), 96, .inl fun _ => 0))]) rfl ?_
  refine b_aload C dX8_init_63 rfl (q := 0) rfl ?_
  refine b_iconst C dX8_init_64 (v := 0) rfl ?_
  refine b_put C 0 (k := 10) kX8 dX8_init_65 rfl (by decide) fl_X8_43 rfl rfl rfl (Nat.le_of_ble_eq_true rfl) (tl' := [(h, .inr (8, [.int 0, .ref a1, .int 0, .int 0, .int 0, .ref a2, .int 0, .int 0, .int 0, .ref a3, .int 0, .int 0, .int 0, .int 0])), (a1, .inl (gA (xG X), 96, .inl fun _ => 0)), (a2, .inl (gA (xG X), 96, .inl fun _ => 0)), (a3, .inl (gA (xG X), 96, .inl fun _ => 0))]) rfl ?_
  refine b_aload C dX8_init_68 rfl (q := 0) rfl ?_
  refine b_iconst C dX8_init_69 (v := 0) rfl ?_
  refine b_put C 0 (k := 11) kX8 dX8_init_70 rfl (by decide) fl_X8_46 rfl rfl rfl (Nat.le_of_ble_eq_true rfl) (tl' := [(h, .inr (8, [.int 0, .ref a1, .int 0, .int 0, .int 0, .ref a2, .int 0, .int 0, .int 0, .ref a3, .int 0, .int 0, .int 0, .int 0])), (a1, .inl (gA (xG X), 96, .inl fun _ => 0)), (a2, .inl (gA (xG X), 96, .inl fun _ => 0)), (a3, .inl (gA (xG X), 96, .inl fun _ => 0))]) rfl ?_
  refine b_aload C dX8_init_73 rfl (q := 0) rfl ?_
  refine b_iconst C dX8_init_74 (v := 0) rfl ?_
  refine b_put C 0 (k := 12) kX8 dX8_init_75 rfl (by decide) fl_X8_49 rfl rfl rfl (Nat.le_of_ble_eq_true rfl) (tl' := [(h, .inr (8, [.int 0, .ref a1, .int 0, .int 0, .int 0, .ref a2, .int 0, .int 0, .int 0, .ref a3, .int 0, .int 0, .int 0, .int 0])), (a1, .inl (gA (xG X), 96, .inl fun _ => 0)), (a2, .inl (gA (xG X), 96, .inl fun _ => 0)), (a3, .inl (gA (xG X), 96, .inl fun _ => 0))]) rfl ?_
  refine b_aload C dX8_init_78 rfl (q := 0) rfl ?_
  refine b_iconst C dX8_init_79 (v := 1) rfl ?_
  refine b_put C 0 (k := 13) kX8 dX8_init_80 rfl (by decide) fl_X8_52 rfl rfl rfl (Nat.le_of_ble_eq_true rfl) (tl' := [(h, .inr (8, [.int 0, .ref a1, .int 0, .int 0, .int 0, .ref a2, .int 0, .int 0, .int 0, .ref a3, .int 0, .int 0, .int 0, .int 1])), (a1, .inl (gA (xG X), 96, .inl fun _ => 0)), (a2, .inl (gA (xG X), 96, .inl fun _ => 0)), (a3, .inl (gA (xG X), 96, .inl fun _ => 0))]) rfl ?_
  subst hG
  exact b_ret C rfl hR hq (fun i => [a1, a2, a3].getD i 0) rfl dX8_init_83
set_option maxRecDepth 100000 in
set_option maxHeartbeats 4000000 in
theorem cc_X5_init (l : Launch) (G : Gx) : Cc l G yX5_init (wsM yX5_init cX5_init 1 none) rmX5_init 5 [.null, .null, .null] (psX5 G) := by
  refine cc_of RX5 (by decide +kernel) rfl (Nat.le_of_ble_eq_true rfl) rfl ?_
  intro X wr h C hin hl hG hN hR hq
  have hRo : 1 ≤ (xR X).frames ∧ 20 ≤ (xR X).locals := by rw [hR]; exact ⟨Nat.le_of_ble_eq_true rfl, Nat.le_of_ble_eq_true rfl⟩
  have hRm : ∀ {rm : Room} {ny : Nat}, RmOk rmX5_init rm ny → RmOk (xR X) rm ny := fun h => by rw [hR]; exact h
  show Bd X 3 64 0 [(0, .ref h)] [] wr [(h, .inr (5, [.null, .null, .null]))]
  refine b_aload C dX5_init_0 rfl (q := 0) rfl ?_
  refine b_obj C hRo dX5_init_1 ml_X5_3 oi_im oi_cd ?_
  refine b_aload C dX5_init_4 rfl (q := 0) rfl ?_
  refine b_iconst C dX5_init_5 (v := 2) rfl ?_
  refine b_newa (kc' := 2) (ks' := 62) C (n := 2) dX5_init_6 ⟨by decide, by decide, by decide⟩ (Nat.le_of_ble_eq_true rfl) (Nat.le_of_ble_eq_true rfl) (fun a1 => ?_)
  refine b_dup C dX5_init_8 rfl ?_
  refine b_iconst C dX5_init_9 (v := 0) rfl ?_
  refine b_iconst C dX5_init_10 (v := (-1)) rfl ?_
  refine b_iast C 1 dX5_init_11 rfl (by unfold vp_in; decide) (tl' := [(h, .inr (5, [.null, .null, .null])), (a1, .inl (gA (xG X), 2, .inl (upd (fun _ => 0) 0 (-1))))]) rfl ?_
  refine b_dup C dX5_init_12 rfl ?_
  refine b_iconst C dX5_init_13 (v := 1) rfl ?_
  refine b_iconst C dX5_init_14 (v := (-1)) rfl ?_
  refine b_iast C 1 dX5_init_15 rfl (by unfold vp_in; decide) (tl' := [(h, .inr (5, [.null, .null, .null])), (a1, .inl (gA (xG X), 2, .inl (upd (upd (fun _ => 0) 0 (-1)) 1 (-1))))]) rfl ?_
  refine b_putF C hin 0 (k := 0) kX5 dX5_init_16 rfl (by decide) fl_X5_9 rfl rfl rfl rfl (Nat.le_of_ble_eq_true rfl) (tl' := [(h, .inr (5, [.ref a1, .null, .null])), (a1, .inl (gA (xG X), 2, .inl (upd (upd (fun _ => 0) 0 (-1)) 1 (-1))))]) rfl ?_
  refine b_aload C dX5_init_19 rfl (q := 0) rfl ?_
  refine b_iconst C dX5_init_20 (v := 2) rfl ?_
  refine b_newa (kc' := 1) (ks' := 60) C (n := 2) dX5_init_21 ⟨by decide, by decide, by decide⟩ (Nat.le_of_ble_eq_true rfl) (Nat.le_of_ble_eq_true rfl) (fun a2 => ?_)
  refine b_putF C hin 0 (k := 1) kX5 dX5_init_23 rfl (by decide) fl_X5_15 rfl rfl rfl rfl (Nat.le_of_ble_eq_true rfl) (tl' := [(h, .inr (5, [.ref a1, .ref a2, .null])), (a1, .inl (gA (xG X), 2, .inl (upd (upd (fun _ => 0) 0 (-1)) 1 (-1)))), (a2, .inl (gA (xG X), 2, .inl fun _ => 0))]) rfl ?_
  refine b_aload C dX5_init_26 rfl (q := 0) rfl ?_
  refine b_bipush C dX5_init_27 (v := 60) (by decide) ?_
  refine b_newa (kc' := 0) (ks' := 0) C (n := 60) dX5_init_29 ⟨by decide, by decide, by decide⟩ (Nat.le_of_ble_eq_true rfl) (Nat.le_of_ble_eq_true rfl) (fun a3 => ?_)
  refine b_putF C hin 0 (k := 2) kX5 dX5_init_31 rfl (by decide) fl_X5_18 rfl rfl rfl rfl (Nat.le_of_ble_eq_true rfl) (tl' := [(h, .inr (5, [.ref a1, .ref a2, .ref a3])), (a1, .inl (gA (xG X), 2, .inl (upd (upd (fun _ => 0) 0 (-1)) 1 (-1)))), (a2, .inl (gA (xG X), 2, .inl fun _ => 0)), (a3, .inl (gA (xG X), 60, .inl fun _ => 0))]) rfl ?_
  subst hG
  exact b_ret C rfl hR hq (fun i => [a1, a2, a3].getD i 0) rfl dX5_init_34
set_option maxRecDepth 100000 in
set_option maxHeartbeats 4000000 in
theorem cc_X10_init (l : Launch) (G : Gx) : Cc l G yX10_init (wsM yX10_init cX10_init 1 none) rmX10_init 10 [.null, .null, .null] (psX10 G) := by
  refine cc_of RX10 (by decide +kernel) rfl (Nat.le_of_ble_eq_true rfl) rfl ?_
  intro X wr h C hin hl hG hN hR hq
  have hRo : 1 ≤ (xR X).frames ∧ 20 ≤ (xR X).locals := by rw [hR]; exact ⟨Nat.le_of_ble_eq_true rfl, Nat.le_of_ble_eq_true rfl⟩
  have hRm : ∀ {rm : Room} {ny : Nat}, RmOk rmX10_init rm ny → RmOk (xR X) rm ny := fun h => by rw [hR]; exact h
  show Bd X 3 360 0 [(0, .ref h)] [] wr [(h, .inr (10, [.null, .null, .null]))]
  refine b_aload C dX10_init_0 rfl (q := 0) rfl ?_
  refine b_obj C hRo dX10_init_1 ml_X10_3 oi_im oi_cd ?_
  refine b_aload C dX10_init_4 rfl (q := 0) rfl ?_
  refine b_sipush C dX10_init_5 (v := 324) (by decide) ?_
  refine b_newa (kc' := 2) (ks' := 36) C (n := 324) dX10_init_8 ⟨by decide, by decide, by decide⟩ (Nat.le_of_ble_eq_true rfl) (Nat.le_of_ble_eq_true rfl) (fun a1 => ?_)
  refine b_putF C hin 0 (k := 0) kX10 dX10_init_10 rfl (by decide) fl_X10_11 rfl rfl rfl rfl (Nat.le_of_ble_eq_true rfl) (tl' := [(h, .inr (10, [.ref a1, .null, .null])), (a1, .inl (gA (xG X), 324, .inl fun _ => 0))]) rfl ?_
  refine b_aload C dX10_init_13 rfl (q := 0) rfl ?_
  refine b_bipush C dX10_init_14 (v := 18) (by decide) ?_
  refine b_newa (kc' := 1) (ks' := 18) C (n := 18) dX10_init_16 ⟨by decide, by decide, by decide⟩ (Nat.le_of_ble_eq_true rfl) (Nat.le_of_ble_eq_true rfl) (fun a2 => ?_)
  refine b_putF C hin 0 (k := 1) kX10 dX10_init_18 rfl (by decide) fl_X10_15 rfl rfl rfl rfl (Nat.le_of_ble_eq_true rfl) (tl' := [(h, .inr (10, [.ref a1, .ref a2, .null])), (a1, .inl (gA (xG X), 324, .inl fun _ => 0)), (a2, .inl (gA (xG X), 18, .inl fun _ => 0))]) rfl ?_
  refine b_aload C dX10_init_21 rfl (q := 0) rfl ?_
  refine b_bipush C dX10_init_22 (v := 18) (by decide) ?_
  refine b_newa (kc' := 0) (ks' := 0) C (n := 18) dX10_init_24 ⟨by decide, by decide, by decide⟩ (Nat.le_of_ble_eq_true rfl) (Nat.le_of_ble_eq_true rfl) (fun a3 => ?_)
  refine b_putF C hin 0 (k := 2) kX10 dX10_init_26 rfl (by decide) fl_X10_18 rfl rfl rfl rfl (Nat.le_of_ble_eq_true rfl) (tl' := [(h, .inr (10, [.ref a1, .ref a2, .ref a3])), (a1, .inl (gA (xG X), 324, .inl fun _ => 0)), (a2, .inl (gA (xG X), 18, .inl fun _ => 0)), (a3, .inl (gA (xG X), 18, .inl fun _ => 0))]) rfl ?_
  subst hG
  exact b_ret C rfl hR hq (fun i => [a1, a2, a3].getD i 0) rfl dX10_init_29
set_option maxRecDepth 100000 in
set_option maxHeartbeats 4000000 in
theorem cc_X11_init (l : Launch) (G : Gx) : Cc l G yX11_init (wsM yX11_init cX11_init 1 none) rmX11_init 11 [.null, .null, .null, .int 0, .null, .null, .null, .null, .int 0, .null] (psX11 G) := by
  refine cc_of RX11 (by decide +kernel) rfl (Nat.le_of_ble_eq_true rfl) rfl ?_
  intro X wr h C hin hl hG hN hR hq
  have hRo : 1 ≤ (xR X).frames ∧ 20 ≤ (xR X).locals := by rw [hR]; exact ⟨Nat.le_of_ble_eq_true rfl, Nat.le_of_ble_eq_true rfl⟩
  have hRm : ∀ {rm : Room} {ny : Nat}, RmOk rmX11_init rm ny → RmOk (xR X) rm ny := fun h => by rw [hR]; exact h
  show Bd X 206 9933 0 [(0, .ref h)] [] wr [(h, .inr (11, [.null, .null, .null, .int 0, .null, .null, .null, .null, .int 0, .null]))]
  refine b_aload C dX11_init_0 rfl (q := 0) rfl ?_
  refine b_obj C hRo dX11_init_1 ml_X11_3 oi_im oi_cd ?_
  refine b_aload C dX11_init_4 rfl (q := 0) rfl ?_
  refine b_new (kc' := 205) (ks' := 9919) C kX0 dX11_init_5 cl_X11_9 is_X0 in_X0 dfX0 (Nat.le_of_ble_eq_true rfl) (Nat.le_of_ble_eq_true rfl) (fun a1 => ?_)
  refine b_dup C dX11_init_8 rfl ?_
  refine b_call (kc' := 142) (ks' := 6906) C dX11_init_9 (by decide +kernel) cal_X0_init rfl im_X0_init (hRm ⟨Nat.le_of_ble_eq_true rfl, Nat.le_of_ble_eq_true rfl⟩) (Nat.le_of_ble_eq_true rfl) (cc_X0_init (xl X) (xG X)) (Nat.le_of_ble_eq_true rfl) (Nat.le_of_ble_eq_true rfl) (fun g0 => ?_)
  refine b_putF C hin 0 (k := 0) kX11 dX11_init_12 rfl (by decide) fl_X11_12 rfl rfl rfl rfl (Nat.le_of_ble_eq_true rfl) (tl' := [(h, .inr (11, [.ref a1, .null, .null, .int 0, .null, .null, .null, .null, .int 0, .null]))] ++ psX0 (xG X) a1 g0) rfl ?_
  refine b_aload C dX11_init_15 rfl (q := 0) rfl ?_
  refine b_new (kc' := 141) (ks' := 6892) C kX0 dX11_init_16 cl_X11_9 is_X0 in_X0 dfX0 (Nat.le_of_ble_eq_true rfl) (Nat.le_of_ble_eq_true rfl) (fun a2 => ?_)
  refine b_dup C dX11_init_19 rfl ?_
  refine b_call (kc' := 78) (ks' := 3879) C dX11_init_20 (by decide +kernel) cal_X0_init rfl im_X0_init (hRm ⟨Nat.le_of_ble_eq_true rfl, Nat.le_of_ble_eq_true rfl⟩) (Nat.le_of_ble_eq_true rfl) (cc_X0_init (xl X) (xG X)) (Nat.le_of_ble_eq_true rfl) (Nat.le_of_ble_eq_true rfl) (fun g1 => ?_)
  refine b_putF C hin 0 (k := 1) kX11 dX11_init_23 rfl (by decide) fl_X11_16 rfl rfl rfl rfl (Nat.le_of_ble_eq_true rfl) (tl' := [(h, .inr (11, [.ref a1, .ref a2, .null, .int 0, .null, .null, .null, .null, .int 0, .null]))] ++ psX0 (xG X) a1 g0 ++ psX0 (xG X) a2 g1) rfl ?_
  refine b_aload C dX11_init_26 rfl (q := 0) rfl ?_
  refine b_new (kc' := 77) (ks' := 3865) C kX0 dX11_init_27 cl_X11_9 is_X0 in_X0 dfX0 (Nat.le_of_ble_eq_true rfl) (Nat.le_of_ble_eq_true rfl) (fun a3 => ?_)
  refine b_dup C dX11_init_30 rfl ?_
  refine b_call (kc' := 14) (ks' := 852) C dX11_init_31 (by decide +kernel) cal_X0_init rfl im_X0_init (hRm ⟨Nat.le_of_ble_eq_true rfl, Nat.le_of_ble_eq_true rfl⟩) (Nat.le_of_ble_eq_true rfl) (cc_X0_init (xl X) (xG X)) (Nat.le_of_ble_eq_true rfl) (Nat.le_of_ble_eq_true rfl) (fun g2 => ?_)
  refine b_putF C hin 0 (k := 2) kX11 dX11_init_34 rfl (by decide) fl_X11_19 rfl rfl rfl rfl (Nat.le_of_ble_eq_true rfl) (tl' := [(h, .inr (11, [.ref a1, .ref a2, .ref a3, .int 0, .null, .null, .null, .null, .int 0, .null]))] ++ psX0 (xG X) a1 g0 ++ psX0 (xG X) a2 g1 ++ psX0 (xG X) a3 g2) rfl ?_
  refine b_aload C dX11_init_37 rfl (q := 0) rfl ?_
  refine b_iconst C dX11_init_38 (v := 0) rfl ?_
  refine b_put C 0 (k := 3) kX11 dX11_init_39 rfl (by decide) fl_X11_22 rfl rfl rfl (Nat.le_of_ble_eq_true rfl) (tl' := [(h, .inr (11, [.ref a1, .ref a2, .ref a3, .int 0, .null, .null, .null, .null, .int 0, .null]))] ++ psX0 (xG X) a1 g0 ++ psX0 (xG X) a2 g1 ++ psX0 (xG X) a3 g2) rfl ?_
  refine b_aload C dX11_init_42 rfl (q := 0) rfl ?_
  refine b_new (kc' := 13) (ks' := 838) C kX8 dX11_init_43 cl_X11_26 is_X8 in_X8 dfX8 (Nat.le_of_ble_eq_true rfl) (Nat.le_of_ble_eq_true rfl) (fun a4 => ?_)
  refine b_dup C dX11_init_46 rfl ?_
  refine b_call (kc' := 10) (ks' := 550) C dX11_init_47 (by decide +kernel) cal_X8_init rfl im_X8_init (hRm ⟨Nat.le_of_ble_eq_true rfl, Nat.le_of_ble_eq_true rfl⟩) (Nat.le_of_ble_eq_true rfl) (cc_X8_init (xl X) (xG X)) (Nat.le_of_ble_eq_true rfl) (Nat.le_of_ble_eq_true rfl) (fun g3 => ?_)
  refine b_putF C hin 0 (k := 4) kX11 dX11_init_50 rfl (by decide) fl_X11_29 rfl rfl rfl rfl (Nat.le_of_ble_eq_true rfl) (tl' := [(h, .inr (11, [.ref a1, .ref a2, .ref a3, .int 0, .ref a4, .null, .null, .null, .int 0, .null]))] ++ psX0 (xG X) a1 g0 ++ psX0 (xG X) a2 g1 ++ psX0 (xG X) a3 g2 ++ psX8 (xG X) a4 g3) rfl ?_
  refine b_aload C dX11_init_53 rfl (q := 0) rfl ?_
  refine b_new (kc' := 9) (ks' := 547) C kX5 dX11_init_54 cl_X11_33 is_X5 in_X5 dfX5 (Nat.le_of_ble_eq_true rfl) (Nat.le_of_ble_eq_true rfl) (fun a5 => ?_)
  refine b_dup C dX11_init_57 rfl ?_
  refine b_call (kc' := 6) (ks' := 483) C dX11_init_58 (by decide +kernel) cal_X5_init rfl im_X5_init (hRm ⟨Nat.le_of_ble_eq_true rfl, Nat.le_of_ble_eq_true rfl⟩) (Nat.le_of_ble_eq_true rfl) (cc_X5_init (xl X) (xG X)) (Nat.le_of_ble_eq_true rfl) (Nat.le_of_ble_eq_true rfl) (fun g4 => ?_)
  refine b_putF C hin 0 (k := 5) kX11 dX11_init_61 rfl (by decide) fl_X11_36 rfl rfl rfl rfl (Nat.le_of_ble_eq_true rfl) (tl' := [(h, .inr (11, [.ref a1, .ref a2, .ref a3, .int 0, .ref a4, .ref a5, .null, .null, .int 0, .null]))] ++ psX0 (xG X) a1 g0 ++ psX0 (xG X) a2 g1 ++ psX0 (xG X) a3 g2 ++ psX8 (xG X) a4 g3 ++ psX5 (xG X) a5 g4) rfl ?_
  refine b_aload C dX11_init_64 rfl (q := 0) rfl ?_
  refine b_new (kc' := 5) (ks' := 480) C kX10 dX11_init_65 cl_X11_40 is_X10 in_X10 dfX10 (Nat.le_of_ble_eq_true rfl) (Nat.le_of_ble_eq_true rfl) (fun a6 => ?_)
  refine b_dup C dX11_init_68 rfl ?_
  refine b_call (kc' := 2) (ks' := 120) C dX11_init_69 (by decide +kernel) cal_X10_init rfl im_X10_init (hRm ⟨Nat.le_of_ble_eq_true rfl, Nat.le_of_ble_eq_true rfl⟩) (Nat.le_of_ble_eq_true rfl) (cc_X10_init (xl X) (xG X)) (Nat.le_of_ble_eq_true rfl) (Nat.le_of_ble_eq_true rfl) (fun g5 => ?_)
  refine b_putF C hin 0 (k := 6) kX11 dX11_init_72 rfl (by decide) fl_X11_43 rfl rfl rfl rfl (Nat.le_of_ble_eq_true rfl) (tl' := [(h, .inr (11, [.ref a1, .ref a2, .ref a3, .int 0, .ref a4, .ref a5, .ref a6, .null, .int 0, .null]))] ++ psX0 (xG X) a1 g0 ++ psX0 (xG X) a2 g1 ++ psX0 (xG X) a3 g2 ++ psX8 (xG X) a4 g3 ++ psX5 (xG X) a5 g4 ++ psX10 (xG X) a6 g5) rfl ?_
  refine b_aload C dX11_init_75 rfl (q := 0) rfl ?_
  refine b_bipush C dX11_init_76 (v := 60) (by decide) ?_
  refine b_newa (kc' := 1) (ks' := 60) C (n := 60) dX11_init_78 ⟨by decide, by decide, by decide⟩ (Nat.le_of_ble_eq_true rfl) (Nat.le_of_ble_eq_true rfl) (fun a7 => ?_)
  refine b_putF C hin 0 (k := 7) kX11 dX11_init_80 rfl (by decide) fl_X11_47 rfl rfl rfl rfl (Nat.le_of_ble_eq_true rfl) (tl' := [(h, .inr (11, [.ref a1, .ref a2, .ref a3, .int 0, .ref a4, .ref a5, .ref a6, .ref a7, .int 0, .null]))] ++ psX0 (xG X) a1 g0 ++ psX0 (xG X) a2 g1 ++ psX0 (xG X) a3 g2 ++ psX8 (xG X) a4 g3 ++ psX5 (xG X) a5 g4 ++ psX10 (xG X) a6 g5 ++ [(a7, .inl (gA (xG X), 60, .inl fun _ => 0))]) rfl ?_
  refine b_aload C dX11_init_83 rfl (q := 0) rfl ?_
  refine b_iconst C dX11_init_84 (v := 0) rfl ?_
  refine b_put C 0 (k := 8) kX11 dX11_init_85 rfl (by decide) fl_X11_51 rfl rfl rfl (Nat.le_of_ble_eq_true rfl) (tl' := [(h, .inr (11, [.ref a1, .ref a2, .ref a3, .int 0, .ref a4, .ref a5, .ref a6, .ref a7, .int 0, .null]))] ++ psX0 (xG X) a1 g0 ++ psX0 (xG X) a2 g1 ++ psX0 (xG X) a3 g2 ++ psX8 (xG X) a4 g3 ++ psX5 (xG X) a5 g4 ++ psX10 (xG X) a6 g5 ++ [(a7, .inl (gA (xG X), 60, .inl fun _ => 0))]) rfl ?_
  refine b_aload C dX11_init_88 rfl (q := 0) rfl ?_
  refine b_bipush C dX11_init_89 (v := 60) (by decide) ?_
  refine b_newa (kc' := 0) (ks' := 0) C (n := 60) dX11_init_91 ⟨by decide, by decide, by decide⟩ (Nat.le_of_ble_eq_true rfl) (Nat.le_of_ble_eq_true rfl) (fun a8 => ?_)
  refine b_putF C hin 0 (k := 9) kX11 dX11_init_93 rfl (by decide) fl_X11_55 rfl rfl rfl rfl (Nat.le_of_ble_eq_true rfl) (tl' := [(h, .inr (11, [.ref a1, .ref a2, .ref a3, .int 0, .ref a4, .ref a5, .ref a6, .ref a7, .int 0, .ref a8]))] ++ psX0 (xG X) a1 g0 ++ psX0 (xG X) a2 g1 ++ psX0 (xG X) a3 g2 ++ psX8 (xG X) a4 g3 ++ psX5 (xG X) a5 g4 ++ psX10 (xG X) a6 g5 ++ [(a7, .inl (gA (xG X), 60, .inl fun _ => 0)), (a8, .inl (gA (xG X), 60, .inl fun _ => 0))]) rfl ?_
  subst hG
  exact b_ret C rfl hR hq ((fun i => [a7, a8].getD i 0), (a1, g0), (a2, g1), (a3, g2), (a4, g3), (a5, g4), (a6, g5)) rfl dX11_init_96
set_option maxRecDepth 100000 in
set_option maxHeartbeats 4000000 in
theorem cc_X12_init (l : Launch) (G : Gx) : Cc l G yX12_init (wsM yX12_init cX12_init 2 none) rmX12_init 12 [.null, .null, .null, .int 0, .null, .null, .null, .null, .null, .int 0, .int 0, .int 0, .int 0, .int 0, .int 0, .int 0, .int 0, .int 0, .int 0, .int 0, .int 0, .null, .null, .null, .null, .null, .null, .null, .null, .null, .null, .null, .int 0, .int 0, .int 0, .null, .int 0, .null, .int 0] (psX12 G) := by
  refine cc_of RX12 (by decide +kernel) rfl (Nat.le_of_ble_eq_true rfl) rfl ?_
  intro X wr h C hin hl hG hN hR hq
  have hRo : 1 ≤ (xR X).frames ∧ 20 ≤ (xR X).locals := by rw [hR]; exact ⟨Nat.le_of_ble_eq_true rfl, Nat.le_of_ble_eq_true rfl⟩
  have hRm : ∀ {rm : Room} {ny : Nat}, RmOk rmX12_init rm ny → RmOk (xR X) rm ny := fun h => by rw [hR]; exact h
  show Bd X 21 25226 0 [(0, .ref h)] [] wr [(h, .inr (12, [.null, .null, .null, .int 0, .null, .null, .null, .null, .null, .int 0, .int 0, .int 0, .int 0, .int 0, .int 0, .int 0, .int 0, .int 0, .int 0, .int 0, .int 0, .null, .null, .null, .null, .null, .null, .null, .null, .null, .null, .null, .int 0, .int 0, .int 0, .null, .int 0, .null, .int 0]))]
  refine b_aload C dX12_init_0 rfl (q := 0) rfl ?_
  refine b_obj C hRo dX12_init_1 ml_X12_1 oi_im oi_cd ?_
  refine b_aload C dX12_init_4 rfl (q := 0) rfl ?_
  refine b_sipush C dX12_init_5 (v := 4210) (by decide) ?_
  refine b_newa (kc' := 20) (ks' := 21016) C (n := 4210) dX12_init_8 ⟨by decide, by decide, by decide⟩ (Nat.le_of_ble_eq_true rfl) (Nat.le_of_ble_eq_true rfl) (fun a1 => ?_)
  refine b_putF C hin 0 (k := 0) kX12 dX12_init_10 rfl (by decide) fl_X12_7 rfl rfl rfl rfl (Nat.le_of_ble_eq_true rfl) (tl' := [(h, .inr (12, [.ref a1, .null, .null, .int 0, .null, .null, .null, .null, .null, .int 0, .int 0, .int 0, .int 0, .int 0, .int 0, .int 0, .int 0, .int 0, .int 0, .int 0, .int 0, .null, .null, .null, .null, .null, .null, .null, .null, .null, .null, .null, .int 0, .int 0, .int 0, .null, .int 0, .null, .int 0])), (a1, .inl (gA (xG X), 4210, .inl fun _ => 0))]) rfl ?_
  refine b_aload C dX12_init_13 rfl (q := 0) rfl ?_
  refine b_sipush C dX12_init_14 (v := 4210) (by decide) ?_
  refine b_newa (kc' := 19) (ks' := 16806) C (n := 4210) dX12_init_17 ⟨by decide, by decide, by decide⟩ (Nat.le_of_ble_eq_true rfl) (Nat.le_of_ble_eq_true rfl) (fun a2 => ?_)
  refine b_putF C hin 0 (k := 1) kX12 dX12_init_19 rfl (by decide) fl_X12_13 rfl rfl rfl rfl (Nat.le_of_ble_eq_true rfl) (tl' := [(h, .inr (12, [.ref a1, .ref a2, .null, .int 0, .null, .null, .null, .null, .null, .int 0, .int 0, .int 0, .int 0, .int 0, .int 0, .int 0, .int 0, .int 0, .int 0, .int 0, .int 0, .null, .null, .null, .null, .null, .null, .null, .null, .null, .null, .null, .int 0, .int 0, .int 0, .null, .int 0, .null, .int 0])), (a1, .inl (gA (xG X), 4210, .inl fun _ => 0)), (a2, .inl (gA (xG X), 4210, .inl fun _ => 0))]) rfl ?_
  refine b_aload C dX12_init_22 rfl (q := 0) rfl ?_
  refine b_sipush C dX12_init_23 (v := 4210) (by decide) ?_
  refine b_newa (kc' := 18) (ks' := 12596) C (n := 4210) dX12_init_26 ⟨by decide, by decide, by decide⟩ (Nat.le_of_ble_eq_true rfl) (Nat.le_of_ble_eq_true rfl) (fun a3 => ?_)
  refine b_putF C hin 0 (k := 2) kX12 dX12_init_28 rfl (by decide) fl_X12_16 rfl rfl rfl rfl (Nat.le_of_ble_eq_true rfl) (tl' := [(h, .inr (12, [.ref a1, .ref a2, .ref a3, .int 0, .null, .null, .null, .null, .null, .int 0, .int 0, .int 0, .int 0, .int 0, .int 0, .int 0, .int 0, .int 0, .int 0, .int 0, .int 0, .null, .null, .null, .null, .null, .null, .null, .null, .null, .null, .null, .int 0, .int 0, .int 0, .null, .int 0, .null, .int 0])), (a1, .inl (gA (xG X), 4210, .inl fun _ => 0)), (a2, .inl (gA (xG X), 4210, .inl fun _ => 0)), (a3, .inl (gA (xG X), 4210, .inl fun _ => 0))]) rfl ?_
  refine b_aload C dX12_init_31 rfl (q := 0) rfl ?_
  refine b_iconst C dX12_init_32 (v := 2) rfl ?_
  refine b_newa (kc' := 17) (ks' := 12594) C (n := 2) dX12_init_33 ⟨by decide, by decide, by decide⟩ (Nat.le_of_ble_eq_true rfl) (Nat.le_of_ble_eq_true rfl) (fun a4 => ?_)
  refine b_putF C hin 0 (k := 4) kX12 dX12_init_35 rfl (by decide) fl_X12_19 rfl rfl rfl rfl (Nat.le_of_ble_eq_true rfl) (tl' := [(h, .inr (12, [.ref a1, .ref a2, .ref a3, .int 0, .ref a4, .null, .null, .null, .null, .int 0, .int 0, .int 0, .int 0, .int 0, .int 0, .int 0, .int 0, .int 0, .int 0, .int 0, .int 0, .null, .null, .null, .null, .null, .null, .null, .null, .null, .null, .null, .int 0, .int 0, .int 0, .null, .int 0, .null, .int 0])), (a1, .inl (gA (xG X), 4210, .inl fun _ => 0)), (a2, .inl (gA (xG X), 4210, .inl fun _ => 0)), (a3, .inl (gA (xG X), 4210, .inl fun _ => 0)), (a4, .inl (gA (xG X), 2, .inl fun _ => 0))]) rfl ?_
  refine b_aload C dX12_init_38 rfl (q := 0) rfl ?_
  refine b_iconst C dX12_init_39 (v := 2) rfl ?_
  refine b_newa (kc' := 16) (ks' := 12592) C (n := 2) dX12_init_40 ⟨by decide, by decide, by decide⟩ (Nat.le_of_ble_eq_true rfl) (Nat.le_of_ble_eq_true rfl) (fun a5 => ?_)
  refine b_putF C hin 0 (k := 5) kX12 dX12_init_42 rfl (by decide) fl_X12_22 rfl rfl rfl rfl (Nat.le_of_ble_eq_true rfl) (tl' := [(h, .inr (12, [.ref a1, .ref a2, .ref a3, .int 0, .ref a4, .ref a5, .null, .null, .null, .int 0, .int 0, .int 0, .int 0, .int 0, .int 0, .int 0, .int 0, .int 0, .int 0, .int 0, .int 0, .null, .null, .null, .null, .null, .null, .null, .null, .null, .null, .null, .int 0, .int 0, .int 0, .null, .int 0, .null, .int 0])), (a1, .inl (gA (xG X), 4210, .inl fun _ => 0)), (a2, .inl (gA (xG X), 4210, .inl fun _ => 0)), (a3, .inl (gA (xG X), 4210, .inl fun _ => 0)), (a4, .inl (gA (xG X), 2, .inl fun _ => 0)), (a5, .inl (gA (xG X), 2, .inl fun _ => 0))]) rfl ?_
  refine b_aload C dX12_init_45 rfl (q := 0) rfl ?_
  refine b_bipush C dX12_init_46 (v := 60) (by decide) ?_
  refine b_newa (kc' := 15) (ks' := 12532) C (n := 60) dX12_init_48 ⟨by decide, by decide, by decide⟩ (Nat.le_of_ble_eq_true rfl) (Nat.le_of_ble_eq_true rfl) (fun a6 => ?_)
  refine b_putF C hin 0 (k := 6) kX12 dX12_init_50 rfl (by decide) fl_X12_25 rfl rfl rfl rfl (Nat.le_of_ble_eq_true rfl) (tl' := [(h, .inr (12, [.ref a1, .ref a2, .ref a3, .int 0, .ref a4, .ref a5, .ref a6, .null, .null, .int 0, .int 0, .int 0, .int 0, .int 0, .int 0, .int 0, .int 0, .int 0, .int 0, .int 0, .int 0, .null, .null, .null, .null, .null, .null, .null, .null, .null, .null, .null, .int 0, .int 0, .int 0, .null, .int 0, .null, .int 0])), (a1, .inl (gA (xG X), 4210, .inl fun _ => 0)), (a2, .inl (gA (xG X), 4210, .inl fun _ => 0)), (a3, .inl (gA (xG X), 4210, .inl fun _ => 0)), (a4, .inl (gA (xG X), 2, .inl fun _ => 0)), (a5, .inl (gA (xG X), 2, .inl fun _ => 0)), (a6, .inl (gA (xG X), 60, .inl fun _ => 0))]) rfl ?_
  refine b_aload C dX12_init_53 rfl (q := 0) rfl ?_
  refine b_sipush C dX12_init_54 (v := 400) (by decide) ?_
  refine b_newa (kc' := 14) (ks' := 12132) C (n := 400) dX12_init_57 ⟨by decide, by decide, by decide⟩ (Nat.le_of_ble_eq_true rfl) (Nat.le_of_ble_eq_true rfl) (fun a7 => ?_)
  refine b_putF C hin 0 (k := 7) kX12 dX12_init_59 rfl (by decide) fl_X12_28 rfl rfl rfl rfl (Nat.le_of_ble_eq_true rfl) (tl' := [(h, .inr (12, [.ref a1, .ref a2, .ref a3, .int 0, .ref a4, .ref a5, .ref a6, .ref a7, .null, .int 0, .int 0, .int 0, .int 0, .int 0, .int 0, .int 0, .int 0, .int 0, .int 0, .int 0, .int 0, .null, .null, .null, .null, .null, .null, .null, .null, .null, .null, .null, .int 0, .int 0, .int 0, .null, .int 0, .null, .int 0])), (a1, .inl (gA (xG X), 4210, .inl fun _ => 0)), (a2, .inl (gA (xG X), 4210, .inl fun _ => 0)), (a3, .inl (gA (xG X), 4210, .inl fun _ => 0)), (a4, .inl (gA (xG X), 2, .inl fun _ => 0)), (a5, .inl (gA (xG X), 2, .inl fun _ => 0)), (a6, .inl (gA (xG X), 60, .inl fun _ => 0)), (a7, .inl (gA (xG X), 400, .inl fun _ => 0))]) rfl ?_
  refine b_aload C dX12_init_62 rfl (q := 0) rfl ?_
  refine b_bipush C dX12_init_63 (v := 96) (by decide) ?_
  refine b_newa (kc' := 13) (ks' := 12036) C (n := 96) dX12_init_65 ⟨by decide, by decide, by decide⟩ (Nat.le_of_ble_eq_true rfl) (Nat.le_of_ble_eq_true rfl) (fun a8 => ?_)
  refine b_putF C hin 0 (k := 8) kX12 dX12_init_67 rfl (by decide) fl_X12_31 rfl rfl rfl rfl (Nat.le_of_ble_eq_true rfl) (tl' := [(h, .inr (12, [.ref a1, .ref a2, .ref a3, .int 0, .ref a4, .ref a5, .ref a6, .ref a7, .ref a8, .int 0, .int 0, .int 0, .int 0, .int 0, .int 0, .int 0, .int 0, .int 0, .int 0, .int 0, .int 0, .null, .null, .null, .null, .null, .null, .null, .null, .null, .null, .null, .int 0, .int 0, .int 0, .null, .int 0, .null, .int 0])), (a1, .inl (gA (xG X), 4210, .inl fun _ => 0)), (a2, .inl (gA (xG X), 4210, .inl fun _ => 0)), (a3, .inl (gA (xG X), 4210, .inl fun _ => 0)), (a4, .inl (gA (xG X), 2, .inl fun _ => 0)), (a5, .inl (gA (xG X), 2, .inl fun _ => 0)), (a6, .inl (gA (xG X), 60, .inl fun _ => 0)), (a7, .inl (gA (xG X), 400, .inl fun _ => 0)), (a8, .inl (gA (xG X), 96, .inl fun _ => 0))]) rfl ?_
  refine b_aload C dX12_init_70 rfl (q := 0) rfl ?_
  refine b_iconst C dX12_init_71 (v := (-1)) rfl ?_
  refine b_put C 0 (k := 20) kX12 dX12_init_72 rfl (by decide) fl_X12_34 rfl rfl rfl (Nat.le_of_ble_eq_true rfl) (tl' := [(h, .inr (12, [.ref a1, .ref a2, .ref a3, .int 0, .ref a4, .ref a5, .ref a6, .ref a7, .ref a8, .int 0, .int 0, .int 0, .int 0, .int 0, .int 0, .int 0, .int 0, .int 0, .int 0, .int 0, .int (-1), .null, .null, .null, .null, .null, .null, .null, .null, .null, .null, .null, .int 0, .int 0, .int 0, .null, .int 0, .null, .int 0])), (a1, .inl (gA (xG X), 4210, .inl fun _ => 0)), (a2, .inl (gA (xG X), 4210, .inl fun _ => 0)), (a3, .inl (gA (xG X), 4210, .inl fun _ => 0)), (a4, .inl (gA (xG X), 2, .inl fun _ => 0)), (a5, .inl (gA (xG X), 2, .inl fun _ => 0)), (a6, .inl (gA (xG X), 60, .inl fun _ => 0)), (a7, .inl (gA (xG X), 400, .inl fun _ => 0)), (a8, .inl (gA (xG X), 96, .inl fun _ => 0))]) rfl ?_
  refine b_aload C dX12_init_75 rfl (q := 0) rfl ?_
  refine b_sipush C dX12_init_76 (v := 128) (by decide) ?_
  refine b_newa (kc' := 12) (ks' := 11908) C (n := 128) dX12_init_79 ⟨by decide, by decide, by decide⟩ (Nat.le_of_ble_eq_true rfl) (Nat.le_of_ble_eq_true rfl) (fun a9 => ?_)
  refine b_putF C hin 0 (k := 21) kX12 dX12_init_81 rfl (by decide) fl_X12_38 rfl rfl rfl rfl (Nat.le_of_ble_eq_true rfl) (tl' := [(h, .inr (12, [.ref a1, .ref a2, .ref a3, .int 0, .ref a4, .ref a5, .ref a6, .ref a7, .ref a8, .int 0, .int 0, .int 0, .int 0, .int 0, .int 0, .int 0, .int 0, .int 0, .int 0, .int 0, .int (-1), .ref a9, .null, .null, .null, .null, .null, .null, .null, .null, .null, .null, .int 0, .int 0, .int 0, .null, .int 0, .null, .int 0])), (a1, .inl (gA (xG X), 4210, .inl fun _ => 0)), (a2, .inl (gA (xG X), 4210, .inl fun _ => 0)), (a3, .inl (gA (xG X), 4210, .inl fun _ => 0)), (a4, .inl (gA (xG X), 2, .inl fun _ => 0)), (a5, .inl (gA (xG X), 2, .inl fun _ => 0)), (a6, .inl (gA (xG X), 60, .inl fun _ => 0)), (a7, .inl (gA (xG X), 400, .inl fun _ => 0)), (a8, .inl (gA (xG X), 96, .inl fun _ => 0)), (a9, .inl (gA (xG X), 128, .inl fun _ => 0))]) rfl ?_
  refine b_aload C dX12_init_84 rfl (q := 0) rfl ?_
  refine b_bipush C dX12_init_85 (v := 100) (by decide) ?_
  refine b_newa (kc' := 11) (ks' := 11808) C (n := 100) dX12_init_87 ⟨by decide, by decide, by decide⟩ (Nat.le_of_ble_eq_true rfl) (Nat.le_of_ble_eq_true rfl) (fun a10 => ?_)
  refine b_putF C hin 0 (k := 22) kX12 dX12_init_89 rfl (by decide) fl_X12_41 rfl rfl rfl rfl (Nat.le_of_ble_eq_true rfl) (tl' := [(h, .inr (12, [.ref a1, .ref a2, .ref a3, .int 0, .ref a4, .ref a5, .ref a6, .ref a7, .ref a8, .int 0, .int 0, .int 0, .int 0, .int 0, .int 0, .int 0, .int 0, .int 0, .int 0, .int 0, .int (-1), .ref a9, .ref a10, .null, .null, .null, .null, .null, .null, .null, .null, .null, .int 0, .int 0, .int 0, .null, .int 0, .null, .int 0])), (a1, .inl (gA (xG X), 4210, .inl fun _ => 0)), (a2, .inl (gA (xG X), 4210, .inl fun _ => 0)), (a3, .inl (gA (xG X), 4210, .inl fun _ => 0)), (a4, .inl (gA (xG X), 2, .inl fun _ => 0)), (a5, .inl (gA (xG X), 2, .inl fun _ => 0)), (a6, .inl (gA (xG X), 60, .inl fun _ => 0)), (a7, .inl (gA (xG X), 400, .inl fun _ => 0)), (a8, .inl (gA (xG X), 96, .inl fun _ => 0)), (a9, .inl (gA (xG X), 128, .inl fun _ => 0)), (a10, .inl (gA (xG X), 100, .inl fun _ => 0))]) rfl ?_
  refine b_aload C dX12_init_92 rfl (q := 0) rfl ?_
  refine b_sipush C dX12_init_93 (v := 324) (by decide) ?_
  refine b_newa (kc' := 10) (ks' := 11484) C (n := 324) dX12_init_96 ⟨by decide, by decide, by decide⟩ (Nat.le_of_ble_eq_true rfl) (Nat.le_of_ble_eq_true rfl) (fun a11 => ?_)
  refine b_putF C hin 0 (k := 23) kX12 dX12_init_98 rfl (by decide) fl_X12_44 rfl rfl rfl rfl (Nat.le_of_ble_eq_true rfl) (tl' := [(h, .inr (12, [.ref a1, .ref a2, .ref a3, .int 0, .ref a4, .ref a5, .ref a6, .ref a7, .ref a8, .int 0, .int 0, .int 0, .int 0, .int 0, .int 0, .int 0, .int 0, .int 0, .int 0, .int 0, .int (-1), .ref a9, .ref a10, .ref a11, .null, .null, .null, .null, .null, .null, .null, .null, .int 0, .int 0, .int 0, .null, .int 0, .null, .int 0])), (a1, .inl (gA (xG X), 4210, .inl fun _ => 0)), (a2, .inl (gA (xG X), 4210, .inl fun _ => 0)), (a3, .inl (gA (xG X), 4210, .inl fun _ => 0)), (a4, .inl (gA (xG X), 2, .inl fun _ => 0)), (a5, .inl (gA (xG X), 2, .inl fun _ => 0)), (a6, .inl (gA (xG X), 60, .inl fun _ => 0)), (a7, .inl (gA (xG X), 400, .inl fun _ => 0)), (a8, .inl (gA (xG X), 96, .inl fun _ => 0)), (a9, .inl (gA (xG X), 128, .inl fun _ => 0)), (a10, .inl (gA (xG X), 100, .inl fun _ => 0)), (a11, .inl (gA (xG X), 324, .inl fun _ => 0))]) rfl ?_
  refine b_aload C dX12_init_101 rfl (q := 0) rfl ?_
  refine b_bipush C dX12_init_102 (v := 18) (by decide) ?_
  refine b_newa (kc' := 9) (ks' := 11466) C (n := 18) dX12_init_104 ⟨by decide, by decide, by decide⟩ (Nat.le_of_ble_eq_true rfl) (Nat.le_of_ble_eq_true rfl) (fun a12 => ?_)
  refine b_putF C hin 0 (k := 24) kX12 dX12_init_106 rfl (by decide) fl_X12_47 rfl rfl rfl rfl (Nat.le_of_ble_eq_true rfl) (tl' := [(h, .inr (12, [.ref a1, .ref a2, .ref a3, .int 0, .ref a4, .ref a5, .ref a6, .ref a7, .ref a8, .int 0, .int 0, .int 0, .int 0, .int 0, .int 0, .int 0, .int 0, .int 0, .int 0, .int 0, .int (-1), .ref a9, .ref a10, .ref a11, .ref a12, .null, .null, .null, .null, .null, .null, .null, .int 0, .int 0, .int 0, .null, .int 0, .null, .int 0])), (a1, .inl (gA (xG X), 4210, .inl fun _ => 0)), (a2, .inl (gA (xG X), 4210, .inl fun _ => 0)), (a3, .inl (gA (xG X), 4210, .inl fun _ => 0)), (a4, .inl (gA (xG X), 2, .inl fun _ => 0)), (a5, .inl (gA (xG X), 2, .inl fun _ => 0)), (a6, .inl (gA (xG X), 60, .inl fun _ => 0)), (a7, .inl (gA (xG X), 400, .inl fun _ => 0)), (a8, .inl (gA (xG X), 96, .inl fun _ => 0)), (a9, .inl (gA (xG X), 128, .inl fun _ => 0)), (a10, .inl (gA (xG X), 100, .inl fun _ => 0)), (a11, .inl (gA (xG X), 324, .inl fun _ => 0)), (a12, .inl (gA (xG X), 18, .inl fun _ => 0))]) rfl ?_
  refine b_aload C dX12_init_109 rfl (q := 0) rfl ?_
  refine b_bipush C dX12_init_110 (v := 18) (by decide) ?_
  refine b_newa (kc' := 8) (ks' := 11448) C (n := 18) dX12_init_112 ⟨by decide, by decide, by decide⟩ (Nat.le_of_ble_eq_true rfl) (Nat.le_of_ble_eq_true rfl) (fun a13 => ?_)
  refine b_putF C hin 0 (k := 25) kX12 dX12_init_114 rfl (by decide) fl_X12_50 rfl rfl rfl rfl (Nat.le_of_ble_eq_true rfl) (tl' := [(h, .inr (12, [.ref a1, .ref a2, .ref a3, .int 0, .ref a4, .ref a5, .ref a6, .ref a7, .ref a8, .int 0, .int 0, .int 0, .int 0, .int 0, .int 0, .int 0, .int 0, .int 0, .int 0, .int 0, .int (-1), .ref a9, .ref a10, .ref a11, .ref a12, .ref a13, .null, .null, .null, .null, .null, .null, .int 0, .int 0, .int 0, .null, .int 0, .null, .int 0])), (a1, .inl (gA (xG X), 4210, .inl fun _ => 0)), (a2, .inl (gA (xG X), 4210, .inl fun _ => 0)), (a3, .inl (gA (xG X), 4210, .inl fun _ => 0)), (a4, .inl (gA (xG X), 2, .inl fun _ => 0)), (a5, .inl (gA (xG X), 2, .inl fun _ => 0)), (a6, .inl (gA (xG X), 60, .inl fun _ => 0)), (a7, .inl (gA (xG X), 400, .inl fun _ => 0)), (a8, .inl (gA (xG X), 96, .inl fun _ => 0)), (a9, .inl (gA (xG X), 128, .inl fun _ => 0)), (a10, .inl (gA (xG X), 100, .inl fun _ => 0)), (a11, .inl (gA (xG X), 324, .inl fun _ => 0)), (a12, .inl (gA (xG X), 18, .inl fun _ => 0)), (a13, .inl (gA (xG X), 18, .inl fun _ => 0))]) rfl ?_
  refine b_aload C dX12_init_117 rfl (q := 0) rfl ?_
  refine b_sipush C dX12_init_118 (v := 11264) (by decide) ?_
  refine b_newa (kc' := 7) (ks' := 184) C (n := 11264) dX12_init_121 ⟨by decide, by decide, by decide⟩ (Nat.le_of_ble_eq_true rfl) (Nat.le_of_ble_eq_true rfl) (fun a14 => ?_)
  refine b_putF C hin 0 (k := 26) kX12 dX12_init_123 rfl (by decide) fl_X12_53 rfl rfl rfl rfl (Nat.le_of_ble_eq_true rfl) (tl' := [(h, .inr (12, [.ref a1, .ref a2, .ref a3, .int 0, .ref a4, .ref a5, .ref a6, .ref a7, .ref a8, .int 0, .int 0, .int 0, .int 0, .int 0, .int 0, .int 0, .int 0, .int 0, .int 0, .int 0, .int (-1), .ref a9, .ref a10, .ref a11, .ref a12, .ref a13, .ref a14, .null, .null, .null, .null, .null, .int 0, .int 0, .int 0, .null, .int 0, .null, .int 0])), (a1, .inl (gA (xG X), 4210, .inl fun _ => 0)), (a2, .inl (gA (xG X), 4210, .inl fun _ => 0)), (a3, .inl (gA (xG X), 4210, .inl fun _ => 0)), (a4, .inl (gA (xG X), 2, .inl fun _ => 0)), (a5, .inl (gA (xG X), 2, .inl fun _ => 0)), (a6, .inl (gA (xG X), 60, .inl fun _ => 0)), (a7, .inl (gA (xG X), 400, .inl fun _ => 0)), (a8, .inl (gA (xG X), 96, .inl fun _ => 0)), (a9, .inl (gA (xG X), 128, .inl fun _ => 0)), (a10, .inl (gA (xG X), 100, .inl fun _ => 0)), (a11, .inl (gA (xG X), 324, .inl fun _ => 0)), (a12, .inl (gA (xG X), 18, .inl fun _ => 0)), (a13, .inl (gA (xG X), 18, .inl fun _ => 0)), (a14, .inl (gA (xG X), 11264, .inl fun _ => 0))]) rfl ?_
  refine b_aload C dX12_init_126 rfl (q := 0) rfl ?_
  refine b_bipush C dX12_init_127 (v := 10) (by decide) ?_
  refine b_newa (kc' := 6) (ks' := 174) C (n := 10) dX12_init_129 ⟨by decide, by decide, by decide⟩ (Nat.le_of_ble_eq_true rfl) (Nat.le_of_ble_eq_true rfl) (fun a15 => ?_)
  refine b_putF C hin 0 (k := 27) kX12 dX12_init_131 rfl (by decide) fl_X12_56 rfl rfl rfl rfl (Nat.le_of_ble_eq_true rfl) (tl' := [(h, .inr (12, [.ref a1, .ref a2, .ref a3, .int 0, .ref a4, .ref a5, .ref a6, .ref a7, .ref a8, .int 0, .int 0, .int 0, .int 0, .int 0, .int 0, .int 0, .int 0, .int 0, .int 0, .int 0, .int (-1), .ref a9, .ref a10, .ref a11, .ref a12, .ref a13, .ref a14, .ref a15, .null, .null, .null, .null, .int 0, .int 0, .int 0, .null, .int 0, .null, .int 0])), (a1, .inl (gA (xG X), 4210, .inl fun _ => 0)), (a2, .inl (gA (xG X), 4210, .inl fun _ => 0)), (a3, .inl (gA (xG X), 4210, .inl fun _ => 0)), (a4, .inl (gA (xG X), 2, .inl fun _ => 0)), (a5, .inl (gA (xG X), 2, .inl fun _ => 0)), (a6, .inl (gA (xG X), 60, .inl fun _ => 0)), (a7, .inl (gA (xG X), 400, .inl fun _ => 0)), (a8, .inl (gA (xG X), 96, .inl fun _ => 0)), (a9, .inl (gA (xG X), 128, .inl fun _ => 0)), (a10, .inl (gA (xG X), 100, .inl fun _ => 0)), (a11, .inl (gA (xG X), 324, .inl fun _ => 0)), (a12, .inl (gA (xG X), 18, .inl fun _ => 0)), (a13, .inl (gA (xG X), 18, .inl fun _ => 0)), (a14, .inl (gA (xG X), 11264, .inl fun _ => 0)), (a15, .inl (gA (xG X), 10, .inl fun _ => 0))]) rfl ?_
  refine b_aload C dX12_init_134 rfl (q := 0) rfl ?_
  refine b_bipush C dX12_init_135 (v := 30) (by decide) ?_
  refine b_newa (kc' := 5) (ks' := 144) C (n := 30) dX12_init_137 ⟨by decide, by decide, by decide⟩ (Nat.le_of_ble_eq_true rfl) (Nat.le_of_ble_eq_true rfl) (fun a16 => ?_)
  refine b_putF C hin 0 (k := 28) kX12 dX12_init_139 rfl (by decide) fl_X12_59 rfl rfl rfl rfl (Nat.le_of_ble_eq_true rfl) (tl' := [(h, .inr (12, [.ref a1, .ref a2, .ref a3, .int 0, .ref a4, .ref a5, .ref a6, .ref a7, .ref a8, .int 0, .int 0, .int 0, .int 0, .int 0, .int 0, .int 0, .int 0, .int 0, .int 0, .int 0, .int (-1), .ref a9, .ref a10, .ref a11, .ref a12, .ref a13, .ref a14, .ref a15, .ref a16, .null, .null, .null, .int 0, .int 0, .int 0, .null, .int 0, .null, .int 0])), (a1, .inl (gA (xG X), 4210, .inl fun _ => 0)), (a2, .inl (gA (xG X), 4210, .inl fun _ => 0)), (a3, .inl (gA (xG X), 4210, .inl fun _ => 0)), (a4, .inl (gA (xG X), 2, .inl fun _ => 0)), (a5, .inl (gA (xG X), 2, .inl fun _ => 0)), (a6, .inl (gA (xG X), 60, .inl fun _ => 0)), (a7, .inl (gA (xG X), 400, .inl fun _ => 0)), (a8, .inl (gA (xG X), 96, .inl fun _ => 0)), (a9, .inl (gA (xG X), 128, .inl fun _ => 0)), (a10, .inl (gA (xG X), 100, .inl fun _ => 0)), (a11, .inl (gA (xG X), 324, .inl fun _ => 0)), (a12, .inl (gA (xG X), 18, .inl fun _ => 0)), (a13, .inl (gA (xG X), 18, .inl fun _ => 0)), (a14, .inl (gA (xG X), 11264, .inl fun _ => 0)), (a15, .inl (gA (xG X), 10, .inl fun _ => 0)), (a16, .inl (gA (xG X), 30, .inl fun _ => 0))]) rfl ?_
  refine b_aload C dX12_init_142 rfl (q := 0) rfl ?_
  refine b_bipush C dX12_init_143 (v := 8) (by decide) ?_
  refine b_newa (kc' := 4) (ks' := 136) C (n := 8) dX12_init_145 ⟨by decide, by decide, by decide⟩ (Nat.le_of_ble_eq_true rfl) (Nat.le_of_ble_eq_true rfl) (fun a17 => ?_)
  refine b_putF C hin 0 (k := 29) kX12 dX12_init_147 rfl (by decide) fl_X12_62 rfl rfl rfl rfl (Nat.le_of_ble_eq_true rfl) (tl' := [(h, .inr (12, [.ref a1, .ref a2, .ref a3, .int 0, .ref a4, .ref a5, .ref a6, .ref a7, .ref a8, .int 0, .int 0, .int 0, .int 0, .int 0, .int 0, .int 0, .int 0, .int 0, .int 0, .int 0, .int (-1), .ref a9, .ref a10, .ref a11, .ref a12, .ref a13, .ref a14, .ref a15, .ref a16, .ref a17, .null, .null, .int 0, .int 0, .int 0, .null, .int 0, .null, .int 0])), (a1, .inl (gA (xG X), 4210, .inl fun _ => 0)), (a2, .inl (gA (xG X), 4210, .inl fun _ => 0)), (a3, .inl (gA (xG X), 4210, .inl fun _ => 0)), (a4, .inl (gA (xG X), 2, .inl fun _ => 0)), (a5, .inl (gA (xG X), 2, .inl fun _ => 0)), (a6, .inl (gA (xG X), 60, .inl fun _ => 0)), (a7, .inl (gA (xG X), 400, .inl fun _ => 0)), (a8, .inl (gA (xG X), 96, .inl fun _ => 0)), (a9, .inl (gA (xG X), 128, .inl fun _ => 0)), (a10, .inl (gA (xG X), 100, .inl fun _ => 0)), (a11, .inl (gA (xG X), 324, .inl fun _ => 0)), (a12, .inl (gA (xG X), 18, .inl fun _ => 0)), (a13, .inl (gA (xG X), 18, .inl fun _ => 0)), (a14, .inl (gA (xG X), 11264, .inl fun _ => 0)), (a15, .inl (gA (xG X), 10, .inl fun _ => 0)), (a16, .inl (gA (xG X), 30, .inl fun _ => 0)), (a17, .inl (gA (xG X), 8, .inl fun _ => 0))]) rfl ?_
  refine b_aload C dX12_init_150 rfl (q := 0) rfl ?_
  refine b_bipush C dX12_init_151 (v := 8) (by decide) ?_
  refine b_newa (kc' := 3) (ks' := 128) C (n := 8) dX12_init_153 ⟨by decide, by decide, by decide⟩ (Nat.le_of_ble_eq_true rfl) (Nat.le_of_ble_eq_true rfl) (fun a18 => ?_)
  refine b_putF C hin 0 (k := 30) kX12 dX12_init_155 rfl (by decide) fl_X12_65 rfl rfl rfl rfl (Nat.le_of_ble_eq_true rfl) (tl' := [(h, .inr (12, [.ref a1, .ref a2, .ref a3, .int 0, .ref a4, .ref a5, .ref a6, .ref a7, .ref a8, .int 0, .int 0, .int 0, .int 0, .int 0, .int 0, .int 0, .int 0, .int 0, .int 0, .int 0, .int (-1), .ref a9, .ref a10, .ref a11, .ref a12, .ref a13, .ref a14, .ref a15, .ref a16, .ref a17, .ref a18, .null, .int 0, .int 0, .int 0, .null, .int 0, .null, .int 0])), (a1, .inl (gA (xG X), 4210, .inl fun _ => 0)), (a2, .inl (gA (xG X), 4210, .inl fun _ => 0)), (a3, .inl (gA (xG X), 4210, .inl fun _ => 0)), (a4, .inl (gA (xG X), 2, .inl fun _ => 0)), (a5, .inl (gA (xG X), 2, .inl fun _ => 0)), (a6, .inl (gA (xG X), 60, .inl fun _ => 0)), (a7, .inl (gA (xG X), 400, .inl fun _ => 0)), (a8, .inl (gA (xG X), 96, .inl fun _ => 0)), (a9, .inl (gA (xG X), 128, .inl fun _ => 0)), (a10, .inl (gA (xG X), 100, .inl fun _ => 0)), (a11, .inl (gA (xG X), 324, .inl fun _ => 0)), (a12, .inl (gA (xG X), 18, .inl fun _ => 0)), (a13, .inl (gA (xG X), 18, .inl fun _ => 0)), (a14, .inl (gA (xG X), 11264, .inl fun _ => 0)), (a15, .inl (gA (xG X), 10, .inl fun _ => 0)), (a16, .inl (gA (xG X), 30, .inl fun _ => 0)), (a17, .inl (gA (xG X), 8, .inl fun _ => 0)), (a18, .inl (gA (xG X), 8, .inl fun _ => 0))]) rfl ?_
  refine b_aload C dX12_init_158 rfl (q := 0) rfl ?_
  refine b_bipush C dX12_init_159 (v := 8) (by decide) ?_
  refine b_newa (kc' := 2) (ks' := 120) C (n := 8) dX12_init_161 ⟨by decide, by decide, by decide⟩ (Nat.le_of_ble_eq_true rfl) (Nat.le_of_ble_eq_true rfl) (fun a19 => ?_)
  refine b_putF C hin 0 (k := 31) kX12 dX12_init_163 rfl (by decide) fl_X12_68 rfl rfl rfl rfl (Nat.le_of_ble_eq_true rfl) (tl' := [(h, .inr (12, [.ref a1, .ref a2, .ref a3, .int 0, .ref a4, .ref a5, .ref a6, .ref a7, .ref a8, .int 0, .int 0, .int 0, .int 0, .int 0, .int 0, .int 0, .int 0, .int 0, .int 0, .int 0, .int (-1), .ref a9, .ref a10, .ref a11, .ref a12, .ref a13, .ref a14, .ref a15, .ref a16, .ref a17, .ref a18, .ref a19, .int 0, .int 0, .int 0, .null, .int 0, .null, .int 0])), (a1, .inl (gA (xG X), 4210, .inl fun _ => 0)), (a2, .inl (gA (xG X), 4210, .inl fun _ => 0)), (a3, .inl (gA (xG X), 4210, .inl fun _ => 0)), (a4, .inl (gA (xG X), 2, .inl fun _ => 0)), (a5, .inl (gA (xG X), 2, .inl fun _ => 0)), (a6, .inl (gA (xG X), 60, .inl fun _ => 0)), (a7, .inl (gA (xG X), 400, .inl fun _ => 0)), (a8, .inl (gA (xG X), 96, .inl fun _ => 0)), (a9, .inl (gA (xG X), 128, .inl fun _ => 0)), (a10, .inl (gA (xG X), 100, .inl fun _ => 0)), (a11, .inl (gA (xG X), 324, .inl fun _ => 0)), (a12, .inl (gA (xG X), 18, .inl fun _ => 0)), (a13, .inl (gA (xG X), 18, .inl fun _ => 0)), (a14, .inl (gA (xG X), 11264, .inl fun _ => 0)), (a15, .inl (gA (xG X), 10, .inl fun _ => 0)), (a16, .inl (gA (xG X), 30, .inl fun _ => 0)), (a17, .inl (gA (xG X), 8, .inl fun _ => 0)), (a18, .inl (gA (xG X), 8, .inl fun _ => 0)), (a19, .inl (gA (xG X), 8, .inl fun _ => 0))]) rfl ?_
  refine b_aload C dX12_init_166 rfl (q := 0) rfl ?_
  refine b_bipush C dX12_init_167 (v := 60) (by decide) ?_
  refine b_newa (kc' := 1) (ks' := 60) C (n := 60) dX12_init_169 ⟨by decide, by decide, by decide⟩ (Nat.le_of_ble_eq_true rfl) (Nat.le_of_ble_eq_true rfl) (fun a20 => ?_)
  refine b_putF C hin 0 (k := 35) kX12 dX12_init_171 rfl (by decide) fl_X12_71 rfl rfl rfl rfl (Nat.le_of_ble_eq_true rfl) (tl' := [(h, .inr (12, [.ref a1, .ref a2, .ref a3, .int 0, .ref a4, .ref a5, .ref a6, .ref a7, .ref a8, .int 0, .int 0, .int 0, .int 0, .int 0, .int 0, .int 0, .int 0, .int 0, .int 0, .int 0, .int (-1), .ref a9, .ref a10, .ref a11, .ref a12, .ref a13, .ref a14, .ref a15, .ref a16, .ref a17, .ref a18, .ref a19, .int 0, .int 0, .int 0, .ref a20, .int 0, .null, .int 0])), (a1, .inl (gA (xG X), 4210, .inl fun _ => 0)), (a2, .inl (gA (xG X), 4210, .inl fun _ => 0)), (a3, .inl (gA (xG X), 4210, .inl fun _ => 0)), (a4, .inl (gA (xG X), 2, .inl fun _ => 0)), (a5, .inl (gA (xG X), 2, .inl fun _ => 0)), (a6, .inl (gA (xG X), 60, .inl fun _ => 0)), (a7, .inl (gA (xG X), 400, .inl fun _ => 0)), (a8, .inl (gA (xG X), 96, .inl fun _ => 0)), (a9, .inl (gA (xG X), 128, .inl fun _ => 0)), (a10, .inl (gA (xG X), 100, .inl fun _ => 0)), (a11, .inl (gA (xG X), 324, .inl fun _ => 0)), (a12, .inl (gA (xG X), 18, .inl fun _ => 0)), (a13, .inl (gA (xG X), 18, .inl fun _ => 0)), (a14, .inl (gA (xG X), 11264, .inl fun _ => 0)), (a15, .inl (gA (xG X), 10, .inl fun _ => 0)), (a16, .inl (gA (xG X), 30, .inl fun _ => 0)), (a17, .inl (gA (xG X), 8, .inl fun _ => 0)), (a18, .inl (gA (xG X), 8, .inl fun _ => 0)), (a19, .inl (gA (xG X), 8, .inl fun _ => 0)), (a20, .inl (gA (xG X), 60, .inl fun _ => 0))]) rfl ?_
  refine b_aload C dX12_init_174 rfl (q := 0) rfl ?_
  refine b_bipush C dX12_init_175 (v := 60) (by decide) ?_
  refine b_newa (kc' := 0) (ks' := 0) C (n := 60) dX12_init_177 ⟨by decide, by decide, by decide⟩ (Nat.le_of_ble_eq_true rfl) (Nat.le_of_ble_eq_true rfl) (fun a21 => ?_)
  refine b_putF C hin 0 (k := 37) kX12 dX12_init_179 rfl (by decide) fl_X12_74 rfl rfl rfl rfl (Nat.le_of_ble_eq_true rfl) (tl' := [(h, .inr (12, [.ref a1, .ref a2, .ref a3, .int 0, .ref a4, .ref a5, .ref a6, .ref a7, .ref a8, .int 0, .int 0, .int 0, .int 0, .int 0, .int 0, .int 0, .int 0, .int 0, .int 0, .int 0, .int (-1), .ref a9, .ref a10, .ref a11, .ref a12, .ref a13, .ref a14, .ref a15, .ref a16, .ref a17, .ref a18, .ref a19, .int 0, .int 0, .int 0, .ref a20, .int 0, .ref a21, .int 0])), (a1, .inl (gA (xG X), 4210, .inl fun _ => 0)), (a2, .inl (gA (xG X), 4210, .inl fun _ => 0)), (a3, .inl (gA (xG X), 4210, .inl fun _ => 0)), (a4, .inl (gA (xG X), 2, .inl fun _ => 0)), (a5, .inl (gA (xG X), 2, .inl fun _ => 0)), (a6, .inl (gA (xG X), 60, .inl fun _ => 0)), (a7, .inl (gA (xG X), 400, .inl fun _ => 0)), (a8, .inl (gA (xG X), 96, .inl fun _ => 0)), (a9, .inl (gA (xG X), 128, .inl fun _ => 0)), (a10, .inl (gA (xG X), 100, .inl fun _ => 0)), (a11, .inl (gA (xG X), 324, .inl fun _ => 0)), (a12, .inl (gA (xG X), 18, .inl fun _ => 0)), (a13, .inl (gA (xG X), 18, .inl fun _ => 0)), (a14, .inl (gA (xG X), 11264, .inl fun _ => 0)), (a15, .inl (gA (xG X), 10, .inl fun _ => 0)), (a16, .inl (gA (xG X), 30, .inl fun _ => 0)), (a17, .inl (gA (xG X), 8, .inl fun _ => 0)), (a18, .inl (gA (xG X), 8, .inl fun _ => 0)), (a19, .inl (gA (xG X), 8, .inl fun _ => 0)), (a20, .inl (gA (xG X), 60, .inl fun _ => 0)), (a21, .inl (gA (xG X), 60, .inl fun _ => 0))]) rfl ?_
  refine b_aload C dX12_init_182 rfl (q := 0) rfl ?_
  refine b_get C 0 (k := 0) kX12 dX12_init_183 rfl (by decide) fl_X12_7 rfl ?_
  refine b_bipush C dX12_init_186 (v := 11) (by decide) ?_
  refine b_bipush C dX12_init_188 (v := 10) (by decide) ?_
  refine b_iast C 1 dX12_init_190 rfl (by unfold vp_in; decide) (tl' := [(h, .inr (12, [.ref a1, .ref a2, .ref a3, .int 0, .ref a4, .ref a5, .ref a6, .ref a7, .ref a8, .int 0, .int 0, .int 0, .int 0, .int 0, .int 0, .int 0, .int 0, .int 0, .int 0, .int 0, .int (-1), .ref a9, .ref a10, .ref a11, .ref a12, .ref a13, .ref a14, .ref a15, .ref a16, .ref a17, .ref a18, .ref a19, .int 0, .int 0, .int 0, .ref a20, .int 0, .ref a21, .int 0])), (a1, .inl (gA (xG X), 4210, .inl (upd (fun _ => 0) 11 10))), (a2, .inl (gA (xG X), 4210, .inl fun _ => 0)), (a3, .inl (gA (xG X), 4210, .inl fun _ => 0)), (a4, .inl (gA (xG X), 2, .inl fun _ => 0)), (a5, .inl (gA (xG X), 2, .inl fun _ => 0)), (a6, .inl (gA (xG X), 60, .inl fun _ => 0)), (a7, .inl (gA (xG X), 400, .inl fun _ => 0)), (a8, .inl (gA (xG X), 96, .inl fun _ => 0)), (a9, .inl (gA (xG X), 128, .inl fun _ => 0)), (a10, .inl (gA (xG X), 100, .inl fun _ => 0)), (a11, .inl (gA (xG X), 324, .inl fun _ => 0)), (a12, .inl (gA (xG X), 18, .inl fun _ => 0)), (a13, .inl (gA (xG X), 18, .inl fun _ => 0)), (a14, .inl (gA (xG X), 11264, .inl fun _ => 0)), (a15, .inl (gA (xG X), 10, .inl fun _ => 0)), (a16, .inl (gA (xG X), 30, .inl fun _ => 0)), (a17, .inl (gA (xG X), 8, .inl fun _ => 0)), (a18, .inl (gA (xG X), 8, .inl fun _ => 0)), (a19, .inl (gA (xG X), 8, .inl fun _ => 0)), (a20, .inl (gA (xG X), 60, .inl fun _ => 0)), (a21, .inl (gA (xG X), 60, .inl fun _ => 0))]) rfl ?_
  refine b_iconst C dX12_init_191 (v := 0) rfl ?_
  refine b_istore C dX12_init_192 rfl (by rw [hN]; decide) (L' := [(1, .int 0), (0, .ref h)]) rfl ?_
  refine b_iload C dX12_init_193 rfl (q := 0) rfl ?_
  refine b_iconst C dX12_init_194 (v := 2) rfl ?_
  refine b_ge_f (tgt := 221) C dX12_init_195 (by decide) (by decide) ?_
  refine b_aload C dX12_init_198 rfl (q := 1) rfl ?_
  refine b_get C 0 (k := 0) kX12 dX12_init_199 rfl (by decide) fl_X12_7 rfl ?_
  refine b_bipush C dX12_init_202 (v := 13) (by decide) ?_
  refine b_iload C dX12_init_204 rfl (q := 0) rfl ?_
  refine b_iadd C dX12_init_205 (z := 13) (by decide) ?_
  refine b_iconst C dX12_init_206 (v := (-1)) rfl ?_
  refine b_iast C 1 dX12_init_207 rfl (by unfold vp_in; decide) (tl' := [(h, .inr (12, [.ref a1, .ref a2, .ref a3, .int 0, .ref a4, .ref a5, .ref a6, .ref a7, .ref a8, .int 0, .int 0, .int 0, .int 0, .int 0, .int 0, .int 0, .int 0, .int 0, .int 0, .int 0, .int (-1), .ref a9, .ref a10, .ref a11, .ref a12, .ref a13, .ref a14, .ref a15, .ref a16, .ref a17, .ref a18, .ref a19, .int 0, .int 0, .int 0, .ref a20, .int 0, .ref a21, .int 0])), (a1, .inl (gA (xG X), 4210, .inl (upd (upd (fun _ => 0) 11 10) 13 (-1)))), (a2, .inl (gA (xG X), 4210, .inl fun _ => 0)), (a3, .inl (gA (xG X), 4210, .inl fun _ => 0)), (a4, .inl (gA (xG X), 2, .inl fun _ => 0)), (a5, .inl (gA (xG X), 2, .inl fun _ => 0)), (a6, .inl (gA (xG X), 60, .inl fun _ => 0)), (a7, .inl (gA (xG X), 400, .inl fun _ => 0)), (a8, .inl (gA (xG X), 96, .inl fun _ => 0)), (a9, .inl (gA (xG X), 128, .inl fun _ => 0)), (a10, .inl (gA (xG X), 100, .inl fun _ => 0)), (a11, .inl (gA (xG X), 324, .inl fun _ => 0)), (a12, .inl (gA (xG X), 18, .inl fun _ => 0)), (a13, .inl (gA (xG X), 18, .inl fun _ => 0)), (a14, .inl (gA (xG X), 11264, .inl fun _ => 0)), (a15, .inl (gA (xG X), 10, .inl fun _ => 0)), (a16, .inl (gA (xG X), 30, .inl fun _ => 0)), (a17, .inl (gA (xG X), 8, .inl fun _ => 0)), (a18, .inl (gA (xG X), 8, .inl fun _ => 0)), (a19, .inl (gA (xG X), 8, .inl fun _ => 0)), (a20, .inl (gA (xG X), 60, .inl fun _ => 0)), (a21, .inl (gA (xG X), 60, .inl fun _ => 0))]) rfl ?_
  refine b_aload C dX12_init_208 rfl (q := 1) rfl ?_
  refine b_get C 0 (k := 4) kX12 dX12_init_209 rfl (by decide) fl_X12_19 rfl ?_
  refine b_iload C dX12_init_212 rfl (q := 0) rfl ?_
  refine b_iconst C dX12_init_213 (v := (-1)) rfl ?_
  refine b_iast C 4 dX12_init_214 rfl (by unfold vp_in; decide) (tl' := [(h, .inr (12, [.ref a1, .ref a2, .ref a3, .int 0, .ref a4, .ref a5, .ref a6, .ref a7, .ref a8, .int 0, .int 0, .int 0, .int 0, .int 0, .int 0, .int 0, .int 0, .int 0, .int 0, .int 0, .int (-1), .ref a9, .ref a10, .ref a11, .ref a12, .ref a13, .ref a14, .ref a15, .ref a16, .ref a17, .ref a18, .ref a19, .int 0, .int 0, .int 0, .ref a20, .int 0, .ref a21, .int 0])), (a1, .inl (gA (xG X), 4210, .inl (upd (upd (fun _ => 0) 11 10) 13 (-1)))), (a2, .inl (gA (xG X), 4210, .inl fun _ => 0)), (a3, .inl (gA (xG X), 4210, .inl fun _ => 0)), (a4, .inl (gA (xG X), 2, .inl (upd (fun _ => 0) 0 (-1)))), (a5, .inl (gA (xG X), 2, .inl fun _ => 0)), (a6, .inl (gA (xG X), 60, .inl fun _ => 0)), (a7, .inl (gA (xG X), 400, .inl fun _ => 0)), (a8, .inl (gA (xG X), 96, .inl fun _ => 0)), (a9, .inl (gA (xG X), 128, .inl fun _ => 0)), (a10, .inl (gA (xG X), 100, .inl fun _ => 0)), (a11, .inl (gA (xG X), 324, .inl fun _ => 0)), (a12, .inl (gA (xG X), 18, .inl fun _ => 0)), (a13, .inl (gA (xG X), 18, .inl fun _ => 0)), (a14, .inl (gA (xG X), 11264, .inl fun _ => 0)), (a15, .inl (gA (xG X), 10, .inl fun _ => 0)), (a16, .inl (gA (xG X), 30, .inl fun _ => 0)), (a17, .inl (gA (xG X), 8, .inl fun _ => 0)), (a18, .inl (gA (xG X), 8, .inl fun _ => 0)), (a19, .inl (gA (xG X), 8, .inl fun _ => 0)), (a20, .inl (gA (xG X), 60, .inl fun _ => 0)), (a21, .inl (gA (xG X), 60, .inl fun _ => 0))]) rfl ?_
  refine b_iinc C dX12_init_215 (q := 0) rfl (v := 1) (by decide) (by rw [hN]; decide) (L' := [(1, .int 1), (0, .ref h)]) rfl ?_
  refine b_goto (tgt := 193) C dX12_init_218 (by decide) ?_
  refine b_iload C dX12_init_193 rfl (q := 0) rfl ?_
  refine b_iconst C dX12_init_194 (v := 2) rfl ?_
  refine b_ge_f (tgt := 221) C dX12_init_195 (by decide) (by decide) ?_
  refine b_aload C dX12_init_198 rfl (q := 1) rfl ?_
  refine b_get C 0 (k := 0) kX12 dX12_init_199 rfl (by decide) fl_X12_7 rfl ?_
  refine b_bipush C dX12_init_202 (v := 13) (by decide) ?_
  refine b_iload C dX12_init_204 rfl (q := 0) rfl ?_
  refine b_iadd C dX12_init_205 (z := 14) (by decide) ?_
  refine b_iconst C dX12_init_206 (v := (-1)) rfl ?_
  refine b_iast C 1 dX12_init_207 rfl (by unfold vp_in; decide) (tl' := [(h, .inr (12, [.ref a1, .ref a2, .ref a3, .int 0, .ref a4, .ref a5, .ref a6, .ref a7, .ref a8, .int 0, .int 0, .int 0, .int 0, .int 0, .int 0, .int 0, .int 0, .int 0, .int 0, .int 0, .int (-1), .ref a9, .ref a10, .ref a11, .ref a12, .ref a13, .ref a14, .ref a15, .ref a16, .ref a17, .ref a18, .ref a19, .int 0, .int 0, .int 0, .ref a20, .int 0, .ref a21, .int 0])), (a1, .inl (gA (xG X), 4210, .inl (upd (upd (upd (fun _ => 0) 11 10) 13 (-1)) 14 (-1)))), (a2, .inl (gA (xG X), 4210, .inl fun _ => 0)), (a3, .inl (gA (xG X), 4210, .inl fun _ => 0)), (a4, .inl (gA (xG X), 2, .inl (upd (fun _ => 0) 0 (-1)))), (a5, .inl (gA (xG X), 2, .inl fun _ => 0)), (a6, .inl (gA (xG X), 60, .inl fun _ => 0)), (a7, .inl (gA (xG X), 400, .inl fun _ => 0)), (a8, .inl (gA (xG X), 96, .inl fun _ => 0)), (a9, .inl (gA (xG X), 128, .inl fun _ => 0)), (a10, .inl (gA (xG X), 100, .inl fun _ => 0)), (a11, .inl (gA (xG X), 324, .inl fun _ => 0)), (a12, .inl (gA (xG X), 18, .inl fun _ => 0)), (a13, .inl (gA (xG X), 18, .inl fun _ => 0)), (a14, .inl (gA (xG X), 11264, .inl fun _ => 0)), (a15, .inl (gA (xG X), 10, .inl fun _ => 0)), (a16, .inl (gA (xG X), 30, .inl fun _ => 0)), (a17, .inl (gA (xG X), 8, .inl fun _ => 0)), (a18, .inl (gA (xG X), 8, .inl fun _ => 0)), (a19, .inl (gA (xG X), 8, .inl fun _ => 0)), (a20, .inl (gA (xG X), 60, .inl fun _ => 0)), (a21, .inl (gA (xG X), 60, .inl fun _ => 0))]) rfl ?_
  refine b_aload C dX12_init_208 rfl (q := 1) rfl ?_
  refine b_get C 0 (k := 4) kX12 dX12_init_209 rfl (by decide) fl_X12_19 rfl ?_
  refine b_iload C dX12_init_212 rfl (q := 0) rfl ?_
  refine b_iconst C dX12_init_213 (v := (-1)) rfl ?_
  refine b_iast C 4 dX12_init_214 rfl (by unfold vp_in; decide) (tl' := [(h, .inr (12, [.ref a1, .ref a2, .ref a3, .int 0, .ref a4, .ref a5, .ref a6, .ref a7, .ref a8, .int 0, .int 0, .int 0, .int 0, .int 0, .int 0, .int 0, .int 0, .int 0, .int 0, .int 0, .int (-1), .ref a9, .ref a10, .ref a11, .ref a12, .ref a13, .ref a14, .ref a15, .ref a16, .ref a17, .ref a18, .ref a19, .int 0, .int 0, .int 0, .ref a20, .int 0, .ref a21, .int 0])), (a1, .inl (gA (xG X), 4210, .inl (upd (upd (upd (fun _ => 0) 11 10) 13 (-1)) 14 (-1)))), (a2, .inl (gA (xG X), 4210, .inl fun _ => 0)), (a3, .inl (gA (xG X), 4210, .inl fun _ => 0)), (a4, .inl (gA (xG X), 2, .inl (upd (upd (fun _ => 0) 0 (-1)) 1 (-1)))), (a5, .inl (gA (xG X), 2, .inl fun _ => 0)), (a6, .inl (gA (xG X), 60, .inl fun _ => 0)), (a7, .inl (gA (xG X), 400, .inl fun _ => 0)), (a8, .inl (gA (xG X), 96, .inl fun _ => 0)), (a9, .inl (gA (xG X), 128, .inl fun _ => 0)), (a10, .inl (gA (xG X), 100, .inl fun _ => 0)), (a11, .inl (gA (xG X), 324, .inl fun _ => 0)), (a12, .inl (gA (xG X), 18, .inl fun _ => 0)), (a13, .inl (gA (xG X), 18, .inl fun _ => 0)), (a14, .inl (gA (xG X), 11264, .inl fun _ => 0)), (a15, .inl (gA (xG X), 10, .inl fun _ => 0)), (a16, .inl (gA (xG X), 30, .inl fun _ => 0)), (a17, .inl (gA (xG X), 8, .inl fun _ => 0)), (a18, .inl (gA (xG X), 8, .inl fun _ => 0)), (a19, .inl (gA (xG X), 8, .inl fun _ => 0)), (a20, .inl (gA (xG X), 60, .inl fun _ => 0)), (a21, .inl (gA (xG X), 60, .inl fun _ => 0))]) rfl ?_
  refine b_iinc C dX12_init_215 (q := 0) rfl (v := 2) (by decide) (by rw [hN]; decide) (L' := [(1, .int 2), (0, .ref h)]) rfl ?_
  refine b_goto (tgt := 193) C dX12_init_218 (by decide) ?_
  refine b_iload C dX12_init_193 rfl (q := 0) rfl ?_
  refine b_iconst C dX12_init_194 (v := 2) rfl ?_
  refine b_ge_t (tgt := 221) C dX12_init_195 (by decide) (by decide) ?_
  subst hG
  exact b_ret C rfl hR hq (fun i => [a1, a2, a3, a4, a5, a6, a7, a8, a9, a10, a11, a12, a13, a14, a15, a16, a17, a18, a19, a20, a21].getD i 0) rfl dX12_init_221
