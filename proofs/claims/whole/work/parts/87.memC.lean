/-! the class's constructor -/
set_option maxHeartbeats 4000000
set_option maxRecDepth 100000
def lmc_0 : List (Nat × Cond) := [(98, Cond.methodLink "EveryoneWins" 1 Lib.objectInit), (101, Cond.classLink "EveryoneWins" 7 "EveryoneWins$Children"), (102, Cond.instantiable "EveryoneWins$Children" 4), (129, Cond.classLink "EveryoneWins" 16 "EveryoneWins$Races"), (130, Cond.instantiable "EveryoneWins$Races" 5), (162, Cond.classLink "EveryoneWins" 23 "EveryoneWins$Texts"), (163, Cond.instantiable "EveryoneWins$Texts" 3), (164, Cond.methodLink "EveryoneWins" 25 yX10_init), (203, Cond.classLink "EveryoneWins" 30 "EveryoneWins$Tape"), (204, Cond.instantiable "EveryoneWins$Tape" 5), (226, Cond.classLink "EveryoneWins" 37 "EveryoneWins$Reader"), (227, Cond.instantiable "EveryoneWins$Reader" 5), (228, Cond.methodLink "EveryoneWins" 39 yX6_init), (248, Cond.classLink "EveryoneWins" 46 "EveryoneWins$Day"), (249, Cond.instantiable "EveryoneWins$Day" 12), (250, Cond.methodLink "EveryoneWins" 48 yX2_init), (302, Cond.classLink "EveryoneWins" 55 "EveryoneWins$Best"), (303, Cond.instantiable "EveryoneWins$Best" 3), (318, Cond.classLink "EveryoneWins" 62 "EveryoneWins$Orders"), (319, Cond.instantiable "EveryoneWins$Orders" 5), (320, Cond.methodLink "EveryoneWins" 64 yX4_init), (342, Cond.classLink "EveryoneWins" 71 "EveryoneWins$Sheet"), (344, Cond.instantiable "EveryoneWins$Sheet" 3), (363, Cond.methodLink "EveryoneWins" 90 yJ0_length_8abf5), (373, Cond.methodLink "EveryoneWins" 96 yJ0_charAt_5068e)]
theorem mc_0 : okw lmc_0 = true := by decide +kernel
theorem wd_98 : Cond.methodLink "EveryoneWins" 1 Lib.objectInit ∈ gtbl := okw_at mc_0 0 rfl
theorem wd_101 : Cond.classLink "EveryoneWins" 7 "EveryoneWins$Children" ∈ gtbl := okw_at mc_0 1 rfl
theorem wd_102 : Cond.instantiable "EveryoneWins$Children" 4 ∈ gtbl := okw_at mc_0 2 rfl
theorem wd_129 : Cond.classLink "EveryoneWins" 16 "EveryoneWins$Races" ∈ gtbl := okw_at mc_0 3 rfl
theorem wd_130 : Cond.instantiable "EveryoneWins$Races" 5 ∈ gtbl := okw_at mc_0 4 rfl
theorem wd_162 : Cond.classLink "EveryoneWins" 23 "EveryoneWins$Texts" ∈ gtbl := okw_at mc_0 5 rfl
theorem wd_163 : Cond.instantiable "EveryoneWins$Texts" 3 ∈ gtbl := okw_at mc_0 6 rfl
theorem wd_164 : Cond.methodLink "EveryoneWins" 25 yX10_init ∈ gtbl := okw_at mc_0 7 rfl
theorem wd_203 : Cond.classLink "EveryoneWins" 30 "EveryoneWins$Tape" ∈ gtbl := okw_at mc_0 8 rfl
theorem wd_204 : Cond.instantiable "EveryoneWins$Tape" 5 ∈ gtbl := okw_at mc_0 9 rfl
theorem wd_226 : Cond.classLink "EveryoneWins" 37 "EveryoneWins$Reader" ∈ gtbl := okw_at mc_0 10 rfl
theorem wd_227 : Cond.instantiable "EveryoneWins$Reader" 5 ∈ gtbl := okw_at mc_0 11 rfl
theorem wd_228 : Cond.methodLink "EveryoneWins" 39 yX6_init ∈ gtbl := okw_at mc_0 12 rfl
theorem wd_248 : Cond.classLink "EveryoneWins" 46 "EveryoneWins$Day" ∈ gtbl := okw_at mc_0 13 rfl
theorem wd_249 : Cond.instantiable "EveryoneWins$Day" 12 ∈ gtbl := okw_at mc_0 14 rfl
theorem wd_250 : Cond.methodLink "EveryoneWins" 48 yX2_init ∈ gtbl := okw_at mc_0 15 rfl
theorem wd_302 : Cond.classLink "EveryoneWins" 55 "EveryoneWins$Best" ∈ gtbl := okw_at mc_0 16 rfl
theorem wd_303 : Cond.instantiable "EveryoneWins$Best" 3 ∈ gtbl := okw_at mc_0 17 rfl
theorem wd_318 : Cond.classLink "EveryoneWins" 62 "EveryoneWins$Orders" ∈ gtbl := okw_at mc_0 18 rfl
theorem wd_319 : Cond.instantiable "EveryoneWins$Orders" 5 ∈ gtbl := okw_at mc_0 19 rfl
theorem wd_320 : Cond.methodLink "EveryoneWins" 64 yX4_init ∈ gtbl := okw_at mc_0 20 rfl
theorem wd_342 : Cond.classLink "EveryoneWins" 71 "EveryoneWins$Sheet" ∈ gtbl := okw_at mc_0 21 rfl
theorem wd_344 : Cond.instantiable "EveryoneWins$Sheet" 3 ∈ gtbl := okw_at mc_0 22 rfl
theorem wd_363 : Cond.methodLink "EveryoneWins" 90 yJ0_length_8abf5 ∈ gtbl := okw_at mc_0 23 rfl
theorem wd_373 : Cond.methodLink "EveryoneWins" 96 yJ0_charAt_5068e ∈ gtbl := okw_at mc_0 24 rfl
theorem wn_103 : ("EveryoneWins", 9, yX1_init, "EveryoneWins") ∈ nestL := nest_of (k := 103) (by decide +kernel)
theorem wn_131 : ("EveryoneWins", 18, yX5_init, "EveryoneWins") ∈ nestL := nest_of (k := 131) (by decide +kernel)
theorem wn_205 : ("EveryoneWins", 32, yX8_init, "EveryoneWins") ∈ nestL := nest_of (k := 205) (by decide +kernel)
theorem wn_304 : ("EveryoneWins", 57, yX0_init, "EveryoneWins") ∈ nestL := nest_of (k := 304) (by decide +kernel)
theorem wn_345 : ("EveryoneWins", 87, yX7_init, "EveryoneWins") ∈ nestL := nest_of (k := 345) (by decide +kernel)
def lmX11_init_0 : List (Nat × Instr × Nat) := [(0, .aload_n 0, 1), (1, .invokespecial 1, 3), (4, .aload_n 0, 1), (5, .new 7, 3), (8, .dup, 1), (9, .invokespecial 9, 3), (12, .putfield 10, 3), (15, .aload_n 0, 1), (16, .new 16, 3), (19, .dup, 1), (20, .invokespecial 18, 3), (23, .putfield 19, 3), (26, .aload_n 0, 1), (27, .new 23, 3), (30, .dup, 1), (31, .invokespecial 25, 3), (34, .putfield 26, 3), (37, .aload_n 0, 1), (38, .new 30, 3), (41, .dup, 1), (42, .invokespecial 32, 3), (45, .putfield 33, 3), (48, .aload_n 0, 1), (49, .new 37, 3), (52, .dup, 1), (53, .aload_n 0, 1), (54, .getfield 33, 3), (57, .invokespecial 39, 3), (60, .putfield 42, 3), (63, .aload_n 0, 1), (64, .new 46, 3), (67, .dup, 1), (68, .aload_n 0, 1), (69, .getfield 10, 3), (72, .aload_n 0, 1), (73, .getfield 19, 3), (76, .aload_n 0, 1), (77, .getfield 26, 3), (80, .invokespecial 48, 3), (83, .putfield 51, 3), (86, .aload_n 0, 1), (87, .new 55, 3), (90, .dup, 1), (91, .invokespecial 57, 3), (94, .putfield 58, 3), (97, .aload_n 0, 1), (98, .new 62, 3), (101, .dup, 1), (102, .aload_n 0, 1), (103, .getfield 19, 3), (106, .aload_n 0, 1), (107, .getfield 51, 3), (110, .invokespecial 64, 3), (113, .putfield 67, 3), (116, .aload_n 0, 1), (117, .iconst 4, 1), (118, .anewarray 71, 3), (121, .putfield 73, 3), (124, .aload_n 0, 1), (125, .bipush 8, 2)]
theorem mX11_init_0 : okd cX11_init lmX11_init_0 = true := by decide +kernel
theorem dX11_init_0 : decode cX11_init 0 = .ok (.aload_n 0, 1) := okd_at mX11_init_0 0 rfl
theorem dX11_init_1 : decode cX11_init 1 = .ok (.invokespecial 1, 3) := okd_at mX11_init_0 1 rfl
theorem dX11_init_4 : decode cX11_init 4 = .ok (.aload_n 0, 1) := okd_at mX11_init_0 2 rfl
theorem dX11_init_5 : decode cX11_init 5 = .ok (.new 7, 3) := okd_at mX11_init_0 3 rfl
theorem dX11_init_8 : decode cX11_init 8 = .ok (.dup, 1) := okd_at mX11_init_0 4 rfl
theorem dX11_init_9 : decode cX11_init 9 = .ok (.invokespecial 9, 3) := okd_at mX11_init_0 5 rfl
theorem dX11_init_12 : decode cX11_init 12 = .ok (.putfield 10, 3) := okd_at mX11_init_0 6 rfl
theorem dX11_init_15 : decode cX11_init 15 = .ok (.aload_n 0, 1) := okd_at mX11_init_0 7 rfl
theorem dX11_init_16 : decode cX11_init 16 = .ok (.new 16, 3) := okd_at mX11_init_0 8 rfl
theorem dX11_init_19 : decode cX11_init 19 = .ok (.dup, 1) := okd_at mX11_init_0 9 rfl
theorem dX11_init_20 : decode cX11_init 20 = .ok (.invokespecial 18, 3) := okd_at mX11_init_0 10 rfl
theorem dX11_init_23 : decode cX11_init 23 = .ok (.putfield 19, 3) := okd_at mX11_init_0 11 rfl
theorem dX11_init_26 : decode cX11_init 26 = .ok (.aload_n 0, 1) := okd_at mX11_init_0 12 rfl
theorem dX11_init_27 : decode cX11_init 27 = .ok (.new 23, 3) := okd_at mX11_init_0 13 rfl
theorem dX11_init_30 : decode cX11_init 30 = .ok (.dup, 1) := okd_at mX11_init_0 14 rfl
theorem dX11_init_31 : decode cX11_init 31 = .ok (.invokespecial 25, 3) := okd_at mX11_init_0 15 rfl
theorem dX11_init_34 : decode cX11_init 34 = .ok (.putfield 26, 3) := okd_at mX11_init_0 16 rfl
theorem dX11_init_37 : decode cX11_init 37 = .ok (.aload_n 0, 1) := okd_at mX11_init_0 17 rfl
theorem dX11_init_38 : decode cX11_init 38 = .ok (.new 30, 3) := okd_at mX11_init_0 18 rfl
theorem dX11_init_41 : decode cX11_init 41 = .ok (.dup, 1) := okd_at mX11_init_0 19 rfl
theorem dX11_init_42 : decode cX11_init 42 = .ok (.invokespecial 32, 3) := okd_at mX11_init_0 20 rfl
theorem dX11_init_45 : decode cX11_init 45 = .ok (.putfield 33, 3) := okd_at mX11_init_0 21 rfl
theorem dX11_init_48 : decode cX11_init 48 = .ok (.aload_n 0, 1) := okd_at mX11_init_0 22 rfl
theorem dX11_init_49 : decode cX11_init 49 = .ok (.new 37, 3) := okd_at mX11_init_0 23 rfl
theorem dX11_init_52 : decode cX11_init 52 = .ok (.dup, 1) := okd_at mX11_init_0 24 rfl
theorem dX11_init_53 : decode cX11_init 53 = .ok (.aload_n 0, 1) := okd_at mX11_init_0 25 rfl
theorem dX11_init_54 : decode cX11_init 54 = .ok (.getfield 33, 3) := okd_at mX11_init_0 26 rfl
theorem dX11_init_57 : decode cX11_init 57 = .ok (.invokespecial 39, 3) := okd_at mX11_init_0 27 rfl
theorem dX11_init_60 : decode cX11_init 60 = .ok (.putfield 42, 3) := okd_at mX11_init_0 28 rfl
theorem dX11_init_63 : decode cX11_init 63 = .ok (.aload_n 0, 1) := okd_at mX11_init_0 29 rfl
theorem dX11_init_64 : decode cX11_init 64 = .ok (.new 46, 3) := okd_at mX11_init_0 30 rfl
theorem dX11_init_67 : decode cX11_init 67 = .ok (.dup, 1) := okd_at mX11_init_0 31 rfl
theorem dX11_init_68 : decode cX11_init 68 = .ok (.aload_n 0, 1) := okd_at mX11_init_0 32 rfl
theorem dX11_init_69 : decode cX11_init 69 = .ok (.getfield 10, 3) := okd_at mX11_init_0 33 rfl
theorem dX11_init_72 : decode cX11_init 72 = .ok (.aload_n 0, 1) := okd_at mX11_init_0 34 rfl
theorem dX11_init_73 : decode cX11_init 73 = .ok (.getfield 19, 3) := okd_at mX11_init_0 35 rfl
theorem dX11_init_76 : decode cX11_init 76 = .ok (.aload_n 0, 1) := okd_at mX11_init_0 36 rfl
theorem dX11_init_77 : decode cX11_init 77 = .ok (.getfield 26, 3) := okd_at mX11_init_0 37 rfl
theorem dX11_init_80 : decode cX11_init 80 = .ok (.invokespecial 48, 3) := okd_at mX11_init_0 38 rfl
theorem dX11_init_83 : decode cX11_init 83 = .ok (.putfield 51, 3) := okd_at mX11_init_0 39 rfl
theorem dX11_init_86 : decode cX11_init 86 = .ok (.aload_n 0, 1) := okd_at mX11_init_0 40 rfl
theorem dX11_init_87 : decode cX11_init 87 = .ok (.new 55, 3) := okd_at mX11_init_0 41 rfl
theorem dX11_init_90 : decode cX11_init 90 = .ok (.dup, 1) := okd_at mX11_init_0 42 rfl
theorem dX11_init_91 : decode cX11_init 91 = .ok (.invokespecial 57, 3) := okd_at mX11_init_0 43 rfl
theorem dX11_init_94 : decode cX11_init 94 = .ok (.putfield 58, 3) := okd_at mX11_init_0 44 rfl
theorem dX11_init_97 : decode cX11_init 97 = .ok (.aload_n 0, 1) := okd_at mX11_init_0 45 rfl
theorem dX11_init_98 : decode cX11_init 98 = .ok (.new 62, 3) := okd_at mX11_init_0 46 rfl
theorem dX11_init_101 : decode cX11_init 101 = .ok (.dup, 1) := okd_at mX11_init_0 47 rfl
theorem dX11_init_102 : decode cX11_init 102 = .ok (.aload_n 0, 1) := okd_at mX11_init_0 48 rfl
theorem dX11_init_103 : decode cX11_init 103 = .ok (.getfield 19, 3) := okd_at mX11_init_0 49 rfl
theorem dX11_init_106 : decode cX11_init 106 = .ok (.aload_n 0, 1) := okd_at mX11_init_0 50 rfl
theorem dX11_init_107 : decode cX11_init 107 = .ok (.getfield 51, 3) := okd_at mX11_init_0 51 rfl
theorem dX11_init_110 : decode cX11_init 110 = .ok (.invokespecial 64, 3) := okd_at mX11_init_0 52 rfl
theorem dX11_init_113 : decode cX11_init 113 = .ok (.putfield 67, 3) := okd_at mX11_init_0 53 rfl
theorem dX11_init_116 : decode cX11_init 116 = .ok (.aload_n 0, 1) := okd_at mX11_init_0 54 rfl
theorem dX11_init_117 : decode cX11_init 117 = .ok (.iconst 4, 1) := okd_at mX11_init_0 55 rfl
theorem dX11_init_118 : decode cX11_init 118 = .ok (.anewarray 71, 3) := okd_at mX11_init_0 56 rfl
theorem dX11_init_121 : decode cX11_init 121 = .ok (.putfield 73, 3) := okd_at mX11_init_0 57 rfl
theorem dX11_init_124 : decode cX11_init 124 = .ok (.aload_n 0, 1) := okd_at mX11_init_0 58 rfl
theorem dX11_init_125 : decode cX11_init 125 = .ok (.bipush 8, 2) := okd_at mX11_init_0 59 rfl
def lmX11_init_1 : List (Nat × Instr × Nat) := [(127, .newarray .int, 2), (129, .putfield 77, 3), (132, .aload_n 0, 1), (133, .new 7, 3), (136, .dup, 1), (137, .invokespecial 9, 3), (140, .putfield 81, 3), (143, .aload_n 0, 1), (144, .new 16, 3), (147, .dup, 1), (148, .invokespecial 18, 3), (151, .putfield 84, 3), (154, .iconst 0, 1), (155, .istore_n 1, 1), (156, .iload_n 1, 1), (157, .aload_n 0, 1), (158, .getfield 73, 3), (161, .arraylength, 1), (162, .if_icmp .ge 22, 3), (165, .aload_n 0, 1), (166, .getfield 73, 3), (169, .iload_n 1, 1), (170, .new 71, 3), (173, .dup, 1), (174, .invokespecial 87, 3), (177, .aastore, 1), (178, .iinc 1 1, 3), (181, .goto (-25), 3), (184, .iconst 0, 1), (185, .istore_n 1, 1), (186, .iload_n 1, 1), (187, .ldc 88, 2), (189, .invokevirtual 90, 3), (192, .if_icmp .ge 22, 3), (195, .aload_n 0, 1), (196, .getfield 33, 3), (199, .ldc 88, 2), (201, .iload_n 1, 1), (202, .invokevirtual 96, 3), (205, .invokevirtual 100, 3), (208, .iinc 1 1, 3), (211, .goto (-25), 3), (214, .aload_n 0, 1), (215, .invokevirtual 104, 3), (218, .pop, 1), (219, .return_, 1)]
theorem mX11_init_1 : okd cX11_init lmX11_init_1 = true := by decide +kernel
theorem dX11_init_127 : decode cX11_init 127 = .ok (.newarray .int, 2) := okd_at mX11_init_1 0 rfl
theorem dX11_init_129 : decode cX11_init 129 = .ok (.putfield 77, 3) := okd_at mX11_init_1 1 rfl
theorem dX11_init_132 : decode cX11_init 132 = .ok (.aload_n 0, 1) := okd_at mX11_init_1 2 rfl
theorem dX11_init_133 : decode cX11_init 133 = .ok (.new 7, 3) := okd_at mX11_init_1 3 rfl
theorem dX11_init_136 : decode cX11_init 136 = .ok (.dup, 1) := okd_at mX11_init_1 4 rfl
theorem dX11_init_137 : decode cX11_init 137 = .ok (.invokespecial 9, 3) := okd_at mX11_init_1 5 rfl
theorem dX11_init_140 : decode cX11_init 140 = .ok (.putfield 81, 3) := okd_at mX11_init_1 6 rfl
theorem dX11_init_143 : decode cX11_init 143 = .ok (.aload_n 0, 1) := okd_at mX11_init_1 7 rfl
theorem dX11_init_144 : decode cX11_init 144 = .ok (.new 16, 3) := okd_at mX11_init_1 8 rfl
theorem dX11_init_147 : decode cX11_init 147 = .ok (.dup, 1) := okd_at mX11_init_1 9 rfl
theorem dX11_init_148 : decode cX11_init 148 = .ok (.invokespecial 18, 3) := okd_at mX11_init_1 10 rfl
theorem dX11_init_151 : decode cX11_init 151 = .ok (.putfield 84, 3) := okd_at mX11_init_1 11 rfl
theorem dX11_init_154 : decode cX11_init 154 = .ok (.iconst 0, 1) := okd_at mX11_init_1 12 rfl
theorem dX11_init_155 : decode cX11_init 155 = .ok (.istore_n 1, 1) := okd_at mX11_init_1 13 rfl
theorem dX11_init_156 : decode cX11_init 156 = .ok (.iload_n 1, 1) := okd_at mX11_init_1 14 rfl
theorem dX11_init_157 : decode cX11_init 157 = .ok (.aload_n 0, 1) := okd_at mX11_init_1 15 rfl
theorem dX11_init_158 : decode cX11_init 158 = .ok (.getfield 73, 3) := okd_at mX11_init_1 16 rfl
theorem dX11_init_161 : decode cX11_init 161 = .ok (.arraylength, 1) := okd_at mX11_init_1 17 rfl
theorem dX11_init_162 : decode cX11_init 162 = .ok (.if_icmp .ge 22, 3) := okd_at mX11_init_1 18 rfl
theorem dX11_init_165 : decode cX11_init 165 = .ok (.aload_n 0, 1) := okd_at mX11_init_1 19 rfl
theorem dX11_init_166 : decode cX11_init 166 = .ok (.getfield 73, 3) := okd_at mX11_init_1 20 rfl
theorem dX11_init_169 : decode cX11_init 169 = .ok (.iload_n 1, 1) := okd_at mX11_init_1 21 rfl
theorem dX11_init_170 : decode cX11_init 170 = .ok (.new 71, 3) := okd_at mX11_init_1 22 rfl
theorem dX11_init_173 : decode cX11_init 173 = .ok (.dup, 1) := okd_at mX11_init_1 23 rfl
theorem dX11_init_174 : decode cX11_init 174 = .ok (.invokespecial 87, 3) := okd_at mX11_init_1 24 rfl
theorem dX11_init_177 : decode cX11_init 177 = .ok (.aastore, 1) := okd_at mX11_init_1 25 rfl
theorem dX11_init_178 : decode cX11_init 178 = .ok (.iinc 1 1, 3) := okd_at mX11_init_1 26 rfl
theorem dX11_init_181 : decode cX11_init 181 = .ok (.goto (-25), 3) := okd_at mX11_init_1 27 rfl
theorem dX11_init_184 : decode cX11_init 184 = .ok (.iconst 0, 1) := okd_at mX11_init_1 28 rfl
theorem dX11_init_185 : decode cX11_init 185 = .ok (.istore_n 1, 1) := okd_at mX11_init_1 29 rfl
theorem dX11_init_186 : decode cX11_init 186 = .ok (.iload_n 1, 1) := okd_at mX11_init_1 30 rfl
theorem dX11_init_187 : decode cX11_init 187 = .ok (.ldc 88, 2) := okd_at mX11_init_1 31 rfl
theorem dX11_init_189 : decode cX11_init 189 = .ok (.invokevirtual 90, 3) := okd_at mX11_init_1 32 rfl
theorem dX11_init_192 : decode cX11_init 192 = .ok (.if_icmp .ge 22, 3) := okd_at mX11_init_1 33 rfl
theorem dX11_init_195 : decode cX11_init 195 = .ok (.aload_n 0, 1) := okd_at mX11_init_1 34 rfl
theorem dX11_init_196 : decode cX11_init 196 = .ok (.getfield 33, 3) := okd_at mX11_init_1 35 rfl
theorem dX11_init_199 : decode cX11_init 199 = .ok (.ldc 88, 2) := okd_at mX11_init_1 36 rfl
theorem dX11_init_201 : decode cX11_init 201 = .ok (.iload_n 1, 1) := okd_at mX11_init_1 37 rfl
theorem dX11_init_202 : decode cX11_init 202 = .ok (.invokevirtual 96, 3) := okd_at mX11_init_1 38 rfl
theorem dX11_init_205 : decode cX11_init 205 = .ok (.invokevirtual 100, 3) := okd_at mX11_init_1 39 rfl
theorem dX11_init_208 : decode cX11_init 208 = .ok (.iinc 1 1, 3) := okd_at mX11_init_1 40 rfl
theorem dX11_init_211 : decode cX11_init 211 = .ok (.goto (-25), 3) := okd_at mX11_init_1 41 rfl
theorem dX11_init_214 : decode cX11_init 214 = .ok (.aload_n 0, 1) := okd_at mX11_init_1 42 rfl
theorem dX11_init_215 : decode cX11_init 215 = .ok (.invokevirtual 104, 3) := okd_at mX11_init_1 43 rfl
theorem dX11_init_218 : decode cX11_init 218 = .ok (.pop, 1) := okd_at mX11_init_1 44 rfl
theorem dX11_init_219 : decode cX11_init 219 = .ok (.return_, 1) := okd_at mX11_init_1 45 rfl
/-- the class's memory as its cells are made, and while the first text comes onto the tape -/
def sh1 : Nat → Int32 := fun k => if k = 1 then -1 else 0
def sg0 : M2 := fun o => if o = 59 then sh1 else if o = 61 then sh1 else if o = 63 then sh1 else if o = 65 then sh1 else fun _ => 0
def tape1 : List Int32 := strByt.getD 0 []
def sgT (i : Nat) : M2 := fun o => if o = 37 then (fun k => if k < i then tape1.getD k 0 else 0) else if o = 36 then (fun k => if k = 3 then nI i else 0) else sg0 o
theorem sgT_0 : sgT 0 = sg0 := by
  funext o k
  unfold sgT
  by_cases h1 : o = 37
  · subst h1; rfl
  · rw [if_neg h1]
    by_cases h2 : o = 36
    · subst h2
      rw [if_pos rfl]
      show (if k = 3 then nI 0 else 0) = (0 : Int32)
      by_cases h3 : k = 3
      · rw [if_pos h3]; rfl
      · rw [if_neg h3]
    · rw [if_neg h2]
theorem sgT_363 (i : Nat) : sgT i 36 3 = nI i := rfl
theorem sgT_add {i : Nat} (hi : i < 160) : F8_add (tape1.getD i 0) (sgT i) = some ((), sgT (i + 1)) := by
  unfold F8_add
  rw [sgT_363, if_neg (show ¬ (160 : Int32) ≤ nI i from nI_ge (b := 160) hi (by omega)), gd_t (inb_t hi (by omega)), nI_c (by omega), up_ne (by omega), sgT_363, nI_1]
  refine congrArg some (Prod.ext rfl ?_)
  funext o k
  show up (up (sgT i) 37 i (tape1.getD i 0)) 36 3 (nI (i + 1)) o k = sgT (i + 1) o k
  by_cases h1 : o = 36
  · subst h1
    by_cases h3 : k = 3
    · subst h3; rw [up_eq]; rfl
    · rw [up_ne (by omega), up_ne (by omega)]
      show (if k = 3 then nI i else 0) = (if k = 3 then nI (i + 1) else 0)
      rw [if_neg h3, if_neg h3]
  · rw [up_ne (by omega)]
    by_cases h2 : o = 37
    · subst h2
      by_cases h4 : k = i
      · subst h4
        rw [up_eq]
        show _ = (if k < k + 1 then tape1.getD k 0 else 0)
        rw [if_pos (Nat.lt_succ_self k)]
      · rw [up_ne (by omega)]
        show (if k < i then tape1.getD k 0 else 0) = (if k < i + 1 then tape1.getD k 0 else 0)
        by_cases h5 : k < i
        · rw [if_pos h5, if_pos (by omega)]
        · rw [if_neg h5, if_neg (by omega)]
    · rw [up_ne (by omega)]
      unfold sgT
      rw [if_neg h2, if_neg h2, if_neg h1, if_neg h1]
theorem str0_len : strLen.getD 0 0 = 43 := by decide +kernel
theorem Rg.mk {n' maxL n mc ms : Nat} (h1 : Nat.ble (n' + 1) n = true) (h2 : Nat.ble (maxL + 19 + 60 * n') (60 * n) = true) : Rg n' maxL (rmG n mc ms) := ⟨Nat.le_of_ble_eq_true h1, Nat.le_of_ble_eq_true h2⟩
section C11
variable {γ : GT} {A : Nat → Prop} {κ : KG} {Q : State → Prop} {k n mc ms : Nat} {ad : Nat → Nat} {σ1 : M2}
theorem k11_loop (C : Cg γ A κ (rmG 90 mc ms) cX11_init 2 "EveryoneWins" none) (hI : Inj (ωG SC γ ad)) (hk : k ≤ mc) (hn : n ≤ ms) (kk : G γ A κ Q 2 k n 214 [(1, .int (nI 43)), (0, .ref (ad 0))] [] (wld (ωG SC γ ad) (sgT 43))) : ∀ d i, i + d = 43 → G γ A κ Q 2 k n 186 [(1, .int (nI i)), (0, .ref (ad 0))] [] (wld (ωG SC γ ad) (sgT i)) := by
  intro d
  induction d with
  | zero =>
    intro i hi
    obtain rfl : i = 43 := by omega
    refine g_iload_n C 0 dX11_init_186 rfl ?_
    refine g_ldcS C 0 (by decide) rfl dX11_init_187 ?_
    refine g_ctStr (wr := []) (v := some (.int (Int32.ofNat (strLen.getD 0 0)))) (n' := 2) (As := []) C hI (show 0 < 13 by decide) vb_J0_length_8abf5 (cS_length _ (by decide)) rfl (Rg.mk rfl rfl) wd_363 rfl hk hn dX11_init_189 ?_
    exact g_icmp_ge C dX11_init_192 (tgt := 214) rfl (fun _ => kk) (fun h => absurd (by rw [str0_len]; decide) h)
  | succ d ih =>
    intro i hi
    have hi43 : i < 43 := by omega
    have hil : i < strLen.getD 0 0 := by rw [str0_len]; exact hi43
    refine g_iload_n C 0 dX11_init_186 rfl ?_
    refine g_ldcS C 0 (by decide) rfl dX11_init_187 ?_
    refine g_ctStr (wr := []) (v := some (.int (Int32.ofNat (strLen.getD 0 0)))) (n' := 2) (As := []) C hI (show 0 < 13 by decide) vb_J0_length_8abf5 (cS_length _ (by decide)) rfl (Rg.mk rfl rfl) wd_363 rfl hk hn dX11_init_189 ?_
    refine g_icmp_ge C dX11_init_192 (tgt := 214) rfl (fun h => absurd h ?_) (fun _ => ?_)
    · rw [str0_len]; exact nI_ge (b := 43) hi43 (by omega)
    refine g_aload_n C 1 dX11_init_195 rfl ?_
    refine w_getr C hI (o := 0) (j := 3) (ci := 10) (N := 17) (o' := 36) inT11 rfl (by decide) rfl rfl rfl rfl wd_580 dX11_init_196 ?_
    refine g_ldcS C 0 (by decide) rfl dX11_init_199 ?_
    refine g_iload_n C 0 dX11_init_201 rfl ?_
    refine g_ctStr (wr := []) (v := some (.int ((strByt.getD 0 []).getD (nI i).toNatClampNeg 0))) (n' := 4) (As := [.int (nI i)]) (rest := [.ref (ad 36)]) C hI (show 0 < 13 by decide) vb_J0_charAt_5068e (cS_charAt _ (by decide) (nI_vp hil (by rw [str0_len]; decide))) rfl (Rg.mk rfl rfl) wd_373 rfl hk hn dX11_init_202 ?_
    rw [nI_c (by omega)]
    refine g_ctV (wr := []) (v := none) (n' := 1) (o := 36) (ci := 7) (N := 5) (As := [.int (tape1.getD i 0)]) (rest := []) C hI vb_X8_add rfl (by decide) (c8_add _ (sgT_add (by omega))) rfl (Rg.mk rfl rfl) wd_411 rfl rfl hk hn dX11_init_205 ?_
    refine g_iinc C 0 dX11_init_208 rfl (v := nI (i + 1)) (by exact nI_1 i) rfl rfl ?_
    refine g_goto C dX11_init_211 (tgt := 186) rfl ?_
    exact ih (i + 1) (by omega)
theorem k11_rest {fu : Nat} {v : Int32} (h : F11_readTape fu (sgT 43) = some (v, σ1)) (C : Cg γ A κ (rmG 90 mc ms) cX11_init 2 "EveryoneWins" none) (hI : Inj (ωG SC γ ad)) (hk : k ≤ mc) (hn : n ≤ ms) (kk : G γ A κ Q 2 k n 219 [(1, .int (nI 43)), (0, .ref (ad 0))] [] (wld (ωG SC γ ad) σ1)) : G γ A κ Q 2 k n 184 [(1, .int 4), (0, .ref (ad 0))] [] (wld (ωG SC γ ad) sg0) := by
  refine g_iconst C (v := 0) dX11_init_184 (by decide) ?_
  refine g_istore_n C dX11_init_185 (i := 1) rfl rfl rfl ?_
  rw [← sgT_0]
  refine k11_loop C hI hk hn ?_ 43 0 rfl
  refine g_aload_n C 1 dX11_init_214 rfl ?_
  refine g_ctV (wr := []) (v := some (.int v)) (n' := 86) (o := 0) (ci := 10) (N := 17) (As := []) (rest := []) C hI vb_X11_readTape rfl (by decide) (c11_readTape _ h) rfl (Rg.mk rfl rfl) wd_415 rfl rfl hk hn dX11_init_215 ?_
  refine g_pop C dX11_init_218 rfl ?_
  exact kk
end C11
def adz (h0 : Nat) (f : Nat → Nat) : Nat → Nat := fun i => if i = 0 then h0 else f i
theorem adz_eq {h0 : Nat} {f : Nat → Nat} (h : f 0 = h0) : adz h0 f = f := funext fun i => by
  unfold adz
  by_cases hi : i = 0
  · subst hi; rw [if_pos rfl, h]
  · rw [if_neg hi]
