/-! more words of the tables: constructors -/
set_option maxRecDepth 100000
theorem wd_97 : Cond.code yX11_init cX11_init 2 none ∈ gtbl := gtbl_of (i := 97) (by rfl) rfl
theorem wd_1050 : Cond.code yX12_init cX12_init 2 none ∈ gtbl := gtbl_of (i := 1050) (by rfl) rfl
def lmv_0 : List (Nat × Cond) := [(96, Cond.instanceMethod yX11_init), (99, Cond.instanceMethod Lib.objectInit), (100, Cond.code Lib.objectInit ⟨#[0xb1]⟩ 1 none), (104, Cond.instanceMethod yX1_init), (105, Cond.code yX1_init cX1_init 1 none), (106, Cond.methodLink "EveryoneWins$Children" 3 Lib.objectInit), (128, Cond.arrayClass .int), (132, Cond.instanceMethod yX5_init), (133, Cond.code yX5_init cX5_init 1 none), (134, Cond.methodLink "EveryoneWins$Races" 3 Lib.objectInit), (165, Cond.instanceMethod yX10_init), (166, Cond.code yX10_init cX10_init 2 none), (172, Cond.instanceMethod yX9_init), (173, Cond.code yX9_init cX9_init 1 none), (174, Cond.methodLink "EveryoneWins$Text" 3 Lib.objectInit), (206, Cond.instanceMethod yX8_init), (207, Cond.code yX8_init cX8_init 1 none), (208, Cond.methodLink "EveryoneWins$Tape" 3 Lib.objectInit), (229, Cond.instanceMethod yX6_init), (230, Cond.code yX6_init cX6_init 2 none), (231, Cond.methodLink "EveryoneWins$Reader" 3 Lib.objectInit), (251, Cond.instanceMethod yX2_init), (252, Cond.code yX2_init cX2_init 4 none), (253, Cond.methodLink "EveryoneWins$Day" 3 Lib.objectInit), (305, Cond.instanceMethod yX0_init), (306, Cond.code yX0_init cX0_init 1 none), (307, Cond.methodLink "EveryoneWins$Best" 3 Lib.objectInit), (321, Cond.instanceMethod yX4_init), (322, Cond.code yX4_init cX4_init 3 none), (323, Cond.methodLink "EveryoneWins$Orders" 3 Lib.objectInit), (324, Cond.classLink "EveryoneWins$Orders" 15 "[[I"), (346, Cond.instanceMethod yX7_init), (347, Cond.code yX7_init cX7_init 1 none), (348, Cond.methodLink "EveryoneWins$Sheet" 3 Lib.objectInit), (1049, Cond.instanceMethod yX12_init)]
theorem mv_0 : okw lmv_0 = true := by decide +kernel
theorem wd_96 : Cond.instanceMethod yX11_init ∈ gtbl := okw_at mv_0 0 rfl
theorem wd_99 : Cond.instanceMethod Lib.objectInit ∈ gtbl := okw_at mv_0 1 rfl
theorem wd_100 : Cond.code Lib.objectInit ⟨#[0xb1]⟩ 1 none ∈ gtbl := okw_at mv_0 2 rfl
theorem wd_104 : Cond.instanceMethod yX1_init ∈ gtbl := okw_at mv_0 3 rfl
theorem wd_105 : Cond.code yX1_init cX1_init 1 none ∈ gtbl := okw_at mv_0 4 rfl
theorem wd_106 : Cond.methodLink "EveryoneWins$Children" 3 Lib.objectInit ∈ gtbl := okw_at mv_0 5 rfl
theorem wd_128 : Cond.arrayClass .int ∈ gtbl := okw_at mv_0 6 rfl
theorem wd_132 : Cond.instanceMethod yX5_init ∈ gtbl := okw_at mv_0 7 rfl
theorem wd_133 : Cond.code yX5_init cX5_init 1 none ∈ gtbl := okw_at mv_0 8 rfl
theorem wd_134 : Cond.methodLink "EveryoneWins$Races" 3 Lib.objectInit ∈ gtbl := okw_at mv_0 9 rfl
theorem wd_165 : Cond.instanceMethod yX10_init ∈ gtbl := okw_at mv_0 10 rfl
theorem wd_166 : Cond.code yX10_init cX10_init 2 none ∈ gtbl := okw_at mv_0 11 rfl
theorem wd_172 : Cond.instanceMethod yX9_init ∈ gtbl := okw_at mv_0 12 rfl
theorem wd_173 : Cond.code yX9_init cX9_init 1 none ∈ gtbl := okw_at mv_0 13 rfl
theorem wd_174 : Cond.methodLink "EveryoneWins$Text" 3 Lib.objectInit ∈ gtbl := okw_at mv_0 14 rfl
theorem wd_206 : Cond.instanceMethod yX8_init ∈ gtbl := okw_at mv_0 15 rfl
theorem wd_207 : Cond.code yX8_init cX8_init 1 none ∈ gtbl := okw_at mv_0 16 rfl
theorem wd_208 : Cond.methodLink "EveryoneWins$Tape" 3 Lib.objectInit ∈ gtbl := okw_at mv_0 17 rfl
theorem wd_229 : Cond.instanceMethod yX6_init ∈ gtbl := okw_at mv_0 18 rfl
theorem wd_230 : Cond.code yX6_init cX6_init 2 none ∈ gtbl := okw_at mv_0 19 rfl
theorem wd_231 : Cond.methodLink "EveryoneWins$Reader" 3 Lib.objectInit ∈ gtbl := okw_at mv_0 20 rfl
theorem wd_251 : Cond.instanceMethod yX2_init ∈ gtbl := okw_at mv_0 21 rfl
theorem wd_252 : Cond.code yX2_init cX2_init 4 none ∈ gtbl := okw_at mv_0 22 rfl
theorem wd_253 : Cond.methodLink "EveryoneWins$Day" 3 Lib.objectInit ∈ gtbl := okw_at mv_0 23 rfl
theorem wd_305 : Cond.instanceMethod yX0_init ∈ gtbl := okw_at mv_0 24 rfl
theorem wd_306 : Cond.code yX0_init cX0_init 1 none ∈ gtbl := okw_at mv_0 25 rfl
theorem wd_307 : Cond.methodLink "EveryoneWins$Best" 3 Lib.objectInit ∈ gtbl := okw_at mv_0 26 rfl
theorem wd_321 : Cond.instanceMethod yX4_init ∈ gtbl := okw_at mv_0 27 rfl
theorem wd_322 : Cond.code yX4_init cX4_init 3 none ∈ gtbl := okw_at mv_0 28 rfl
theorem wd_323 : Cond.methodLink "EveryoneWins$Orders" 3 Lib.objectInit ∈ gtbl := okw_at mv_0 29 rfl
theorem wd_324 : Cond.classLink "EveryoneWins$Orders" 15 "[[I" ∈ gtbl := okw_at mv_0 30 rfl
theorem wd_346 : Cond.instanceMethod yX7_init ∈ gtbl := okw_at mv_0 31 rfl
theorem wd_347 : Cond.code yX7_init cX7_init 1 none ∈ gtbl := okw_at mv_0 32 rfl
theorem wd_348 : Cond.methodLink "EveryoneWins$Sheet" 3 Lib.objectInit ∈ gtbl := okw_at mv_0 33 rfl
theorem wd_1049 : Cond.instanceMethod yX12_init ∈ gtbl := okw_at mv_0 34 rfl
theorem ib_X0 : IB yX0_init cX0_init 1 0 := ⟨wd_306, wd_81, wd_305, by decide, rfl, by decide +kernel⟩
theorem ib_X1 : IB yX1_init cX1_init 1 0 := ⟨wd_105, wd_74, wd_104, by decide, rfl, by decide +kernel⟩
theorem ib_X5 : IB yX5_init cX5_init 1 0 := ⟨wd_133, wd_75, wd_132, by decide, rfl, by decide +kernel⟩
theorem ib_X9 : IB yX9_init cX9_init 1 0 := ⟨wd_173, wd_77, wd_172, by decide, rfl, by decide +kernel⟩
theorem ib_X8 : IB yX8_init cX8_init 1 0 := ⟨wd_207, wd_78, wd_206, by decide, rfl, by decide +kernel⟩
theorem ib_X6 : IB yX6_init cX6_init 2 1 := ⟨wd_230, wd_79, wd_229, by decide, rfl, by decide +kernel⟩
theorem ib_X2 : IB yX2_init cX2_init 4 3 := ⟨wd_252, wd_80, wd_251, by decide, rfl, by decide +kernel⟩
theorem ib_X7 : IB yX7_init cX7_init 1 0 := ⟨wd_347, wd_83, wd_346, by decide, rfl, by decide +kernel⟩
theorem ib_X4 : IB yX4_init cX4_init 3 2 := ⟨wd_322, wd_82, wd_321, by decide, rfl, by decide +kernel⟩
theorem ib_X10 : IB yX10_init cX10_init 2 0 := ⟨wd_166, wd_76, wd_165, by decide, rfl, by decide +kernel⟩
theorem ib_X11 : IB yX11_init cX11_init 2 0 := ⟨wd_97, wd_73, wd_96, by decide, rfl, by decide +kernel⟩
theorem ib_X12 : IB yX12_init cX12_init 2 0 := ⟨wd_1050, wd_88, wd_1049, by decide, rfl, by decide +kernel⟩
def lmX0_init_0 : List (Nat × Instr × Nat) := [(0, .aload_n 0, 1), (1, .invokespecial 3, 3), (4, .return_, 1)]
theorem mX0_init_0 : okd cX0_init lmX0_init_0 = true := by decide +kernel
theorem dX0_init_0 : decode cX0_init 0 = .ok (.aload_n 0, 1) := okd_at mX0_init_0 0 rfl
theorem dX0_init_1 : decode cX0_init 1 = .ok (.invokespecial 3, 3) := okd_at mX0_init_0 1 rfl
theorem dX0_init_4 : decode cX0_init 4 = .ok (.return_, 1) := okd_at mX0_init_0 2 rfl
def lmX1_init_0 : List (Nat × Instr × Nat) := [(0, .aload_n 0, 1), (1, .invokespecial 3, 3), (4, .aload_n 0, 1), (5, .bipush 8, 2), (7, .newarray .int, 2), (9, .putfield 9, 3), (12, .aload_n 0, 1), (13, .bipush 8, 2), (15, .newarray .int, 2), (17, .putfield 15, 3), (20, .aload_n 0, 1), (21, .bipush 8, 2), (23, .newarray .int, 2), (25, .putfield 18, 3), (28, .return_, 1)]
theorem mX1_init_0 : okd cX1_init lmX1_init_0 = true := by decide +kernel
theorem dX1_init_0 : decode cX1_init 0 = .ok (.aload_n 0, 1) := okd_at mX1_init_0 0 rfl
theorem dX1_init_1 : decode cX1_init 1 = .ok (.invokespecial 3, 3) := okd_at mX1_init_0 1 rfl
theorem dX1_init_4 : decode cX1_init 4 = .ok (.aload_n 0, 1) := okd_at mX1_init_0 2 rfl
theorem dX1_init_5 : decode cX1_init 5 = .ok (.bipush 8, 2) := okd_at mX1_init_0 3 rfl
theorem dX1_init_7 : decode cX1_init 7 = .ok (.newarray .int, 2) := okd_at mX1_init_0 4 rfl
theorem dX1_init_9 : decode cX1_init 9 = .ok (.putfield 9, 3) := okd_at mX1_init_0 5 rfl
theorem dX1_init_12 : decode cX1_init 12 = .ok (.aload_n 0, 1) := okd_at mX1_init_0 6 rfl
theorem dX1_init_13 : decode cX1_init 13 = .ok (.bipush 8, 2) := okd_at mX1_init_0 7 rfl
theorem dX1_init_15 : decode cX1_init 15 = .ok (.newarray .int, 2) := okd_at mX1_init_0 8 rfl
theorem dX1_init_17 : decode cX1_init 17 = .ok (.putfield 15, 3) := okd_at mX1_init_0 9 rfl
theorem dX1_init_20 : decode cX1_init 20 = .ok (.aload_n 0, 1) := okd_at mX1_init_0 10 rfl
theorem dX1_init_21 : decode cX1_init 21 = .ok (.bipush 8, 2) := okd_at mX1_init_0 11 rfl
theorem dX1_init_23 : decode cX1_init 23 = .ok (.newarray .int, 2) := okd_at mX1_init_0 12 rfl
theorem dX1_init_25 : decode cX1_init 25 = .ok (.putfield 18, 3) := okd_at mX1_init_0 13 rfl
theorem dX1_init_28 : decode cX1_init 28 = .ok (.return_, 1) := okd_at mX1_init_0 14 rfl
def lmX2_init_0 : List (Nat × Instr × Nat) := [(0, .aload_n 0, 1), (1, .invokespecial 3, 3), (4, .aload_n 0, 1), (5, .bipush 8, 2), (7, .newarray .int, 2), (9, .putfield 9, 3), (12, .aload_n 0, 1), (13, .bipush 8, 2), (15, .newarray .int, 2), (17, .putfield 15, 3), (20, .aload_n 0, 1), (21, .bipush 6, 2), (23, .newarray .int, 2), (25, .putfield 18, 3), (28, .aload_n 0, 1), (29, .bipush 8, 2), (31, .newarray .int, 2), (33, .putfield 21, 3), (36, .aload_n 0, 1), (37, .bipush 6, 2), (39, .newarray .int, 2), (41, .putfield 26, 3), (44, .aload_n 0, 1), (45, .aload_n 1, 1), (46, .putfield 29, 3), (49, .aload_n 0, 1), (50, .aload_n 2, 1), (51, .putfield 33, 3), (54, .aload_n 0, 1), (55, .aload_n 3, 1), (56, .putfield 37, 3), (59, .return_, 1)]
theorem mX2_init_0 : okd cX2_init lmX2_init_0 = true := by decide +kernel
theorem dX2_init_0 : decode cX2_init 0 = .ok (.aload_n 0, 1) := okd_at mX2_init_0 0 rfl
theorem dX2_init_1 : decode cX2_init 1 = .ok (.invokespecial 3, 3) := okd_at mX2_init_0 1 rfl
theorem dX2_init_4 : decode cX2_init 4 = .ok (.aload_n 0, 1) := okd_at mX2_init_0 2 rfl
theorem dX2_init_5 : decode cX2_init 5 = .ok (.bipush 8, 2) := okd_at mX2_init_0 3 rfl
theorem dX2_init_7 : decode cX2_init 7 = .ok (.newarray .int, 2) := okd_at mX2_init_0 4 rfl
theorem dX2_init_9 : decode cX2_init 9 = .ok (.putfield 9, 3) := okd_at mX2_init_0 5 rfl
theorem dX2_init_12 : decode cX2_init 12 = .ok (.aload_n 0, 1) := okd_at mX2_init_0 6 rfl
theorem dX2_init_13 : decode cX2_init 13 = .ok (.bipush 8, 2) := okd_at mX2_init_0 7 rfl
theorem dX2_init_15 : decode cX2_init 15 = .ok (.newarray .int, 2) := okd_at mX2_init_0 8 rfl
theorem dX2_init_17 : decode cX2_init 17 = .ok (.putfield 15, 3) := okd_at mX2_init_0 9 rfl
theorem dX2_init_20 : decode cX2_init 20 = .ok (.aload_n 0, 1) := okd_at mX2_init_0 10 rfl
theorem dX2_init_21 : decode cX2_init 21 = .ok (.bipush 6, 2) := okd_at mX2_init_0 11 rfl
theorem dX2_init_23 : decode cX2_init 23 = .ok (.newarray .int, 2) := okd_at mX2_init_0 12 rfl
theorem dX2_init_25 : decode cX2_init 25 = .ok (.putfield 18, 3) := okd_at mX2_init_0 13 rfl
theorem dX2_init_28 : decode cX2_init 28 = .ok (.aload_n 0, 1) := okd_at mX2_init_0 14 rfl
theorem dX2_init_29 : decode cX2_init 29 = .ok (.bipush 8, 2) := okd_at mX2_init_0 15 rfl
theorem dX2_init_31 : decode cX2_init 31 = .ok (.newarray .int, 2) := okd_at mX2_init_0 16 rfl
theorem dX2_init_33 : decode cX2_init 33 = .ok (.putfield 21, 3) := okd_at mX2_init_0 17 rfl
theorem dX2_init_36 : decode cX2_init 36 = .ok (.aload_n 0, 1) := okd_at mX2_init_0 18 rfl
theorem dX2_init_37 : decode cX2_init 37 = .ok (.bipush 6, 2) := okd_at mX2_init_0 19 rfl
theorem dX2_init_39 : decode cX2_init 39 = .ok (.newarray .int, 2) := okd_at mX2_init_0 20 rfl
theorem dX2_init_41 : decode cX2_init 41 = .ok (.putfield 26, 3) := okd_at mX2_init_0 21 rfl
theorem dX2_init_44 : decode cX2_init 44 = .ok (.aload_n 0, 1) := okd_at mX2_init_0 22 rfl
theorem dX2_init_45 : decode cX2_init 45 = .ok (.aload_n 1, 1) := okd_at mX2_init_0 23 rfl
theorem dX2_init_46 : decode cX2_init 46 = .ok (.putfield 29, 3) := okd_at mX2_init_0 24 rfl
theorem dX2_init_49 : decode cX2_init 49 = .ok (.aload_n 0, 1) := okd_at mX2_init_0 25 rfl
theorem dX2_init_50 : decode cX2_init 50 = .ok (.aload_n 2, 1) := okd_at mX2_init_0 26 rfl
theorem dX2_init_51 : decode cX2_init 51 = .ok (.putfield 33, 3) := okd_at mX2_init_0 27 rfl
theorem dX2_init_54 : decode cX2_init 54 = .ok (.aload_n 0, 1) := okd_at mX2_init_0 28 rfl
theorem dX2_init_55 : decode cX2_init 55 = .ok (.aload_n 3, 1) := okd_at mX2_init_0 29 rfl
theorem dX2_init_56 : decode cX2_init 56 = .ok (.putfield 37, 3) := okd_at mX2_init_0 30 rfl
theorem dX2_init_59 : decode cX2_init 59 = .ok (.return_, 1) := okd_at mX2_init_0 31 rfl
def lmX4_init_0 : List (Nat × Instr × Nat) := [(0, .aload_n 0, 1), (1, .invokespecial 3, 3), (4, .aload_n 0, 1), (5, .bipush 6, 2), (7, .newarray .int, 2), (9, .putfield 9, 3), (12, .aload_n 0, 1), (13, .bipush 6, 2), (15, .bipush 8, 2), (17, .multianewarray 15 2, 4), (21, .putfield 17, 3), (24, .aload_n 0, 1), (25, .bipush 6, 2), (27, .newarray .int, 2), (29, .putfield 20, 3), (32, .aload_n 0, 1), (33, .aload_n 1, 1), (34, .putfield 23, 3), (37, .aload_n 0, 1), (38, .aload_n 2, 1), (39, .putfield 27, 3), (42, .return_, 1)]
theorem mX4_init_0 : okd cX4_init lmX4_init_0 = true := by decide +kernel
theorem dX4_init_0 : decode cX4_init 0 = .ok (.aload_n 0, 1) := okd_at mX4_init_0 0 rfl
theorem dX4_init_1 : decode cX4_init 1 = .ok (.invokespecial 3, 3) := okd_at mX4_init_0 1 rfl
theorem dX4_init_4 : decode cX4_init 4 = .ok (.aload_n 0, 1) := okd_at mX4_init_0 2 rfl
theorem dX4_init_5 : decode cX4_init 5 = .ok (.bipush 6, 2) := okd_at mX4_init_0 3 rfl
theorem dX4_init_7 : decode cX4_init 7 = .ok (.newarray .int, 2) := okd_at mX4_init_0 4 rfl
theorem dX4_init_9 : decode cX4_init 9 = .ok (.putfield 9, 3) := okd_at mX4_init_0 5 rfl
theorem dX4_init_12 : decode cX4_init 12 = .ok (.aload_n 0, 1) := okd_at mX4_init_0 6 rfl
theorem dX4_init_13 : decode cX4_init 13 = .ok (.bipush 6, 2) := okd_at mX4_init_0 7 rfl
theorem dX4_init_15 : decode cX4_init 15 = .ok (.bipush 8, 2) := okd_at mX4_init_0 8 rfl
theorem dX4_init_17 : decode cX4_init 17 = .ok (.multianewarray 15 2, 4) := okd_at mX4_init_0 9 rfl
theorem dX4_init_21 : decode cX4_init 21 = .ok (.putfield 17, 3) := okd_at mX4_init_0 10 rfl
theorem dX4_init_24 : decode cX4_init 24 = .ok (.aload_n 0, 1) := okd_at mX4_init_0 11 rfl
theorem dX4_init_25 : decode cX4_init 25 = .ok (.bipush 6, 2) := okd_at mX4_init_0 12 rfl
theorem dX4_init_27 : decode cX4_init 27 = .ok (.newarray .int, 2) := okd_at mX4_init_0 13 rfl
theorem dX4_init_29 : decode cX4_init 29 = .ok (.putfield 20, 3) := okd_at mX4_init_0 14 rfl
theorem dX4_init_32 : decode cX4_init 32 = .ok (.aload_n 0, 1) := okd_at mX4_init_0 15 rfl
theorem dX4_init_33 : decode cX4_init 33 = .ok (.aload_n 1, 1) := okd_at mX4_init_0 16 rfl
theorem dX4_init_34 : decode cX4_init 34 = .ok (.putfield 23, 3) := okd_at mX4_init_0 17 rfl
theorem dX4_init_37 : decode cX4_init 37 = .ok (.aload_n 0, 1) := okd_at mX4_init_0 18 rfl
theorem dX4_init_38 : decode cX4_init 38 = .ok (.aload_n 2, 1) := okd_at mX4_init_0 19 rfl
theorem dX4_init_39 : decode cX4_init 39 = .ok (.putfield 27, 3) := okd_at mX4_init_0 20 rfl
theorem dX4_init_42 : decode cX4_init 42 = .ok (.return_, 1) := okd_at mX4_init_0 21 rfl
def lmX5_init_0 : List (Nat × Instr × Nat) := [(0, .aload_n 0, 1), (1, .invokespecial 3, 3), (4, .aload_n 0, 1), (5, .bipush 6, 2), (7, .newarray .int, 2), (9, .putfield 9, 3), (12, .aload_n 0, 1), (13, .bipush 6, 2), (15, .newarray .int, 2), (17, .putfield 15, 3), (20, .aload_n 0, 1), (21, .bipush 6, 2), (23, .newarray .int, 2), (25, .putfield 18, 3), (28, .aload_n 0, 1), (29, .bipush 6, 2), (31, .newarray .int, 2), (33, .putfield 21, 3), (36, .return_, 1)]
theorem mX5_init_0 : okd cX5_init lmX5_init_0 = true := by decide +kernel
theorem dX5_init_0 : decode cX5_init 0 = .ok (.aload_n 0, 1) := okd_at mX5_init_0 0 rfl
theorem dX5_init_1 : decode cX5_init 1 = .ok (.invokespecial 3, 3) := okd_at mX5_init_0 1 rfl
theorem dX5_init_4 : decode cX5_init 4 = .ok (.aload_n 0, 1) := okd_at mX5_init_0 2 rfl
theorem dX5_init_5 : decode cX5_init 5 = .ok (.bipush 6, 2) := okd_at mX5_init_0 3 rfl
theorem dX5_init_7 : decode cX5_init 7 = .ok (.newarray .int, 2) := okd_at mX5_init_0 4 rfl
theorem dX5_init_9 : decode cX5_init 9 = .ok (.putfield 9, 3) := okd_at mX5_init_0 5 rfl
theorem dX5_init_12 : decode cX5_init 12 = .ok (.aload_n 0, 1) := okd_at mX5_init_0 6 rfl
theorem dX5_init_13 : decode cX5_init 13 = .ok (.bipush 6, 2) := okd_at mX5_init_0 7 rfl
theorem dX5_init_15 : decode cX5_init 15 = .ok (.newarray .int, 2) := okd_at mX5_init_0 8 rfl
theorem dX5_init_17 : decode cX5_init 17 = .ok (.putfield 15, 3) := okd_at mX5_init_0 9 rfl
theorem dX5_init_20 : decode cX5_init 20 = .ok (.aload_n 0, 1) := okd_at mX5_init_0 10 rfl
theorem dX5_init_21 : decode cX5_init 21 = .ok (.bipush 6, 2) := okd_at mX5_init_0 11 rfl
theorem dX5_init_23 : decode cX5_init 23 = .ok (.newarray .int, 2) := okd_at mX5_init_0 12 rfl
theorem dX5_init_25 : decode cX5_init 25 = .ok (.putfield 18, 3) := okd_at mX5_init_0 13 rfl
theorem dX5_init_28 : decode cX5_init 28 = .ok (.aload_n 0, 1) := okd_at mX5_init_0 14 rfl
theorem dX5_init_29 : decode cX5_init 29 = .ok (.bipush 6, 2) := okd_at mX5_init_0 15 rfl
theorem dX5_init_31 : decode cX5_init 31 = .ok (.newarray .int, 2) := okd_at mX5_init_0 16 rfl
theorem dX5_init_33 : decode cX5_init 33 = .ok (.putfield 21, 3) := okd_at mX5_init_0 17 rfl
theorem dX5_init_36 : decode cX5_init 36 = .ok (.return_, 1) := okd_at mX5_init_0 18 rfl
def lmX6_init_0 : List (Nat × Instr × Nat) := [(0, .aload_n 0, 1), (1, .invokespecial 3, 3), (4, .aload_n 0, 1), (5, .aload_n 1, 1), (6, .putfield 9, 3), (9, .return_, 1)]
theorem mX6_init_0 : okd cX6_init lmX6_init_0 = true := by decide +kernel
theorem dX6_init_0 : decode cX6_init 0 = .ok (.aload_n 0, 1) := okd_at mX6_init_0 0 rfl
theorem dX6_init_1 : decode cX6_init 1 = .ok (.invokespecial 3, 3) := okd_at mX6_init_0 1 rfl
theorem dX6_init_4 : decode cX6_init 4 = .ok (.aload_n 0, 1) := okd_at mX6_init_0 2 rfl
theorem dX6_init_5 : decode cX6_init 5 = .ok (.aload_n 1, 1) := okd_at mX6_init_0 3 rfl
theorem dX6_init_6 : decode cX6_init 6 = .ok (.putfield 9, 3) := okd_at mX6_init_0 4 rfl
theorem dX6_init_9 : decode cX6_init 9 = .ok (.return_, 1) := okd_at mX6_init_0 5 rfl
def lmX7_init_0 : List (Nat × Instr × Nat) := [(0, .aload_n 0, 1), (1, .invokespecial 3, 3), (4, .aload_n 0, 1), (5, .bipush 40, 2), (7, .newarray .int, 2), (9, .putfield 9, 3), (12, .aload_n 0, 1), (13, .iconst (-1), 1), (14, .putfield 15, 3), (17, .return_, 1)]
theorem mX7_init_0 : okd cX7_init lmX7_init_0 = true := by decide +kernel
theorem dX7_init_0 : decode cX7_init 0 = .ok (.aload_n 0, 1) := okd_at mX7_init_0 0 rfl
theorem dX7_init_1 : decode cX7_init 1 = .ok (.invokespecial 3, 3) := okd_at mX7_init_0 1 rfl
theorem dX7_init_4 : decode cX7_init 4 = .ok (.aload_n 0, 1) := okd_at mX7_init_0 2 rfl
theorem dX7_init_5 : decode cX7_init 5 = .ok (.bipush 40, 2) := okd_at mX7_init_0 3 rfl
theorem dX7_init_7 : decode cX7_init 7 = .ok (.newarray .int, 2) := okd_at mX7_init_0 4 rfl
theorem dX7_init_9 : decode cX7_init 9 = .ok (.putfield 9, 3) := okd_at mX7_init_0 5 rfl
theorem dX7_init_12 : decode cX7_init 12 = .ok (.aload_n 0, 1) := okd_at mX7_init_0 6 rfl
theorem dX7_init_13 : decode cX7_init 13 = .ok (.iconst (-1), 1) := okd_at mX7_init_0 7 rfl
theorem dX7_init_14 : decode cX7_init 14 = .ok (.putfield 15, 3) := okd_at mX7_init_0 8 rfl
theorem dX7_init_17 : decode cX7_init 17 = .ok (.return_, 1) := okd_at mX7_init_0 9 rfl
def lmX8_init_0 : List (Nat × Instr × Nat) := [(0, .aload_n 0, 1), (1, .invokespecial 3, 3), (4, .aload_n 0, 1), (5, .sipush 160, 3), (8, .newarray .int, 2), (10, .putfield 9, 3), (13, .aload_n 0, 1), (14, .sipush 160, 3), (17, .newarray .int, 2), (19, .putfield 15, 3), (22, .aload_n 0, 1), (23, .sipush 160, 3), (26, .newarray .int, 2), (28, .putfield 18, 3), (31, .return_, 1)]
theorem mX8_init_0 : okd cX8_init lmX8_init_0 = true := by decide +kernel
theorem dX8_init_0 : decode cX8_init 0 = .ok (.aload_n 0, 1) := okd_at mX8_init_0 0 rfl
theorem dX8_init_1 : decode cX8_init 1 = .ok (.invokespecial 3, 3) := okd_at mX8_init_0 1 rfl
theorem dX8_init_4 : decode cX8_init 4 = .ok (.aload_n 0, 1) := okd_at mX8_init_0 2 rfl
theorem dX8_init_5 : decode cX8_init 5 = .ok (.sipush 160, 3) := okd_at mX8_init_0 3 rfl
theorem dX8_init_8 : decode cX8_init 8 = .ok (.newarray .int, 2) := okd_at mX8_init_0 4 rfl
theorem dX8_init_10 : decode cX8_init 10 = .ok (.putfield 9, 3) := okd_at mX8_init_0 5 rfl
theorem dX8_init_13 : decode cX8_init 13 = .ok (.aload_n 0, 1) := okd_at mX8_init_0 6 rfl
theorem dX8_init_14 : decode cX8_init 14 = .ok (.sipush 160, 3) := okd_at mX8_init_0 7 rfl
theorem dX8_init_17 : decode cX8_init 17 = .ok (.newarray .int, 2) := okd_at mX8_init_0 8 rfl
theorem dX8_init_19 : decode cX8_init 19 = .ok (.putfield 15, 3) := okd_at mX8_init_0 9 rfl
theorem dX8_init_22 : decode cX8_init 22 = .ok (.aload_n 0, 1) := okd_at mX8_init_0 10 rfl
theorem dX8_init_23 : decode cX8_init 23 = .ok (.sipush 160, 3) := okd_at mX8_init_0 11 rfl
theorem dX8_init_26 : decode cX8_init 26 = .ok (.newarray .int, 2) := okd_at mX8_init_0 12 rfl
theorem dX8_init_28 : decode cX8_init 28 = .ok (.putfield 18, 3) := okd_at mX8_init_0 13 rfl
theorem dX8_init_31 : decode cX8_init 31 = .ok (.return_, 1) := okd_at mX8_init_0 14 rfl
def lmX9_init_0 : List (Nat × Instr × Nat) := [(0, .aload_n 0, 1), (1, .invokespecial 3, 3), (4, .aload_n 0, 1), (5, .sipush 160, 3), (8, .newarray .int, 2), (10, .putfield 9, 3), (13, .aload_n 0, 1), (14, .iconst 3, 1), (15, .newarray .int, 2), (17, .putfield 15, 3), (20, .aload_n 0, 1), (21, .bipush 32, 2), (23, .newarray .int, 2), (25, .putfield 18, 3), (28, .return_, 1)]
theorem mX9_init_0 : okd cX9_init lmX9_init_0 = true := by decide +kernel
theorem dX9_init_0 : decode cX9_init 0 = .ok (.aload_n 0, 1) := okd_at mX9_init_0 0 rfl
theorem dX9_init_1 : decode cX9_init 1 = .ok (.invokespecial 3, 3) := okd_at mX9_init_0 1 rfl
theorem dX9_init_4 : decode cX9_init 4 = .ok (.aload_n 0, 1) := okd_at mX9_init_0 2 rfl
theorem dX9_init_5 : decode cX9_init 5 = .ok (.sipush 160, 3) := okd_at mX9_init_0 3 rfl
theorem dX9_init_8 : decode cX9_init 8 = .ok (.newarray .int, 2) := okd_at mX9_init_0 4 rfl
theorem dX9_init_10 : decode cX9_init 10 = .ok (.putfield 9, 3) := okd_at mX9_init_0 5 rfl
theorem dX9_init_13 : decode cX9_init 13 = .ok (.aload_n 0, 1) := okd_at mX9_init_0 6 rfl
theorem dX9_init_14 : decode cX9_init 14 = .ok (.iconst 3, 1) := okd_at mX9_init_0 7 rfl
theorem dX9_init_15 : decode cX9_init 15 = .ok (.newarray .int, 2) := okd_at mX9_init_0 8 rfl
theorem dX9_init_17 : decode cX9_init 17 = .ok (.putfield 15, 3) := okd_at mX9_init_0 9 rfl
theorem dX9_init_20 : decode cX9_init 20 = .ok (.aload_n 0, 1) := okd_at mX9_init_0 10 rfl
theorem dX9_init_21 : decode cX9_init 21 = .ok (.bipush 32, 2) := okd_at mX9_init_0 11 rfl
theorem dX9_init_23 : decode cX9_init 23 = .ok (.newarray .int, 2) := okd_at mX9_init_0 12 rfl
theorem dX9_init_25 : decode cX9_init 25 = .ok (.putfield 18, 3) := okd_at mX9_init_0 13 rfl
theorem dX9_init_28 : decode cX9_init 28 = .ok (.return_, 1) := okd_at mX9_init_0 14 rfl
