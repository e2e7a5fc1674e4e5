def lmX12_areRunners_0 : List (Nat × Instr × Nat) := [(0, .iload_n 1, 1), (1, .iconst 0, 1), (2, .iconst 1, 1), (3, .aload_n 0, 1), (4, .getfield 90, 3), (7, .ishl, 1), (8, .iconst 1, 1), (9, .isub, 1), (10, .invokestatic 93, 3), (13, .ireturn, 1)]
theorem mX12_areRunners_0 : okd cX12_areRunners lmX12_areRunners_0 = true := by decide +kernel
theorem dX12_areRunners_0 : decode cX12_areRunners 0 = .ok (.iload_n 1, 1) := okd_at mX12_areRunners_0 0 rfl
theorem dX12_areRunners_1 : decode cX12_areRunners 1 = .ok (.iconst 0, 1) := okd_at mX12_areRunners_0 1 rfl
theorem dX12_areRunners_2 : decode cX12_areRunners 2 = .ok (.iconst 1, 1) := okd_at mX12_areRunners_0 2 rfl
theorem dX12_areRunners_3 : decode cX12_areRunners 3 = .ok (.aload_n 0, 1) := okd_at mX12_areRunners_0 3 rfl
theorem dX12_areRunners_4 : decode cX12_areRunners 4 = .ok (.getfield 90, 3) := okd_at mX12_areRunners_0 4 rfl
theorem dX12_areRunners_7 : decode cX12_areRunners 7 = .ok (.ishl, 1) := okd_at mX12_areRunners_0 5 rfl
theorem dX12_areRunners_8 : decode cX12_areRunners 8 = .ok (.iconst 1, 1) := okd_at mX12_areRunners_0 6 rfl
theorem dX12_areRunners_9 : decode cX12_areRunners 9 = .ok (.isub, 1) := okd_at mX12_areRunners_0 7 rfl
theorem dX12_areRunners_10 : decode cX12_areRunners 10 = .ok (.invokestatic 93, 3) := okd_at mX12_areRunners_0 8 rfl
theorem dX12_areRunners_13 : decode cX12_areRunners 13 = .ok (.ireturn, 1) := okd_at mX12_areRunners_0 9 rfl
def lmX12_asItIs_0 : List (Nat × Instr × Nat) := [(0, .aload_n 0, 1), (1, .invokevirtual 219, 3), (4, .aload_n 0, 1), (5, .iconst (-1), 1), (6, .putfield 225, 3), (9, .aload_n 0, 1), (10, .aload_n 0, 1), (11, .getfield 213, 3), (14, .putfield 228, 3), (17, .aload_n 0, 1), (18, .aload_n 0, 1), (19, .getfield 207, 3), (22, .putfield 231, 3), (25, .return_, 1)]
theorem mX12_asItIs_0 : okd cX12_asItIs lmX12_asItIs_0 = true := by decide +kernel
theorem dX12_asItIs_0 : decode cX12_asItIs 0 = .ok (.aload_n 0, 1) := okd_at mX12_asItIs_0 0 rfl
theorem dX12_asItIs_1 : decode cX12_asItIs 1 = .ok (.invokevirtual 219, 3) := okd_at mX12_asItIs_0 1 rfl
theorem dX12_asItIs_4 : decode cX12_asItIs 4 = .ok (.aload_n 0, 1) := okd_at mX12_asItIs_0 2 rfl
theorem dX12_asItIs_5 : decode cX12_asItIs 5 = .ok (.iconst (-1), 1) := okd_at mX12_asItIs_0 3 rfl
theorem dX12_asItIs_6 : decode cX12_asItIs 6 = .ok (.putfield 225, 3) := okd_at mX12_asItIs_0 4 rfl
theorem dX12_asItIs_9 : decode cX12_asItIs 9 = .ok (.aload_n 0, 1) := okd_at mX12_asItIs_0 5 rfl
theorem dX12_asItIs_10 : decode cX12_asItIs 10 = .ok (.aload_n 0, 1) := okd_at mX12_asItIs_0 6 rfl
theorem dX12_asItIs_11 : decode cX12_asItIs 11 = .ok (.getfield 213, 3) := okd_at mX12_asItIs_0 7 rfl
theorem dX12_asItIs_14 : decode cX12_asItIs 14 = .ok (.putfield 228, 3) := okd_at mX12_asItIs_0 8 rfl
theorem dX12_asItIs_17 : decode cX12_asItIs 17 = .ok (.aload_n 0, 1) := okd_at mX12_asItIs_0 9 rfl
theorem dX12_asItIs_18 : decode cX12_asItIs 18 = .ok (.aload_n 0, 1) := okd_at mX12_asItIs_0 10 rfl
theorem dX12_asItIs_19 : decode cX12_asItIs 19 = .ok (.getfield 207, 3) := okd_at mX12_asItIs_0 11 rfl
theorem dX12_asItIs_22 : decode cX12_asItIs 22 = .ok (.putfield 231, 3) := okd_at mX12_asItIs_0 12 rfl
theorem dX12_asItIs_25 : decode cX12_asItIs 25 = .ok (.return_, 1) := okd_at mX12_asItIs_0 13 rfl
def lmX12_asks_0 : List (Nat × Instr × Nat) := [(0, .iload_n 1, 1), (1, .iconst 0, 1), (2, .iconst 2, 1), (3, .invokestatic 93, 3), (6, .ifCond .eq 47, 3), (9, .aload_n 0, 1), (10, .iload_n 2, 1), (11, .invokevirtual 106, 3), (14, .ifCond .eq 39, 3), (17, .iload_n 3, 1), (18, .iconst (-1), 1), (19, .if_icmp .eq 11, 3), (22, .aload_n 0, 1), (23, .iload_n 3, 1), (24, .invokevirtual 182, 3), (27, .ifCond .eq 26, 3), (30, .iload 4, 2), (32, .iconst 0, 1), (33, .bipush 6, 2), (35, .invokestatic 93, 3), (38, .ifCond .eq 15, 3), (41, .aload_n 0, 1), (42, .iload_n 1, 1), (43, .iload_n 2, 1), (44, .iload_n 3, 1), (45, .iload 4, 2), (47, .invokevirtual 185, 3), (50, .goto 6, 3), (53, .sipush (-1000), 3), (56, .ireturn, 1)]
theorem mX12_asks_0 : okd cX12_asks lmX12_asks_0 = true := by decide +kernel
theorem dX12_asks_0 : decode cX12_asks 0 = .ok (.iload_n 1, 1) := okd_at mX12_asks_0 0 rfl
theorem dX12_asks_1 : decode cX12_asks 1 = .ok (.iconst 0, 1) := okd_at mX12_asks_0 1 rfl
theorem dX12_asks_2 : decode cX12_asks 2 = .ok (.iconst 2, 1) := okd_at mX12_asks_0 2 rfl
theorem dX12_asks_3 : decode cX12_asks 3 = .ok (.invokestatic 93, 3) := okd_at mX12_asks_0 3 rfl
theorem dX12_asks_6 : decode cX12_asks 6 = .ok (.ifCond .eq 47, 3) := okd_at mX12_asks_0 4 rfl
theorem dX12_asks_9 : decode cX12_asks 9 = .ok (.aload_n 0, 1) := okd_at mX12_asks_0 5 rfl
theorem dX12_asks_10 : decode cX12_asks 10 = .ok (.iload_n 2, 1) := okd_at mX12_asks_0 6 rfl
theorem dX12_asks_11 : decode cX12_asks 11 = .ok (.invokevirtual 106, 3) := okd_at mX12_asks_0 7 rfl
theorem dX12_asks_14 : decode cX12_asks 14 = .ok (.ifCond .eq 39, 3) := okd_at mX12_asks_0 8 rfl
theorem dX12_asks_17 : decode cX12_asks 17 = .ok (.iload_n 3, 1) := okd_at mX12_asks_0 9 rfl
theorem dX12_asks_18 : decode cX12_asks 18 = .ok (.iconst (-1), 1) := okd_at mX12_asks_0 10 rfl
theorem dX12_asks_19 : decode cX12_asks 19 = .ok (.if_icmp .eq 11, 3) := okd_at mX12_asks_0 11 rfl
theorem dX12_asks_22 : decode cX12_asks 22 = .ok (.aload_n 0, 1) := okd_at mX12_asks_0 12 rfl
theorem dX12_asks_23 : decode cX12_asks 23 = .ok (.iload_n 3, 1) := okd_at mX12_asks_0 13 rfl
theorem dX12_asks_24 : decode cX12_asks 24 = .ok (.invokevirtual 182, 3) := okd_at mX12_asks_0 14 rfl
theorem dX12_asks_27 : decode cX12_asks 27 = .ok (.ifCond .eq 26, 3) := okd_at mX12_asks_0 15 rfl
theorem dX12_asks_30 : decode cX12_asks 30 = .ok (.iload 4, 2) := okd_at mX12_asks_0 16 rfl
theorem dX12_asks_32 : decode cX12_asks 32 = .ok (.iconst 0, 1) := okd_at mX12_asks_0 17 rfl
theorem dX12_asks_33 : decode cX12_asks 33 = .ok (.bipush 6, 2) := okd_at mX12_asks_0 18 rfl
theorem dX12_asks_35 : decode cX12_asks 35 = .ok (.invokestatic 93, 3) := okd_at mX12_asks_0 19 rfl
theorem dX12_asks_38 : decode cX12_asks 38 = .ok (.ifCond .eq 15, 3) := okd_at mX12_asks_0 20 rfl
theorem dX12_asks_41 : decode cX12_asks 41 = .ok (.aload_n 0, 1) := okd_at mX12_asks_0 21 rfl
theorem dX12_asks_42 : decode cX12_asks 42 = .ok (.iload_n 1, 1) := okd_at mX12_asks_0 22 rfl
theorem dX12_asks_43 : decode cX12_asks 43 = .ok (.iload_n 2, 1) := okd_at mX12_asks_0 23 rfl
theorem dX12_asks_44 : decode cX12_asks 44 = .ok (.iload_n 3, 1) := okd_at mX12_asks_0 24 rfl
theorem dX12_asks_45 : decode cX12_asks 45 = .ok (.iload 4, 2) := okd_at mX12_asks_0 25 rfl
theorem dX12_asks_47 : decode cX12_asks 47 = .ok (.invokevirtual 185, 3) := okd_at mX12_asks_0 26 rfl
theorem dX12_asks_50 : decode cX12_asks 50 = .ok (.goto 6, 3) := okd_at mX12_asks_0 27 rfl
theorem dX12_asks_53 : decode cX12_asks 53 = .ok (.sipush (-1000), 3) := okd_at mX12_asks_0 28 rfl
theorem dX12_asks_56 : decode cX12_asks 56 = .ok (.ireturn, 1) := okd_at mX12_asks_0 29 rfl
def lmX12_asksOf_0 : List (Nat × Instr × Nat) := [(0, .aload_n 0, 1), (1, .getfield 58, 3), (4, .iconst 0, 1), (5, .aload_n 0, 1), (6, .getfield 7, 3), (9, .iconst 3, 1), (10, .iload_n 2, 1), (11, .imul, 1), (12, .iaload, 1), (13, .iastore, 1), (14, .aload_n 0, 1), (15, .getfield 58, 3), (18, .iconst 1, 1), (19, .aload_n 0, 1), (20, .getfield 7, 3), (23, .iconst 3, 1), (24, .iload_n 2, 1), (25, .imul, 1), (26, .iconst 1, 1), (27, .iadd, 1), (28, .iaload, 1), (29, .iastore, 1), (30, .aload_n 0, 1), (31, .getfield 58, 3), (34, .iconst 2, 1), (35, .iload 4, 2), (37, .iastore, 1), (38, .aload_n 0, 1), (39, .getfield 58, 3), (42, .iconst 3, 1), (43, .iload_n 3, 1), (44, .iconst (-1), 1), (45, .if_icmp .ne 7, 3), (48, .iconst 0, 1), (49, .goto 14, 3), (52, .aload_n 0, 1), (53, .getfield 16, 3), (56, .iload_n 3, 1), (57, .iconst 0, 1), (58, .iconst 5, 1), (59, .invokestatic 173, 3), (62, .iaload, 1), (63, .iastore, 1), (64, .aload_n 0, 1), (65, .getfield 58, 3), (68, .iconst 4, 1), (69, .iload_n 3, 1), (70, .iconst (-1), 1), (71, .if_icmp .ne 7, 3), (74, .iconst 0, 1), (75, .goto 19, 3), (78, .aload_n 0, 1), (79, .getfield 19, 3), (82, .iconst 2, 1), (83, .iload_n 3, 1), (84, .iconst 0, 1), (85, .iconst 5, 1), (86, .invokestatic 173, 3), (89, .imul, 1), (90, .iaload, 1)]
theorem mX12_asksOf_0 : okd cX12_asksOf lmX12_asksOf_0 = true := by decide +kernel
theorem dX12_asksOf_0 : decode cX12_asksOf 0 = .ok (.aload_n 0, 1) := okd_at mX12_asksOf_0 0 rfl
theorem dX12_asksOf_1 : decode cX12_asksOf 1 = .ok (.getfield 58, 3) := okd_at mX12_asksOf_0 1 rfl
theorem dX12_asksOf_4 : decode cX12_asksOf 4 = .ok (.iconst 0, 1) := okd_at mX12_asksOf_0 2 rfl
theorem dX12_asksOf_5 : decode cX12_asksOf 5 = .ok (.aload_n 0, 1) := okd_at mX12_asksOf_0 3 rfl
theorem dX12_asksOf_6 : decode cX12_asksOf 6 = .ok (.getfield 7, 3) := okd_at mX12_asksOf_0 4 rfl
theorem dX12_asksOf_9 : decode cX12_asksOf 9 = .ok (.iconst 3, 1) := okd_at mX12_asksOf_0 5 rfl
theorem dX12_asksOf_10 : decode cX12_asksOf 10 = .ok (.iload_n 2, 1) := okd_at mX12_asksOf_0 6 rfl
theorem dX12_asksOf_11 : decode cX12_asksOf 11 = .ok (.imul, 1) := okd_at mX12_asksOf_0 7 rfl
theorem dX12_asksOf_12 : decode cX12_asksOf 12 = .ok (.iaload, 1) := okd_at mX12_asksOf_0 8 rfl
theorem dX12_asksOf_13 : decode cX12_asksOf 13 = .ok (.iastore, 1) := okd_at mX12_asksOf_0 9 rfl
theorem dX12_asksOf_14 : decode cX12_asksOf 14 = .ok (.aload_n 0, 1) := okd_at mX12_asksOf_0 10 rfl
theorem dX12_asksOf_15 : decode cX12_asksOf 15 = .ok (.getfield 58, 3) := okd_at mX12_asksOf_0 11 rfl
theorem dX12_asksOf_18 : decode cX12_asksOf 18 = .ok (.iconst 1, 1) := okd_at mX12_asksOf_0 12 rfl
theorem dX12_asksOf_19 : decode cX12_asksOf 19 = .ok (.aload_n 0, 1) := okd_at mX12_asksOf_0 13 rfl
theorem dX12_asksOf_20 : decode cX12_asksOf 20 = .ok (.getfield 7, 3) := okd_at mX12_asksOf_0 14 rfl
theorem dX12_asksOf_23 : decode cX12_asksOf 23 = .ok (.iconst 3, 1) := okd_at mX12_asksOf_0 15 rfl
theorem dX12_asksOf_24 : decode cX12_asksOf 24 = .ok (.iload_n 2, 1) := okd_at mX12_asksOf_0 16 rfl
theorem dX12_asksOf_25 : decode cX12_asksOf 25 = .ok (.imul, 1) := okd_at mX12_asksOf_0 17 rfl
theorem dX12_asksOf_26 : decode cX12_asksOf 26 = .ok (.iconst 1, 1) := okd_at mX12_asksOf_0 18 rfl
theorem dX12_asksOf_27 : decode cX12_asksOf 27 = .ok (.iadd, 1) := okd_at mX12_asksOf_0 19 rfl
theorem dX12_asksOf_28 : decode cX12_asksOf 28 = .ok (.iaload, 1) := okd_at mX12_asksOf_0 20 rfl
theorem dX12_asksOf_29 : decode cX12_asksOf 29 = .ok (.iastore, 1) := okd_at mX12_asksOf_0 21 rfl
theorem dX12_asksOf_30 : decode cX12_asksOf 30 = .ok (.aload_n 0, 1) := okd_at mX12_asksOf_0 22 rfl
theorem dX12_asksOf_31 : decode cX12_asksOf 31 = .ok (.getfield 58, 3) := okd_at mX12_asksOf_0 23 rfl
theorem dX12_asksOf_34 : decode cX12_asksOf 34 = .ok (.iconst 2, 1) := okd_at mX12_asksOf_0 24 rfl
theorem dX12_asksOf_35 : decode cX12_asksOf 35 = .ok (.iload 4, 2) := okd_at mX12_asksOf_0 25 rfl
theorem dX12_asksOf_37 : decode cX12_asksOf 37 = .ok (.iastore, 1) := okd_at mX12_asksOf_0 26 rfl
theorem dX12_asksOf_38 : decode cX12_asksOf 38 = .ok (.aload_n 0, 1) := okd_at mX12_asksOf_0 27 rfl
theorem dX12_asksOf_39 : decode cX12_asksOf 39 = .ok (.getfield 58, 3) := okd_at mX12_asksOf_0 28 rfl
theorem dX12_asksOf_42 : decode cX12_asksOf 42 = .ok (.iconst 3, 1) := okd_at mX12_asksOf_0 29 rfl
theorem dX12_asksOf_43 : decode cX12_asksOf 43 = .ok (.iload_n 3, 1) := okd_at mX12_asksOf_0 30 rfl
theorem dX12_asksOf_44 : decode cX12_asksOf 44 = .ok (.iconst (-1), 1) := okd_at mX12_asksOf_0 31 rfl
theorem dX12_asksOf_45 : decode cX12_asksOf 45 = .ok (.if_icmp .ne 7, 3) := okd_at mX12_asksOf_0 32 rfl
theorem dX12_asksOf_48 : decode cX12_asksOf 48 = .ok (.iconst 0, 1) := okd_at mX12_asksOf_0 33 rfl
theorem dX12_asksOf_49 : decode cX12_asksOf 49 = .ok (.goto 14, 3) := okd_at mX12_asksOf_0 34 rfl
theorem dX12_asksOf_52 : decode cX12_asksOf 52 = .ok (.aload_n 0, 1) := okd_at mX12_asksOf_0 35 rfl
theorem dX12_asksOf_53 : decode cX12_asksOf 53 = .ok (.getfield 16, 3) := okd_at mX12_asksOf_0 36 rfl
theorem dX12_asksOf_56 : decode cX12_asksOf 56 = .ok (.iload_n 3, 1) := okd_at mX12_asksOf_0 37 rfl
theorem dX12_asksOf_57 : decode cX12_asksOf 57 = .ok (.iconst 0, 1) := okd_at mX12_asksOf_0 38 rfl
theorem dX12_asksOf_58 : decode cX12_asksOf 58 = .ok (.iconst 5, 1) := okd_at mX12_asksOf_0 39 rfl
theorem dX12_asksOf_59 : decode cX12_asksOf 59 = .ok (.invokestatic 173, 3) := okd_at mX12_asksOf_0 40 rfl
theorem dX12_asksOf_62 : decode cX12_asksOf 62 = .ok (.iaload, 1) := okd_at mX12_asksOf_0 41 rfl
theorem dX12_asksOf_63 : decode cX12_asksOf 63 = .ok (.iastore, 1) := okd_at mX12_asksOf_0 42 rfl
theorem dX12_asksOf_64 : decode cX12_asksOf 64 = .ok (.aload_n 0, 1) := okd_at mX12_asksOf_0 43 rfl
theorem dX12_asksOf_65 : decode cX12_asksOf 65 = .ok (.getfield 58, 3) := okd_at mX12_asksOf_0 44 rfl
theorem dX12_asksOf_68 : decode cX12_asksOf 68 = .ok (.iconst 4, 1) := okd_at mX12_asksOf_0 45 rfl
theorem dX12_asksOf_69 : decode cX12_asksOf 69 = .ok (.iload_n 3, 1) := okd_at mX12_asksOf_0 46 rfl
theorem dX12_asksOf_70 : decode cX12_asksOf 70 = .ok (.iconst (-1), 1) := okd_at mX12_asksOf_0 47 rfl
theorem dX12_asksOf_71 : decode cX12_asksOf 71 = .ok (.if_icmp .ne 7, 3) := okd_at mX12_asksOf_0 48 rfl
theorem dX12_asksOf_74 : decode cX12_asksOf 74 = .ok (.iconst 0, 1) := okd_at mX12_asksOf_0 49 rfl
theorem dX12_asksOf_75 : decode cX12_asksOf 75 = .ok (.goto 19, 3) := okd_at mX12_asksOf_0 50 rfl
theorem dX12_asksOf_78 : decode cX12_asksOf 78 = .ok (.aload_n 0, 1) := okd_at mX12_asksOf_0 51 rfl
theorem dX12_asksOf_79 : decode cX12_asksOf 79 = .ok (.getfield 19, 3) := okd_at mX12_asksOf_0 52 rfl
theorem dX12_asksOf_82 : decode cX12_asksOf 82 = .ok (.iconst 2, 1) := okd_at mX12_asksOf_0 53 rfl
theorem dX12_asksOf_83 : decode cX12_asksOf 83 = .ok (.iload_n 3, 1) := okd_at mX12_asksOf_0 54 rfl
theorem dX12_asksOf_84 : decode cX12_asksOf 84 = .ok (.iconst 0, 1) := okd_at mX12_asksOf_0 55 rfl
theorem dX12_asksOf_85 : decode cX12_asksOf 85 = .ok (.iconst 5, 1) := okd_at mX12_asksOf_0 56 rfl
theorem dX12_asksOf_86 : decode cX12_asksOf 86 = .ok (.invokestatic 173, 3) := okd_at mX12_asksOf_0 57 rfl
theorem dX12_asksOf_89 : decode cX12_asksOf 89 = .ok (.imul, 1) := okd_at mX12_asksOf_0 58 rfl
theorem dX12_asksOf_90 : decode cX12_asksOf 90 = .ok (.iaload, 1) := okd_at mX12_asksOf_0 59 rfl
def lmX12_asksOf_1 : List (Nat × Instr × Nat) := [(91, .invokestatic 176, 3), (94, .iastore, 1), (95, .aload_n 0, 1), (96, .getfield 58, 3), (99, .iconst 5, 1), (100, .iload_n 3, 1), (101, .iconst (-1), 1), (102, .if_icmp .ne 7, 3), (105, .iconst 0, 1), (106, .goto 4, 3), (109, .iload_n 3, 1), (110, .iastore, 1), (111, .aload_n 0, 1), (112, .iload_n 1, 1), (113, .invokevirtual 179, 3), (116, .iload_n 1, 1), (117, .ifCond .ne 7, 3), (120, .iconst 0, 1), (121, .goto 5, 3), (124, .bipush (-99), 2), (126, .bipush 99, 2), (128, .invokestatic 173, 3), (131, .ireturn, 1)]
theorem mX12_asksOf_1 : okd cX12_asksOf lmX12_asksOf_1 = true := by decide +kernel
theorem dX12_asksOf_91 : decode cX12_asksOf 91 = .ok (.invokestatic 176, 3) := okd_at mX12_asksOf_1 0 rfl
theorem dX12_asksOf_94 : decode cX12_asksOf 94 = .ok (.iastore, 1) := okd_at mX12_asksOf_1 1 rfl
theorem dX12_asksOf_95 : decode cX12_asksOf 95 = .ok (.aload_n 0, 1) := okd_at mX12_asksOf_1 2 rfl
theorem dX12_asksOf_96 : decode cX12_asksOf 96 = .ok (.getfield 58, 3) := okd_at mX12_asksOf_1 3 rfl
theorem dX12_asksOf_99 : decode cX12_asksOf 99 = .ok (.iconst 5, 1) := okd_at mX12_asksOf_1 4 rfl
theorem dX12_asksOf_100 : decode cX12_asksOf 100 = .ok (.iload_n 3, 1) := okd_at mX12_asksOf_1 5 rfl
theorem dX12_asksOf_101 : decode cX12_asksOf 101 = .ok (.iconst (-1), 1) := okd_at mX12_asksOf_1 6 rfl
theorem dX12_asksOf_102 : decode cX12_asksOf 102 = .ok (.if_icmp .ne 7, 3) := okd_at mX12_asksOf_1 7 rfl
theorem dX12_asksOf_105 : decode cX12_asksOf 105 = .ok (.iconst 0, 1) := okd_at mX12_asksOf_1 8 rfl
theorem dX12_asksOf_106 : decode cX12_asksOf 106 = .ok (.goto 4, 3) := okd_at mX12_asksOf_1 9 rfl
theorem dX12_asksOf_109 : decode cX12_asksOf 109 = .ok (.iload_n 3, 1) := okd_at mX12_asksOf_1 10 rfl
theorem dX12_asksOf_110 : decode cX12_asksOf 110 = .ok (.iastore, 1) := okd_at mX12_asksOf_1 11 rfl
theorem dX12_asksOf_111 : decode cX12_asksOf 111 = .ok (.aload_n 0, 1) := okd_at mX12_asksOf_1 12 rfl
theorem dX12_asksOf_112 : decode cX12_asksOf 112 = .ok (.iload_n 1, 1) := okd_at mX12_asksOf_1 13 rfl
theorem dX12_asksOf_113 : decode cX12_asksOf 113 = .ok (.invokevirtual 179, 3) := okd_at mX12_asksOf_1 14 rfl
theorem dX12_asksOf_116 : decode cX12_asksOf 116 = .ok (.iload_n 1, 1) := okd_at mX12_asksOf_1 15 rfl
theorem dX12_asksOf_117 : decode cX12_asksOf 117 = .ok (.ifCond .ne 7, 3) := okd_at mX12_asksOf_1 16 rfl
theorem dX12_asksOf_120 : decode cX12_asksOf 120 = .ok (.iconst 0, 1) := okd_at mX12_asksOf_1 17 rfl
theorem dX12_asksOf_121 : decode cX12_asksOf 121 = .ok (.goto 5, 3) := okd_at mX12_asksOf_1 18 rfl
theorem dX12_asksOf_124 : decode cX12_asksOf 124 = .ok (.bipush (-99), 2) := okd_at mX12_asksOf_1 19 rfl
theorem dX12_asksOf_126 : decode cX12_asksOf 126 = .ok (.bipush 99, 2) := okd_at mX12_asksOf_1 20 rfl
theorem dX12_asksOf_128 : decode cX12_asksOf 128 = .ok (.invokestatic 173, 3) := okd_at mX12_asksOf_1 21 rfl
theorem dX12_asksOf_131 : decode cX12_asksOf 131 = .ok (.ireturn, 1) := okd_at mX12_asksOf_1 22 rfl
def lmX12_back_0 : List (Nat × Instr × Nat) := [(0, .aload_n 0, 1), (1, .getfield 275, 3), (4, .ifCond .ne 6, 3), (7, .bipush (-3), 2), (9, .ireturn, 1), (10, .iconst 0, 1), (11, .istore_n 1, 1), (12, .iload_n 1, 1), (13, .bipush 24, 2), (15, .if_icmp .ge 21, 3), (18, .aload_n 0, 1), (19, .getfield 7, 3), (22, .iload_n 1, 1), (23, .aload_n 0, 1), (24, .getfield 31, 3), (27, .iload_n 1, 1), (28, .iaload, 1), (29, .iastore, 1), (30, .iinc 1 1, 3), (33, .goto (-21), 3), (36, .iconst 0, 1), (37, .istore_n 1, 1), (38, .iload_n 1, 1), (39, .bipush 12, 2), (41, .if_icmp .ge 24, 3), (44, .aload_n 0, 1), (45, .getfield 19, 3), (48, .iload_n 1, 1), (49, .aload_n 0, 1), (50, .getfield 31, 3), (53, .bipush 24, 2), (55, .iload_n 1, 1), (56, .iadd, 1), (57, .iaload, 1), (58, .iastore, 1), (59, .iinc 1 1, 3), (62, .goto (-24), 3), (65, .aload_n 0, 1), (66, .aload_n 0, 1), (67, .getfield 34, 3), (70, .iconst 0, 1), (71, .iaload, 1), (72, .putfield 97, 3), (75, .aload_n 0, 1), (76, .aload_n 0, 1), (77, .getfield 34, 3), (80, .iconst 1, 1), (81, .iaload, 1), (82, .putfield 90, 3), (85, .aload_n 0, 1), (86, .aload_n 0, 1), (87, .getfield 34, 3), (90, .iconst 2, 1), (91, .iaload, 1), (92, .putfield 103, 3), (95, .aload_n 0, 1), (96, .getfield 97, 3), (99, .ireturn, 1)]
theorem mX12_back_0 : okd cX12_back lmX12_back_0 = true := by decide +kernel
theorem dX12_back_0 : decode cX12_back 0 = .ok (.aload_n 0, 1) := okd_at mX12_back_0 0 rfl
theorem dX12_back_1 : decode cX12_back 1 = .ok (.getfield 275, 3) := okd_at mX12_back_0 1 rfl
theorem dX12_back_4 : decode cX12_back 4 = .ok (.ifCond .ne 6, 3) := okd_at mX12_back_0 2 rfl
theorem dX12_back_7 : decode cX12_back 7 = .ok (.bipush (-3), 2) := okd_at mX12_back_0 3 rfl
theorem dX12_back_9 : decode cX12_back 9 = .ok (.ireturn, 1) := okd_at mX12_back_0 4 rfl
theorem dX12_back_10 : decode cX12_back 10 = .ok (.iconst 0, 1) := okd_at mX12_back_0 5 rfl
theorem dX12_back_11 : decode cX12_back 11 = .ok (.istore_n 1, 1) := okd_at mX12_back_0 6 rfl
theorem dX12_back_12 : decode cX12_back 12 = .ok (.iload_n 1, 1) := okd_at mX12_back_0 7 rfl
theorem dX12_back_13 : decode cX12_back 13 = .ok (.bipush 24, 2) := okd_at mX12_back_0 8 rfl
theorem dX12_back_15 : decode cX12_back 15 = .ok (.if_icmp .ge 21, 3) := okd_at mX12_back_0 9 rfl
theorem dX12_back_18 : decode cX12_back 18 = .ok (.aload_n 0, 1) := okd_at mX12_back_0 10 rfl
theorem dX12_back_19 : decode cX12_back 19 = .ok (.getfield 7, 3) := okd_at mX12_back_0 11 rfl
theorem dX12_back_22 : decode cX12_back 22 = .ok (.iload_n 1, 1) := okd_at mX12_back_0 12 rfl
theorem dX12_back_23 : decode cX12_back 23 = .ok (.aload_n 0, 1) := okd_at mX12_back_0 13 rfl
theorem dX12_back_24 : decode cX12_back 24 = .ok (.getfield 31, 3) := okd_at mX12_back_0 14 rfl
theorem dX12_back_27 : decode cX12_back 27 = .ok (.iload_n 1, 1) := okd_at mX12_back_0 15 rfl
theorem dX12_back_28 : decode cX12_back 28 = .ok (.iaload, 1) := okd_at mX12_back_0 16 rfl
theorem dX12_back_29 : decode cX12_back 29 = .ok (.iastore, 1) := okd_at mX12_back_0 17 rfl
theorem dX12_back_30 : decode cX12_back 30 = .ok (.iinc 1 1, 3) := okd_at mX12_back_0 18 rfl
theorem dX12_back_33 : decode cX12_back 33 = .ok (.goto (-21), 3) := okd_at mX12_back_0 19 rfl
theorem dX12_back_36 : decode cX12_back 36 = .ok (.iconst 0, 1) := okd_at mX12_back_0 20 rfl
theorem dX12_back_37 : decode cX12_back 37 = .ok (.istore_n 1, 1) := okd_at mX12_back_0 21 rfl
theorem dX12_back_38 : decode cX12_back 38 = .ok (.iload_n 1, 1) := okd_at mX12_back_0 22 rfl
theorem dX12_back_39 : decode cX12_back 39 = .ok (.bipush 12, 2) := okd_at mX12_back_0 23 rfl
theorem dX12_back_41 : decode cX12_back 41 = .ok (.if_icmp .ge 24, 3) := okd_at mX12_back_0 24 rfl
theorem dX12_back_44 : decode cX12_back 44 = .ok (.aload_n 0, 1) := okd_at mX12_back_0 25 rfl
theorem dX12_back_45 : decode cX12_back 45 = .ok (.getfield 19, 3) := okd_at mX12_back_0 26 rfl
theorem dX12_back_48 : decode cX12_back 48 = .ok (.iload_n 1, 1) := okd_at mX12_back_0 27 rfl
theorem dX12_back_49 : decode cX12_back 49 = .ok (.aload_n 0, 1) := okd_at mX12_back_0 28 rfl
theorem dX12_back_50 : decode cX12_back 50 = .ok (.getfield 31, 3) := okd_at mX12_back_0 29 rfl
theorem dX12_back_53 : decode cX12_back 53 = .ok (.bipush 24, 2) := okd_at mX12_back_0 30 rfl
theorem dX12_back_55 : decode cX12_back 55 = .ok (.iload_n 1, 1) := okd_at mX12_back_0 31 rfl
theorem dX12_back_56 : decode cX12_back 56 = .ok (.iadd, 1) := okd_at mX12_back_0 32 rfl
theorem dX12_back_57 : decode cX12_back 57 = .ok (.iaload, 1) := okd_at mX12_back_0 33 rfl
theorem dX12_back_58 : decode cX12_back 58 = .ok (.iastore, 1) := okd_at mX12_back_0 34 rfl
theorem dX12_back_59 : decode cX12_back 59 = .ok (.iinc 1 1, 3) := okd_at mX12_back_0 35 rfl
theorem dX12_back_62 : decode cX12_back 62 = .ok (.goto (-24), 3) := okd_at mX12_back_0 36 rfl
theorem dX12_back_65 : decode cX12_back 65 = .ok (.aload_n 0, 1) := okd_at mX12_back_0 37 rfl
theorem dX12_back_66 : decode cX12_back 66 = .ok (.aload_n 0, 1) := okd_at mX12_back_0 38 rfl
theorem dX12_back_67 : decode cX12_back 67 = .ok (.getfield 34, 3) := okd_at mX12_back_0 39 rfl
theorem dX12_back_70 : decode cX12_back 70 = .ok (.iconst 0, 1) := okd_at mX12_back_0 40 rfl
theorem dX12_back_71 : decode cX12_back 71 = .ok (.iaload, 1) := okd_at mX12_back_0 41 rfl
theorem dX12_back_72 : decode cX12_back 72 = .ok (.putfield 97, 3) := okd_at mX12_back_0 42 rfl
theorem dX12_back_75 : decode cX12_back 75 = .ok (.aload_n 0, 1) := okd_at mX12_back_0 43 rfl
theorem dX12_back_76 : decode cX12_back 76 = .ok (.aload_n 0, 1) := okd_at mX12_back_0 44 rfl
theorem dX12_back_77 : decode cX12_back 77 = .ok (.getfield 34, 3) := okd_at mX12_back_0 45 rfl
theorem dX12_back_80 : decode cX12_back 80 = .ok (.iconst 1, 1) := okd_at mX12_back_0 46 rfl
theorem dX12_back_81 : decode cX12_back 81 = .ok (.iaload, 1) := okd_at mX12_back_0 47 rfl
theorem dX12_back_82 : decode cX12_back 82 = .ok (.putfield 90, 3) := okd_at mX12_back_0 48 rfl
theorem dX12_back_85 : decode cX12_back 85 = .ok (.aload_n 0, 1) := okd_at mX12_back_0 49 rfl
theorem dX12_back_86 : decode cX12_back 86 = .ok (.aload_n 0, 1) := okd_at mX12_back_0 50 rfl
theorem dX12_back_87 : decode cX12_back 87 = .ok (.getfield 34, 3) := okd_at mX12_back_0 51 rfl
theorem dX12_back_90 : decode cX12_back 90 = .ok (.iconst 2, 1) := okd_at mX12_back_0 52 rfl
theorem dX12_back_91 : decode cX12_back 91 = .ok (.iaload, 1) := okd_at mX12_back_0 53 rfl
theorem dX12_back_92 : decode cX12_back 92 = .ok (.putfield 103, 3) := okd_at mX12_back_0 54 rfl
theorem dX12_back_95 : decode cX12_back 95 = .ok (.aload_n 0, 1) := okd_at mX12_back_0 55 rfl
theorem dX12_back_96 : decode cX12_back 96 = .ok (.getfield 97, 3) := okd_at mX12_back_0 56 rfl
theorem dX12_back_99 : decode cX12_back 99 = .ok (.ireturn, 1) := okd_at mX12_back_0 57 rfl
def lmX12_begins_0 : List (Nat × Instr × Nat) := [(0, .iconst 0, 1), (1, .istore_n 1, 1), (2, .iload_n 1, 1), (3, .bipush 8, 2), (5, .if_icmp .ge 16, 3), (8, .aload_n 0, 1), (9, .getfield 61, 3), (12, .iload_n 1, 1), (13, .iconst 0, 1), (14, .iastore, 1), (15, .iinc 1 1, 3), (18, .goto (-16), 3), (21, .return_, 1)]
theorem mX12_begins_0 : okd cX12_begins lmX12_begins_0 = true := by decide +kernel
theorem dX12_begins_0 : decode cX12_begins 0 = .ok (.iconst 0, 1) := okd_at mX12_begins_0 0 rfl
theorem dX12_begins_1 : decode cX12_begins 1 = .ok (.istore_n 1, 1) := okd_at mX12_begins_0 1 rfl
theorem dX12_begins_2 : decode cX12_begins 2 = .ok (.iload_n 1, 1) := okd_at mX12_begins_0 2 rfl
theorem dX12_begins_3 : decode cX12_begins 3 = .ok (.bipush 8, 2) := okd_at mX12_begins_0 3 rfl
theorem dX12_begins_5 : decode cX12_begins 5 = .ok (.if_icmp .ge 16, 3) := okd_at mX12_begins_0 4 rfl
theorem dX12_begins_8 : decode cX12_begins 8 = .ok (.aload_n 0, 1) := okd_at mX12_begins_0 5 rfl
theorem dX12_begins_9 : decode cX12_begins 9 = .ok (.getfield 61, 3) := okd_at mX12_begins_0 6 rfl
theorem dX12_begins_12 : decode cX12_begins 12 = .ok (.iload_n 1, 1) := okd_at mX12_begins_0 7 rfl
theorem dX12_begins_13 : decode cX12_begins 13 = .ok (.iconst 0, 1) := okd_at mX12_begins_0 8 rfl
theorem dX12_begins_14 : decode cX12_begins 14 = .ok (.iastore, 1) := okd_at mX12_begins_0 9 rfl
theorem dX12_begins_15 : decode cX12_begins 15 = .ok (.iinc 1 1, 3) := okd_at mX12_begins_0 10 rfl
theorem dX12_begins_18 : decode cX12_begins 18 = .ok (.goto (-16), 3) := okd_at mX12_begins_0 11 rfl
theorem dX12_begins_21 : decode cX12_begins 21 = .ok (.return_, 1) := okd_at mX12_begins_0 12 rfl
def lmX12_between_0 : List (Nat × Instr × Nat) := [(0, .aload_n 0, 1), (1, .iload_n 1, 1), (2, .invokestatic 135, 3), (5, .iconst 4, 1), (6, .if_icmp .ne 7, 3), (9, .iconst 5, 1), (10, .goto 7, 3), (13, .iload_n 1, 1), (14, .invokestatic 135, 3), (17, .invokevirtual 149, 3), (20, .iload_n 1, 1), (21, .invokestatic 135, 3), (24, .iconst 4, 1), (25, .if_icmp .ne 30, 3), (28, .aload_n 0, 1), (29, .getfield 132, 3), (32, .ifCond .le 23, 3), (35, .aload_n 0, 1), (36, .getfield 52, 3), (39, .aload_n 0, 1), (40, .getfield 132, 3), (43, .iconst 1, 1), (44, .isub, 1), (45, .iaload, 1), (46, .invokestatic 135, 3), (49, .iconst 4, 1), (50, .if_icmp .ne 5, 3), (53, .iconst 0, 1), (54, .ireturn, 1), (55, .aload_n 0, 1), (56, .iload_n 1, 1), (57, .invokevirtual 146, 3), (60, .iconst 1, 1), (61, .ireturn, 1)]
theorem mX12_between_0 : okd cX12_between lmX12_between_0 = true := by decide +kernel
theorem dX12_between_0 : decode cX12_between 0 = .ok (.aload_n 0, 1) := okd_at mX12_between_0 0 rfl
theorem dX12_between_1 : decode cX12_between 1 = .ok (.iload_n 1, 1) := okd_at mX12_between_0 1 rfl
theorem dX12_between_2 : decode cX12_between 2 = .ok (.invokestatic 135, 3) := okd_at mX12_between_0 2 rfl
theorem dX12_between_5 : decode cX12_between 5 = .ok (.iconst 4, 1) := okd_at mX12_between_0 3 rfl
theorem dX12_between_6 : decode cX12_between 6 = .ok (.if_icmp .ne 7, 3) := okd_at mX12_between_0 4 rfl
theorem dX12_between_9 : decode cX12_between 9 = .ok (.iconst 5, 1) := okd_at mX12_between_0 5 rfl
theorem dX12_between_10 : decode cX12_between 10 = .ok (.goto 7, 3) := okd_at mX12_between_0 6 rfl
theorem dX12_between_13 : decode cX12_between 13 = .ok (.iload_n 1, 1) := okd_at mX12_between_0 7 rfl
theorem dX12_between_14 : decode cX12_between 14 = .ok (.invokestatic 135, 3) := okd_at mX12_between_0 8 rfl
theorem dX12_between_17 : decode cX12_between 17 = .ok (.invokevirtual 149, 3) := okd_at mX12_between_0 9 rfl
theorem dX12_between_20 : decode cX12_between 20 = .ok (.iload_n 1, 1) := okd_at mX12_between_0 10 rfl
theorem dX12_between_21 : decode cX12_between 21 = .ok (.invokestatic 135, 3) := okd_at mX12_between_0 11 rfl
theorem dX12_between_24 : decode cX12_between 24 = .ok (.iconst 4, 1) := okd_at mX12_between_0 12 rfl
theorem dX12_between_25 : decode cX12_between 25 = .ok (.if_icmp .ne 30, 3) := okd_at mX12_between_0 13 rfl
theorem dX12_between_28 : decode cX12_between 28 = .ok (.aload_n 0, 1) := okd_at mX12_between_0 14 rfl
theorem dX12_between_29 : decode cX12_between 29 = .ok (.getfield 132, 3) := okd_at mX12_between_0 15 rfl
theorem dX12_between_32 : decode cX12_between 32 = .ok (.ifCond .le 23, 3) := okd_at mX12_between_0 16 rfl
theorem dX12_between_35 : decode cX12_between 35 = .ok (.aload_n 0, 1) := okd_at mX12_between_0 17 rfl
theorem dX12_between_36 : decode cX12_between 36 = .ok (.getfield 52, 3) := okd_at mX12_between_0 18 rfl
theorem dX12_between_39 : decode cX12_between 39 = .ok (.aload_n 0, 1) := okd_at mX12_between_0 19 rfl
theorem dX12_between_40 : decode cX12_between 40 = .ok (.getfield 132, 3) := okd_at mX12_between_0 20 rfl
theorem dX12_between_43 : decode cX12_between 43 = .ok (.iconst 1, 1) := okd_at mX12_between_0 21 rfl
theorem dX12_between_44 : decode cX12_between 44 = .ok (.isub, 1) := okd_at mX12_between_0 22 rfl
theorem dX12_between_45 : decode cX12_between 45 = .ok (.iaload, 1) := okd_at mX12_between_0 23 rfl
theorem dX12_between_46 : decode cX12_between 46 = .ok (.invokestatic 135, 3) := okd_at mX12_between_0 24 rfl
theorem dX12_between_49 : decode cX12_between 49 = .ok (.iconst 4, 1) := okd_at mX12_between_0 25 rfl
theorem dX12_between_50 : decode cX12_between 50 = .ok (.if_icmp .ne 5, 3) := okd_at mX12_between_0 26 rfl
theorem dX12_between_53 : decode cX12_between 53 = .ok (.iconst 0, 1) := okd_at mX12_between_0 27 rfl
theorem dX12_between_54 : decode cX12_between 54 = .ok (.ireturn, 1) := okd_at mX12_between_0 28 rfl
theorem dX12_between_55 : decode cX12_between 55 = .ok (.aload_n 0, 1) := okd_at mX12_between_0 29 rfl
theorem dX12_between_56 : decode cX12_between 56 = .ok (.iload_n 1, 1) := okd_at mX12_between_0 30 rfl
theorem dX12_between_57 : decode cX12_between 57 = .ok (.invokevirtual 146, 3) := okd_at mX12_between_0 31 rfl
theorem dX12_between_60 : decode cX12_between 60 = .ok (.iconst 1, 1) := okd_at mX12_between_0 32 rfl
theorem dX12_between_61 : decode cX12_between 61 = .ok (.ireturn, 1) := okd_at mX12_between_0 33 rfl
def lmX12_card_0 : List (Nat × Instr × Nat) := [(0, .aload_n 0, 1), (1, .iload_n 1, 1), (2, .invokevirtual 182, 3), (5, .ifCond .ne 6, 3), (8, .bipush (-6), 2), (10, .ireturn, 1), (11, .iload_n 2, 1), (12, .ifCond .ne 12, 3), (15, .aload_n 0, 1), (16, .getfield 13, 3), (19, .iload_n 1, 1), (20, .iaload, 1), (21, .goto 43, 3), (24, .iload_n 2, 1), (25, .iconst 1, 1), (26, .if_icmp .ne 12, 3), (29, .aload_n 0, 1), (30, .getfield 16, 3), (33, .iload_n 1, 1), (34, .iaload, 1), (35, .goto 29, 3), (38, .iload_n 2, 1), (39, .iconst 2, 1), (40, .iconst 3, 1), (41, .invokestatic 93, 3), (44, .ifCond .eq 18, 3), (47, .aload_n 0, 1), (48, .getfield 19, 3), (51, .iconst 2, 1), (52, .iload_n 1, 1), (53, .imul, 1), (54, .iload_n 2, 1), (55, .iadd, 1), (56, .iconst 2, 1), (57, .isub, 1), (58, .iaload, 1), (59, .goto 5, 3), (62, .bipush (-7), 2), (64, .ireturn, 1)]
theorem mX12_card_0 : okd cX12_card lmX12_card_0 = true := by decide +kernel
theorem dX12_card_0 : decode cX12_card 0 = .ok (.aload_n 0, 1) := okd_at mX12_card_0 0 rfl
theorem dX12_card_1 : decode cX12_card 1 = .ok (.iload_n 1, 1) := okd_at mX12_card_0 1 rfl
theorem dX12_card_2 : decode cX12_card 2 = .ok (.invokevirtual 182, 3) := okd_at mX12_card_0 2 rfl
theorem dX12_card_5 : decode cX12_card 5 = .ok (.ifCond .ne 6, 3) := okd_at mX12_card_0 3 rfl
theorem dX12_card_8 : decode cX12_card 8 = .ok (.bipush (-6), 2) := okd_at mX12_card_0 4 rfl
theorem dX12_card_10 : decode cX12_card 10 = .ok (.ireturn, 1) := okd_at mX12_card_0 5 rfl
theorem dX12_card_11 : decode cX12_card 11 = .ok (.iload_n 2, 1) := okd_at mX12_card_0 6 rfl
theorem dX12_card_12 : decode cX12_card 12 = .ok (.ifCond .ne 12, 3) := okd_at mX12_card_0 7 rfl
theorem dX12_card_15 : decode cX12_card 15 = .ok (.aload_n 0, 1) := okd_at mX12_card_0 8 rfl
theorem dX12_card_16 : decode cX12_card 16 = .ok (.getfield 13, 3) := okd_at mX12_card_0 9 rfl
theorem dX12_card_19 : decode cX12_card 19 = .ok (.iload_n 1, 1) := okd_at mX12_card_0 10 rfl
theorem dX12_card_20 : decode cX12_card 20 = .ok (.iaload, 1) := okd_at mX12_card_0 11 rfl
theorem dX12_card_21 : decode cX12_card 21 = .ok (.goto 43, 3) := okd_at mX12_card_0 12 rfl
theorem dX12_card_24 : decode cX12_card 24 = .ok (.iload_n 2, 1) := okd_at mX12_card_0 13 rfl
theorem dX12_card_25 : decode cX12_card 25 = .ok (.iconst 1, 1) := okd_at mX12_card_0 14 rfl
theorem dX12_card_26 : decode cX12_card 26 = .ok (.if_icmp .ne 12, 3) := okd_at mX12_card_0 15 rfl
theorem dX12_card_29 : decode cX12_card 29 = .ok (.aload_n 0, 1) := okd_at mX12_card_0 16 rfl
theorem dX12_card_30 : decode cX12_card 30 = .ok (.getfield 16, 3) := okd_at mX12_card_0 17 rfl
theorem dX12_card_33 : decode cX12_card 33 = .ok (.iload_n 1, 1) := okd_at mX12_card_0 18 rfl
theorem dX12_card_34 : decode cX12_card 34 = .ok (.iaload, 1) := okd_at mX12_card_0 19 rfl
theorem dX12_card_35 : decode cX12_card 35 = .ok (.goto 29, 3) := okd_at mX12_card_0 20 rfl
theorem dX12_card_38 : decode cX12_card 38 = .ok (.iload_n 2, 1) := okd_at mX12_card_0 21 rfl
theorem dX12_card_39 : decode cX12_card 39 = .ok (.iconst 2, 1) := okd_at mX12_card_0 22 rfl
theorem dX12_card_40 : decode cX12_card 40 = .ok (.iconst 3, 1) := okd_at mX12_card_0 23 rfl
theorem dX12_card_41 : decode cX12_card 41 = .ok (.invokestatic 93, 3) := okd_at mX12_card_0 24 rfl
theorem dX12_card_44 : decode cX12_card 44 = .ok (.ifCond .eq 18, 3) := okd_at mX12_card_0 25 rfl
theorem dX12_card_47 : decode cX12_card 47 = .ok (.aload_n 0, 1) := okd_at mX12_card_0 26 rfl
theorem dX12_card_48 : decode cX12_card 48 = .ok (.getfield 19, 3) := okd_at mX12_card_0 27 rfl
theorem dX12_card_51 : decode cX12_card 51 = .ok (.iconst 2, 1) := okd_at mX12_card_0 28 rfl
theorem dX12_card_52 : decode cX12_card 52 = .ok (.iload_n 1, 1) := okd_at mX12_card_0 29 rfl
theorem dX12_card_53 : decode cX12_card 53 = .ok (.imul, 1) := okd_at mX12_card_0 30 rfl
theorem dX12_card_54 : decode cX12_card 54 = .ok (.iload_n 2, 1) := okd_at mX12_card_0 31 rfl
theorem dX12_card_55 : decode cX12_card 55 = .ok (.iadd, 1) := okd_at mX12_card_0 32 rfl
theorem dX12_card_56 : decode cX12_card 56 = .ok (.iconst 2, 1) := okd_at mX12_card_0 33 rfl
theorem dX12_card_57 : decode cX12_card 57 = .ok (.isub, 1) := okd_at mX12_card_0 34 rfl
theorem dX12_card_58 : decode cX12_card 58 = .ok (.iaload, 1) := okd_at mX12_card_0 35 rfl
theorem dX12_card_59 : decode cX12_card 59 = .ok (.goto 5, 3) := okd_at mX12_card_0 36 rfl
theorem dX12_card_62 : decode cX12_card 62 = .ok (.bipush (-7), 2) := okd_at mX12_card_0 37 rfl
theorem dX12_card_64 : decode cX12_card 64 = .ok (.ireturn, 1) := okd_at mX12_card_0 38 rfl
def lmX12_cell_0 : List (Nat × Instr × Nat) := [(0, .iload_n 1, 1), (1, .iconst 0, 1), (2, .iconst 3, 1), (3, .invokestatic 93, 3), (6, .ifCond .ne 6, 3), (9, .bipush (-2), 2), (11, .ireturn, 1), (12, .aload_n 0, 1), (13, .getfield 37, 3), (16, .iload_n 1, 1), (17, .iaload, 1), (18, .iconst (-1), 1), (19, .if_icmp .ne 6, 3), (22, .bipush (-11), 2), (24, .ireturn, 1), (25, .iload_n 2, 1), (26, .iconst 0, 1), (27, .aload_n 0, 1), (28, .getfield 40, 3), (31, .iload_n 1, 1), (32, .iaload, 1), (33, .iconst 1, 1), (34, .isub, 1), (35, .invokestatic 93, 3), (38, .ifCond .ne 6, 3), (41, .bipush (-12), 2), (43, .ireturn, 1), (44, .aload_n 0, 1), (45, .getfield 43, 3), (48, .bipush 40, 2), (50, .iload_n 1, 1), (51, .imul, 1), (52, .iload_n 2, 1), (53, .iadd, 1), (54, .aload_n 0, 1), (55, .getfield 37, 3), (58, .iload_n 1, 1), (59, .iaload, 1), (60, .ifCond .ne 8, 3), (63, .iload_n 3, 1), (64, .i2b, 1), (65, .goto 19, 3), (68, .aload_n 0, 1), (69, .getfield 37, 3), (72, .iload_n 1, 1), (73, .iaload, 1), (74, .iconst 1, 1), (75, .if_icmp .ne 8, 3), (78, .iload_n 3, 1), (79, .i2s, 1), (80, .goto 4, 3), (83, .iload_n 3, 1), (84, .iastore, 1), (85, .iconst 1, 1), (86, .ireturn, 1)]
theorem mX12_cell_0 : okd cX12_cell lmX12_cell_0 = true := by decide +kernel
theorem dX12_cell_0 : decode cX12_cell 0 = .ok (.iload_n 1, 1) := okd_at mX12_cell_0 0 rfl
theorem dX12_cell_1 : decode cX12_cell 1 = .ok (.iconst 0, 1) := okd_at mX12_cell_0 1 rfl
theorem dX12_cell_2 : decode cX12_cell 2 = .ok (.iconst 3, 1) := okd_at mX12_cell_0 2 rfl
theorem dX12_cell_3 : decode cX12_cell 3 = .ok (.invokestatic 93, 3) := okd_at mX12_cell_0 3 rfl
theorem dX12_cell_6 : decode cX12_cell 6 = .ok (.ifCond .ne 6, 3) := okd_at mX12_cell_0 4 rfl
theorem dX12_cell_9 : decode cX12_cell 9 = .ok (.bipush (-2), 2) := okd_at mX12_cell_0 5 rfl
theorem dX12_cell_11 : decode cX12_cell 11 = .ok (.ireturn, 1) := okd_at mX12_cell_0 6 rfl
theorem dX12_cell_12 : decode cX12_cell 12 = .ok (.aload_n 0, 1) := okd_at mX12_cell_0 7 rfl
theorem dX12_cell_13 : decode cX12_cell 13 = .ok (.getfield 37, 3) := okd_at mX12_cell_0 8 rfl
theorem dX12_cell_16 : decode cX12_cell 16 = .ok (.iload_n 1, 1) := okd_at mX12_cell_0 9 rfl
theorem dX12_cell_17 : decode cX12_cell 17 = .ok (.iaload, 1) := okd_at mX12_cell_0 10 rfl
theorem dX12_cell_18 : decode cX12_cell 18 = .ok (.iconst (-1), 1) := okd_at mX12_cell_0 11 rfl
theorem dX12_cell_19 : decode cX12_cell 19 = .ok (.if_icmp .ne 6, 3) := okd_at mX12_cell_0 12 rfl
theorem dX12_cell_22 : decode cX12_cell 22 = .ok (.bipush (-11), 2) := okd_at mX12_cell_0 13 rfl
theorem dX12_cell_24 : decode cX12_cell 24 = .ok (.ireturn, 1) := okd_at mX12_cell_0 14 rfl
theorem dX12_cell_25 : decode cX12_cell 25 = .ok (.iload_n 2, 1) := okd_at mX12_cell_0 15 rfl
theorem dX12_cell_26 : decode cX12_cell 26 = .ok (.iconst 0, 1) := okd_at mX12_cell_0 16 rfl
theorem dX12_cell_27 : decode cX12_cell 27 = .ok (.aload_n 0, 1) := okd_at mX12_cell_0 17 rfl
theorem dX12_cell_28 : decode cX12_cell 28 = .ok (.getfield 40, 3) := okd_at mX12_cell_0 18 rfl
theorem dX12_cell_31 : decode cX12_cell 31 = .ok (.iload_n 1, 1) := okd_at mX12_cell_0 19 rfl
theorem dX12_cell_32 : decode cX12_cell 32 = .ok (.iaload, 1) := okd_at mX12_cell_0 20 rfl
theorem dX12_cell_33 : decode cX12_cell 33 = .ok (.iconst 1, 1) := okd_at mX12_cell_0 21 rfl
theorem dX12_cell_34 : decode cX12_cell 34 = .ok (.isub, 1) := okd_at mX12_cell_0 22 rfl
theorem dX12_cell_35 : decode cX12_cell 35 = .ok (.invokestatic 93, 3) := okd_at mX12_cell_0 23 rfl
theorem dX12_cell_38 : decode cX12_cell 38 = .ok (.ifCond .ne 6, 3) := okd_at mX12_cell_0 24 rfl
theorem dX12_cell_41 : decode cX12_cell 41 = .ok (.bipush (-12), 2) := okd_at mX12_cell_0 25 rfl
theorem dX12_cell_43 : decode cX12_cell 43 = .ok (.ireturn, 1) := okd_at mX12_cell_0 26 rfl
theorem dX12_cell_44 : decode cX12_cell 44 = .ok (.aload_n 0, 1) := okd_at mX12_cell_0 27 rfl
theorem dX12_cell_45 : decode cX12_cell 45 = .ok (.getfield 43, 3) := okd_at mX12_cell_0 28 rfl
theorem dX12_cell_48 : decode cX12_cell 48 = .ok (.bipush 40, 2) := okd_at mX12_cell_0 29 rfl
theorem dX12_cell_50 : decode cX12_cell 50 = .ok (.iload_n 1, 1) := okd_at mX12_cell_0 30 rfl
theorem dX12_cell_51 : decode cX12_cell 51 = .ok (.imul, 1) := okd_at mX12_cell_0 31 rfl
theorem dX12_cell_52 : decode cX12_cell 52 = .ok (.iload_n 2, 1) := okd_at mX12_cell_0 32 rfl
theorem dX12_cell_53 : decode cX12_cell 53 = .ok (.iadd, 1) := okd_at mX12_cell_0 33 rfl
theorem dX12_cell_54 : decode cX12_cell 54 = .ok (.aload_n 0, 1) := okd_at mX12_cell_0 34 rfl
theorem dX12_cell_55 : decode cX12_cell 55 = .ok (.getfield 37, 3) := okd_at mX12_cell_0 35 rfl
theorem dX12_cell_58 : decode cX12_cell 58 = .ok (.iload_n 1, 1) := okd_at mX12_cell_0 36 rfl
theorem dX12_cell_59 : decode cX12_cell 59 = .ok (.iaload, 1) := okd_at mX12_cell_0 37 rfl
theorem dX12_cell_60 : decode cX12_cell 60 = .ok (.ifCond .ne 8, 3) := okd_at mX12_cell_0 38 rfl
theorem dX12_cell_63 : decode cX12_cell 63 = .ok (.iload_n 3, 1) := okd_at mX12_cell_0 39 rfl
theorem dX12_cell_64 : decode cX12_cell 64 = .ok (.i2b, 1) := okd_at mX12_cell_0 40 rfl
theorem dX12_cell_65 : decode cX12_cell 65 = .ok (.goto 19, 3) := okd_at mX12_cell_0 41 rfl
theorem dX12_cell_68 : decode cX12_cell 68 = .ok (.aload_n 0, 1) := okd_at mX12_cell_0 42 rfl
theorem dX12_cell_69 : decode cX12_cell 69 = .ok (.getfield 37, 3) := okd_at mX12_cell_0 43 rfl
theorem dX12_cell_72 : decode cX12_cell 72 = .ok (.iload_n 1, 1) := okd_at mX12_cell_0 44 rfl
theorem dX12_cell_73 : decode cX12_cell 73 = .ok (.iaload, 1) := okd_at mX12_cell_0 45 rfl
theorem dX12_cell_74 : decode cX12_cell 74 = .ok (.iconst 1, 1) := okd_at mX12_cell_0 46 rfl
theorem dX12_cell_75 : decode cX12_cell 75 = .ok (.if_icmp .ne 8, 3) := okd_at mX12_cell_0 47 rfl
theorem dX12_cell_78 : decode cX12_cell 78 = .ok (.iload_n 3, 1) := okd_at mX12_cell_0 48 rfl
theorem dX12_cell_79 : decode cX12_cell 79 = .ok (.i2s, 1) := okd_at mX12_cell_0 49 rfl
theorem dX12_cell_80 : decode cX12_cell 80 = .ok (.goto 4, 3) := okd_at mX12_cell_0 50 rfl
theorem dX12_cell_83 : decode cX12_cell 83 = .ok (.iload_n 3, 1) := okd_at mX12_cell_0 51 rfl
theorem dX12_cell_84 : decode cX12_cell 84 = .ok (.iastore, 1) := okd_at mX12_cell_0 52 rfl
theorem dX12_cell_85 : decode cX12_cell 85 = .ok (.iconst 1, 1) := okd_at mX12_cell_0 53 rfl
theorem dX12_cell_86 : decode cX12_cell 86 = .ok (.ireturn, 1) := okd_at mX12_cell_0 54 rfl
def lmX12_changed_0 : List (Nat × Instr × Nat) := [(0, .aload_n 0, 1), (1, .invokevirtual 234, 3), (4, .iconst 0, 1), (5, .istore_n 2, 1), (6, .iload_n 2, 1), (7, .aload_n 0, 1), (8, .getfield 97, 3), (11, .if_icmp .ge 88, 3), (14, .aload_n 0, 1), (15, .getfield 19, 3), (18, .iconst 2, 1), (19, .iload_n 2, 1), (20, .imul, 1), (21, .iaload, 1), (22, .istore_n 3, 1), (23, .iconst 0, 1), (24, .istore 4, 2), (26, .iload 4, 2), (28, .aload_n 0, 1), (29, .getfield 90, 3), (32, .if_icmp .ge 52, 3), (35, .iload_n 3, 1), (36, .iload 4, 2), (38, .ishr, 1), (39, .iconst 1, 1), (40, .iand, 1), (41, .iload_n 1, 1), (42, .ifCond .eq 7, 3), (45, .iconst 0, 1), (46, .goto 4, 3), (49, .iconst 1, 1), (50, .if_icmp .ne 28, 3), (53, .aload_n 0, 1), (54, .getfield 19, 3), (57, .iconst 2, 1), (58, .iload_n 2, 1), (59, .imul, 1), (60, .iload_n 3, 1), (61, .iconst 1, 1), (62, .iload 4, 2), (64, .ishl, 1), (65, .ixor, 1), (66, .iastore, 1), (67, .aload_n 0, 1), (68, .bipush 10, 2), (70, .iload_n 2, 1), (71, .imul, 1), (72, .iload 4, 2), (74, .iadd, 1), (75, .invokevirtual 237, 3), (78, .iinc 4 1, 3), (81, .goto (-55), 3), (84, .aload_n 0, 1), (85, .getfield 19, 3), (88, .iconst 2, 1), (89, .iload_n 2, 1), (90, .imul, 1), (91, .iload_n 3, 1), (92, .iastore, 1), (93, .iinc 2 1, 3)]
theorem mX12_changed_0 : okd cX12_changed lmX12_changed_0 = true := by decide +kernel
theorem dX12_changed_0 : decode cX12_changed 0 = .ok (.aload_n 0, 1) := okd_at mX12_changed_0 0 rfl
theorem dX12_changed_1 : decode cX12_changed 1 = .ok (.invokevirtual 234, 3) := okd_at mX12_changed_0 1 rfl
theorem dX12_changed_4 : decode cX12_changed 4 = .ok (.iconst 0, 1) := okd_at mX12_changed_0 2 rfl
theorem dX12_changed_5 : decode cX12_changed 5 = .ok (.istore_n 2, 1) := okd_at mX12_changed_0 3 rfl
theorem dX12_changed_6 : decode cX12_changed 6 = .ok (.iload_n 2, 1) := okd_at mX12_changed_0 4 rfl
theorem dX12_changed_7 : decode cX12_changed 7 = .ok (.aload_n 0, 1) := okd_at mX12_changed_0 5 rfl
theorem dX12_changed_8 : decode cX12_changed 8 = .ok (.getfield 97, 3) := okd_at mX12_changed_0 6 rfl
theorem dX12_changed_11 : decode cX12_changed 11 = .ok (.if_icmp .ge 88, 3) := okd_at mX12_changed_0 7 rfl
theorem dX12_changed_14 : decode cX12_changed 14 = .ok (.aload_n 0, 1) := okd_at mX12_changed_0 8 rfl
theorem dX12_changed_15 : decode cX12_changed 15 = .ok (.getfield 19, 3) := okd_at mX12_changed_0 9 rfl
theorem dX12_changed_18 : decode cX12_changed 18 = .ok (.iconst 2, 1) := okd_at mX12_changed_0 10 rfl
theorem dX12_changed_19 : decode cX12_changed 19 = .ok (.iload_n 2, 1) := okd_at mX12_changed_0 11 rfl
theorem dX12_changed_20 : decode cX12_changed 20 = .ok (.imul, 1) := okd_at mX12_changed_0 12 rfl
theorem dX12_changed_21 : decode cX12_changed 21 = .ok (.iaload, 1) := okd_at mX12_changed_0 13 rfl
theorem dX12_changed_22 : decode cX12_changed 22 = .ok (.istore_n 3, 1) := okd_at mX12_changed_0 14 rfl
theorem dX12_changed_23 : decode cX12_changed 23 = .ok (.iconst 0, 1) := okd_at mX12_changed_0 15 rfl
theorem dX12_changed_24 : decode cX12_changed 24 = .ok (.istore 4, 2) := okd_at mX12_changed_0 16 rfl
theorem dX12_changed_26 : decode cX12_changed 26 = .ok (.iload 4, 2) := okd_at mX12_changed_0 17 rfl
theorem dX12_changed_28 : decode cX12_changed 28 = .ok (.aload_n 0, 1) := okd_at mX12_changed_0 18 rfl
theorem dX12_changed_29 : decode cX12_changed 29 = .ok (.getfield 90, 3) := okd_at mX12_changed_0 19 rfl
theorem dX12_changed_32 : decode cX12_changed 32 = .ok (.if_icmp .ge 52, 3) := okd_at mX12_changed_0 20 rfl
theorem dX12_changed_35 : decode cX12_changed 35 = .ok (.iload_n 3, 1) := okd_at mX12_changed_0 21 rfl
theorem dX12_changed_36 : decode cX12_changed 36 = .ok (.iload 4, 2) := okd_at mX12_changed_0 22 rfl
theorem dX12_changed_38 : decode cX12_changed 38 = .ok (.ishr, 1) := okd_at mX12_changed_0 23 rfl
theorem dX12_changed_39 : decode cX12_changed 39 = .ok (.iconst 1, 1) := okd_at mX12_changed_0 24 rfl
theorem dX12_changed_40 : decode cX12_changed 40 = .ok (.iand, 1) := okd_at mX12_changed_0 25 rfl
theorem dX12_changed_41 : decode cX12_changed 41 = .ok (.iload_n 1, 1) := okd_at mX12_changed_0 26 rfl
theorem dX12_changed_42 : decode cX12_changed 42 = .ok (.ifCond .eq 7, 3) := okd_at mX12_changed_0 27 rfl
theorem dX12_changed_45 : decode cX12_changed 45 = .ok (.iconst 0, 1) := okd_at mX12_changed_0 28 rfl
theorem dX12_changed_46 : decode cX12_changed 46 = .ok (.goto 4, 3) := okd_at mX12_changed_0 29 rfl
theorem dX12_changed_49 : decode cX12_changed 49 = .ok (.iconst 1, 1) := okd_at mX12_changed_0 30 rfl
theorem dX12_changed_50 : decode cX12_changed 50 = .ok (.if_icmp .ne 28, 3) := okd_at mX12_changed_0 31 rfl
theorem dX12_changed_53 : decode cX12_changed 53 = .ok (.aload_n 0, 1) := okd_at mX12_changed_0 32 rfl
theorem dX12_changed_54 : decode cX12_changed 54 = .ok (.getfield 19, 3) := okd_at mX12_changed_0 33 rfl
theorem dX12_changed_57 : decode cX12_changed 57 = .ok (.iconst 2, 1) := okd_at mX12_changed_0 34 rfl
theorem dX12_changed_58 : decode cX12_changed 58 = .ok (.iload_n 2, 1) := okd_at mX12_changed_0 35 rfl
theorem dX12_changed_59 : decode cX12_changed 59 = .ok (.imul, 1) := okd_at mX12_changed_0 36 rfl
theorem dX12_changed_60 : decode cX12_changed 60 = .ok (.iload_n 3, 1) := okd_at mX12_changed_0 37 rfl
theorem dX12_changed_61 : decode cX12_changed 61 = .ok (.iconst 1, 1) := okd_at mX12_changed_0 38 rfl
theorem dX12_changed_62 : decode cX12_changed 62 = .ok (.iload 4, 2) := okd_at mX12_changed_0 39 rfl
theorem dX12_changed_64 : decode cX12_changed 64 = .ok (.ishl, 1) := okd_at mX12_changed_0 40 rfl
theorem dX12_changed_65 : decode cX12_changed 65 = .ok (.ixor, 1) := okd_at mX12_changed_0 41 rfl
theorem dX12_changed_66 : decode cX12_changed 66 = .ok (.iastore, 1) := okd_at mX12_changed_0 42 rfl
theorem dX12_changed_67 : decode cX12_changed 67 = .ok (.aload_n 0, 1) := okd_at mX12_changed_0 43 rfl
theorem dX12_changed_68 : decode cX12_changed 68 = .ok (.bipush 10, 2) := okd_at mX12_changed_0 44 rfl
theorem dX12_changed_70 : decode cX12_changed 70 = .ok (.iload_n 2, 1) := okd_at mX12_changed_0 45 rfl
theorem dX12_changed_71 : decode cX12_changed 71 = .ok (.imul, 1) := okd_at mX12_changed_0 46 rfl
theorem dX12_changed_72 : decode cX12_changed 72 = .ok (.iload 4, 2) := okd_at mX12_changed_0 47 rfl
theorem dX12_changed_74 : decode cX12_changed 74 = .ok (.iadd, 1) := okd_at mX12_changed_0 48 rfl
theorem dX12_changed_75 : decode cX12_changed 75 = .ok (.invokevirtual 237, 3) := okd_at mX12_changed_0 49 rfl
theorem dX12_changed_78 : decode cX12_changed 78 = .ok (.iinc 4 1, 3) := okd_at mX12_changed_0 50 rfl
theorem dX12_changed_81 : decode cX12_changed 81 = .ok (.goto (-55), 3) := okd_at mX12_changed_0 51 rfl
theorem dX12_changed_84 : decode cX12_changed 84 = .ok (.aload_n 0, 1) := okd_at mX12_changed_0 52 rfl
theorem dX12_changed_85 : decode cX12_changed 85 = .ok (.getfield 19, 3) := okd_at mX12_changed_0 53 rfl
theorem dX12_changed_88 : decode cX12_changed 88 = .ok (.iconst 2, 1) := okd_at mX12_changed_0 54 rfl
theorem dX12_changed_89 : decode cX12_changed 89 = .ok (.iload_n 2, 1) := okd_at mX12_changed_0 55 rfl
theorem dX12_changed_90 : decode cX12_changed 90 = .ok (.imul, 1) := okd_at mX12_changed_0 56 rfl
theorem dX12_changed_91 : decode cX12_changed 91 = .ok (.iload_n 3, 1) := okd_at mX12_changed_0 57 rfl
theorem dX12_changed_92 : decode cX12_changed 92 = .ok (.iastore, 1) := okd_at mX12_changed_0 58 rfl
theorem dX12_changed_93 : decode cX12_changed 93 = .ok (.iinc 2 1, 3) := okd_at mX12_changed_0 59 rfl
def lmX12_changed_1 : List (Nat × Instr × Nat) := [(96, .goto (-90), 3), (99, .return_, 1)]
theorem mX12_changed_1 : okd cX12_changed lmX12_changed_1 = true := by decide +kernel
theorem dX12_changed_96 : decode cX12_changed 96 = .ok (.goto (-90), 3) := okd_at mX12_changed_1 0 rfl
theorem dX12_changed_99 : decode cX12_changed 99 = .ok (.return_, 1) := okd_at mX12_changed_1 1 rfl
def lmX12_child_0 : List (Nat × Instr × Nat) := [(0, .iload_n 1, 1), (1, .iconst 0, 1), (2, .sipush 9999, 3), (5, .invokestatic 93, 3), (8, .ifCond .ne 6, 3), (11, .bipush (-2), 2), (13, .ireturn, 1), (14, .aload_n 0, 1), (15, .getfield 90, 3), (18, .bipush 8, 2), (20, .if_icmp .ne 6, 3), (23, .bipush (-4), 2), (25, .ireturn, 1), (26, .aload_n 0, 1), (27, .getfield 7, 3), (30, .iconst 3, 1), (31, .aload_n 0, 1), (32, .getfield 90, 3), (35, .imul, 1), (36, .iload_n 1, 1), (37, .bipush 100, 2), (39, .idiv, 1), (40, .iastore, 1), (41, .aload_n 0, 1), (42, .getfield 7, 3), (45, .iconst 3, 1), (46, .aload_n 0, 1), (47, .getfield 90, 3), (50, .imul, 1), (51, .iconst 1, 1), (52, .iadd, 1), (53, .iload_n 1, 1), (54, .bipush 100, 2), (56, .irem, 1), (57, .iastore, 1), (58, .aload_n 0, 1), (59, .getfield 7, 3), (62, .iconst 3, 1), (63, .aload_n 0, 1), (64, .getfield 90, 3), (67, .imul, 1), (68, .iconst 2, 1), (69, .iadd, 1), (70, .iconst 0, 1), (71, .iastore, 1), (72, .aload_n 0, 1), (73, .dup, 1), (74, .getfield 90, 3), (77, .iconst 1, 1), (78, .iadd, 1), (79, .putfield 90, 3), (82, .aload_n 0, 1), (83, .getfield 90, 3), (86, .iconst 1, 1), (87, .isub, 1), (88, .ireturn, 1)]
theorem mX12_child_0 : okd cX12_child lmX12_child_0 = true := by decide +kernel
theorem dX12_child_0 : decode cX12_child 0 = .ok (.iload_n 1, 1) := okd_at mX12_child_0 0 rfl
theorem dX12_child_1 : decode cX12_child 1 = .ok (.iconst 0, 1) := okd_at mX12_child_0 1 rfl
theorem dX12_child_2 : decode cX12_child 2 = .ok (.sipush 9999, 3) := okd_at mX12_child_0 2 rfl
theorem dX12_child_5 : decode cX12_child 5 = .ok (.invokestatic 93, 3) := okd_at mX12_child_0 3 rfl
theorem dX12_child_8 : decode cX12_child 8 = .ok (.ifCond .ne 6, 3) := okd_at mX12_child_0 4 rfl
theorem dX12_child_11 : decode cX12_child 11 = .ok (.bipush (-2), 2) := okd_at mX12_child_0 5 rfl
theorem dX12_child_13 : decode cX12_child 13 = .ok (.ireturn, 1) := okd_at mX12_child_0 6 rfl
theorem dX12_child_14 : decode cX12_child 14 = .ok (.aload_n 0, 1) := okd_at mX12_child_0 7 rfl
theorem dX12_child_15 : decode cX12_child 15 = .ok (.getfield 90, 3) := okd_at mX12_child_0 8 rfl
theorem dX12_child_18 : decode cX12_child 18 = .ok (.bipush 8, 2) := okd_at mX12_child_0 9 rfl
theorem dX12_child_20 : decode cX12_child 20 = .ok (.if_icmp .ne 6, 3) := okd_at mX12_child_0 10 rfl
theorem dX12_child_23 : decode cX12_child 23 = .ok (.bipush (-4), 2) := okd_at mX12_child_0 11 rfl
theorem dX12_child_25 : decode cX12_child 25 = .ok (.ireturn, 1) := okd_at mX12_child_0 12 rfl
theorem dX12_child_26 : decode cX12_child 26 = .ok (.aload_n 0, 1) := okd_at mX12_child_0 13 rfl
theorem dX12_child_27 : decode cX12_child 27 = .ok (.getfield 7, 3) := okd_at mX12_child_0 14 rfl
theorem dX12_child_30 : decode cX12_child 30 = .ok (.iconst 3, 1) := okd_at mX12_child_0 15 rfl
theorem dX12_child_31 : decode cX12_child 31 = .ok (.aload_n 0, 1) := okd_at mX12_child_0 16 rfl
theorem dX12_child_32 : decode cX12_child 32 = .ok (.getfield 90, 3) := okd_at mX12_child_0 17 rfl
theorem dX12_child_35 : decode cX12_child 35 = .ok (.imul, 1) := okd_at mX12_child_0 18 rfl
theorem dX12_child_36 : decode cX12_child 36 = .ok (.iload_n 1, 1) := okd_at mX12_child_0 19 rfl
theorem dX12_child_37 : decode cX12_child 37 = .ok (.bipush 100, 2) := okd_at mX12_child_0 20 rfl
theorem dX12_child_39 : decode cX12_child 39 = .ok (.idiv, 1) := okd_at mX12_child_0 21 rfl
theorem dX12_child_40 : decode cX12_child 40 = .ok (.iastore, 1) := okd_at mX12_child_0 22 rfl
theorem dX12_child_41 : decode cX12_child 41 = .ok (.aload_n 0, 1) := okd_at mX12_child_0 23 rfl
theorem dX12_child_42 : decode cX12_child 42 = .ok (.getfield 7, 3) := okd_at mX12_child_0 24 rfl
theorem dX12_child_45 : decode cX12_child 45 = .ok (.iconst 3, 1) := okd_at mX12_child_0 25 rfl
theorem dX12_child_46 : decode cX12_child 46 = .ok (.aload_n 0, 1) := okd_at mX12_child_0 26 rfl
theorem dX12_child_47 : decode cX12_child 47 = .ok (.getfield 90, 3) := okd_at mX12_child_0 27 rfl
theorem dX12_child_50 : decode cX12_child 50 = .ok (.imul, 1) := okd_at mX12_child_0 28 rfl
theorem dX12_child_51 : decode cX12_child 51 = .ok (.iconst 1, 1) := okd_at mX12_child_0 29 rfl
theorem dX12_child_52 : decode cX12_child 52 = .ok (.iadd, 1) := okd_at mX12_child_0 30 rfl
theorem dX12_child_53 : decode cX12_child 53 = .ok (.iload_n 1, 1) := okd_at mX12_child_0 31 rfl
theorem dX12_child_54 : decode cX12_child 54 = .ok (.bipush 100, 2) := okd_at mX12_child_0 32 rfl
theorem dX12_child_56 : decode cX12_child 56 = .ok (.irem, 1) := okd_at mX12_child_0 33 rfl
theorem dX12_child_57 : decode cX12_child 57 = .ok (.iastore, 1) := okd_at mX12_child_0 34 rfl
theorem dX12_child_58 : decode cX12_child 58 = .ok (.aload_n 0, 1) := okd_at mX12_child_0 35 rfl
theorem dX12_child_59 : decode cX12_child 59 = .ok (.getfield 7, 3) := okd_at mX12_child_0 36 rfl
theorem dX12_child_62 : decode cX12_child 62 = .ok (.iconst 3, 1) := okd_at mX12_child_0 37 rfl
theorem dX12_child_63 : decode cX12_child 63 = .ok (.aload_n 0, 1) := okd_at mX12_child_0 38 rfl
theorem dX12_child_64 : decode cX12_child 64 = .ok (.getfield 90, 3) := okd_at mX12_child_0 39 rfl
theorem dX12_child_67 : decode cX12_child 67 = .ok (.imul, 1) := okd_at mX12_child_0 40 rfl
theorem dX12_child_68 : decode cX12_child 68 = .ok (.iconst 2, 1) := okd_at mX12_child_0 41 rfl
theorem dX12_child_69 : decode cX12_child 69 = .ok (.iadd, 1) := okd_at mX12_child_0 42 rfl
theorem dX12_child_70 : decode cX12_child 70 = .ok (.iconst 0, 1) := okd_at mX12_child_0 43 rfl
theorem dX12_child_71 : decode cX12_child 71 = .ok (.iastore, 1) := okd_at mX12_child_0 44 rfl
theorem dX12_child_72 : decode cX12_child 72 = .ok (.aload_n 0, 1) := okd_at mX12_child_0 45 rfl
theorem dX12_child_73 : decode cX12_child 73 = .ok (.dup, 1) := okd_at mX12_child_0 46 rfl
theorem dX12_child_74 : decode cX12_child 74 = .ok (.getfield 90, 3) := okd_at mX12_child_0 47 rfl
theorem dX12_child_77 : decode cX12_child 77 = .ok (.iconst 1, 1) := okd_at mX12_child_0 48 rfl
theorem dX12_child_78 : decode cX12_child 78 = .ok (.iadd, 1) := okd_at mX12_child_0 49 rfl
theorem dX12_child_79 : decode cX12_child 79 = .ok (.putfield 90, 3) := okd_at mX12_child_0 50 rfl
theorem dX12_child_82 : decode cX12_child 82 = .ok (.aload_n 0, 1) := okd_at mX12_child_0 51 rfl
theorem dX12_child_83 : decode cX12_child 83 = .ok (.getfield 90, 3) := okd_at mX12_child_0 52 rfl
theorem dX12_child_86 : decode cX12_child 86 = .ok (.iconst 1, 1) := okd_at mX12_child_0 53 rfl
theorem dX12_child_87 : decode cX12_child 87 = .ok (.isub, 1) := okd_at mX12_child_0 54 rfl
theorem dX12_child_88 : decode cX12_child 88 = .ok (.ireturn, 1) := okd_at mX12_child_0 55 rfl
def lmX12_childrenBy_0 : List (Nat × Instr × Nat) := [(0, .iload_n 1, 1), (1, .iconst 0, 1), (2, .iconst 3, 1), (3, .invokestatic 93, 3), (6, .ifCond .eq 23, 3), (9, .iload_n 2, 1), (10, .iconst 0, 1), (11, .iconst 2, 1), (12, .invokestatic 93, 3), (15, .ifCond .eq 14, 3), (18, .iload 4, 2), (20, .iconst 0, 1), (21, .bipush 8, 2), (23, .invokestatic 93, 3), (26, .ifCond .ne 6, 3), (29, .bipush (-2), 2), (31, .ireturn, 1), (32, .aload_n 0, 1), (33, .getfield 37, 3), (36, .iload_n 1, 1), (37, .iaload, 1), (38, .iconst (-1), 1), (39, .if_icmp .ne 6, 3), (42, .bipush (-11), 2), (44, .ireturn, 1), (45, .aload_n 0, 1), (46, .getfield 37, 3), (49, .iload_n 1, 1), (50, .iaload, 1), (51, .iload_n 2, 1), (52, .if_icmp .eq 6, 3), (55, .bipush (-13), 2), (57, .ireturn, 1), (58, .iconst 0, 1), (59, .istore 5, 2), (61, .iconst 0, 1), (62, .istore 6, 2), (64, .iload 6, 2), (66, .iload 4, 2), (68, .if_icmp .ge 76, 3), (71, .iload_n 3, 1), (72, .iconst 1, 1), (73, .iload 6, 2), (75, .imul, 1), (76, .iadd, 1), (77, .istore 7, 2), (79, .iload_n 3, 1), (80, .ifCond .lt 22, 3), (83, .iload 7, 2), (85, .iload_n 3, 1), (86, .if_icmp .lt 16, 3), (89, .iload 7, 2), (91, .aload_n 0, 1), (92, .getfield 40, 3), (95, .iload_n 1, 1), (96, .iaload, 1), (97, .iconst 1, 1), (98, .isub, 1), (99, .if_icmp .le 6, 3), (102, .bipush (-12), 2)]
theorem mX12_childrenBy_0 : okd cX12_childrenBy lmX12_childrenBy_0 = true := by decide +kernel
theorem dX12_childrenBy_0 : decode cX12_childrenBy 0 = .ok (.iload_n 1, 1) := okd_at mX12_childrenBy_0 0 rfl
theorem dX12_childrenBy_1 : decode cX12_childrenBy 1 = .ok (.iconst 0, 1) := okd_at mX12_childrenBy_0 1 rfl
theorem dX12_childrenBy_2 : decode cX12_childrenBy 2 = .ok (.iconst 3, 1) := okd_at mX12_childrenBy_0 2 rfl
theorem dX12_childrenBy_3 : decode cX12_childrenBy 3 = .ok (.invokestatic 93, 3) := okd_at mX12_childrenBy_0 3 rfl
theorem dX12_childrenBy_6 : decode cX12_childrenBy 6 = .ok (.ifCond .eq 23, 3) := okd_at mX12_childrenBy_0 4 rfl
theorem dX12_childrenBy_9 : decode cX12_childrenBy 9 = .ok (.iload_n 2, 1) := okd_at mX12_childrenBy_0 5 rfl
theorem dX12_childrenBy_10 : decode cX12_childrenBy 10 = .ok (.iconst 0, 1) := okd_at mX12_childrenBy_0 6 rfl
theorem dX12_childrenBy_11 : decode cX12_childrenBy 11 = .ok (.iconst 2, 1) := okd_at mX12_childrenBy_0 7 rfl
theorem dX12_childrenBy_12 : decode cX12_childrenBy 12 = .ok (.invokestatic 93, 3) := okd_at mX12_childrenBy_0 8 rfl
theorem dX12_childrenBy_15 : decode cX12_childrenBy 15 = .ok (.ifCond .eq 14, 3) := okd_at mX12_childrenBy_0 9 rfl
theorem dX12_childrenBy_18 : decode cX12_childrenBy 18 = .ok (.iload 4, 2) := okd_at mX12_childrenBy_0 10 rfl
theorem dX12_childrenBy_20 : decode cX12_childrenBy 20 = .ok (.iconst 0, 1) := okd_at mX12_childrenBy_0 11 rfl
theorem dX12_childrenBy_21 : decode cX12_childrenBy 21 = .ok (.bipush 8, 2) := okd_at mX12_childrenBy_0 12 rfl
theorem dX12_childrenBy_23 : decode cX12_childrenBy 23 = .ok (.invokestatic 93, 3) := okd_at mX12_childrenBy_0 13 rfl
theorem dX12_childrenBy_26 : decode cX12_childrenBy 26 = .ok (.ifCond .ne 6, 3) := okd_at mX12_childrenBy_0 14 rfl
theorem dX12_childrenBy_29 : decode cX12_childrenBy 29 = .ok (.bipush (-2), 2) := okd_at mX12_childrenBy_0 15 rfl
theorem dX12_childrenBy_31 : decode cX12_childrenBy 31 = .ok (.ireturn, 1) := okd_at mX12_childrenBy_0 16 rfl
theorem dX12_childrenBy_32 : decode cX12_childrenBy 32 = .ok (.aload_n 0, 1) := okd_at mX12_childrenBy_0 17 rfl
theorem dX12_childrenBy_33 : decode cX12_childrenBy 33 = .ok (.getfield 37, 3) := okd_at mX12_childrenBy_0 18 rfl
theorem dX12_childrenBy_36 : decode cX12_childrenBy 36 = .ok (.iload_n 1, 1) := okd_at mX12_childrenBy_0 19 rfl
theorem dX12_childrenBy_37 : decode cX12_childrenBy 37 = .ok (.iaload, 1) := okd_at mX12_childrenBy_0 20 rfl
theorem dX12_childrenBy_38 : decode cX12_childrenBy 38 = .ok (.iconst (-1), 1) := okd_at mX12_childrenBy_0 21 rfl
theorem dX12_childrenBy_39 : decode cX12_childrenBy 39 = .ok (.if_icmp .ne 6, 3) := okd_at mX12_childrenBy_0 22 rfl
theorem dX12_childrenBy_42 : decode cX12_childrenBy 42 = .ok (.bipush (-11), 2) := okd_at mX12_childrenBy_0 23 rfl
theorem dX12_childrenBy_44 : decode cX12_childrenBy 44 = .ok (.ireturn, 1) := okd_at mX12_childrenBy_0 24 rfl
theorem dX12_childrenBy_45 : decode cX12_childrenBy 45 = .ok (.aload_n 0, 1) := okd_at mX12_childrenBy_0 25 rfl
theorem dX12_childrenBy_46 : decode cX12_childrenBy 46 = .ok (.getfield 37, 3) := okd_at mX12_childrenBy_0 26 rfl
theorem dX12_childrenBy_49 : decode cX12_childrenBy 49 = .ok (.iload_n 1, 1) := okd_at mX12_childrenBy_0 27 rfl
theorem dX12_childrenBy_50 : decode cX12_childrenBy 50 = .ok (.iaload, 1) := okd_at mX12_childrenBy_0 28 rfl
theorem dX12_childrenBy_51 : decode cX12_childrenBy 51 = .ok (.iload_n 2, 1) := okd_at mX12_childrenBy_0 29 rfl
theorem dX12_childrenBy_52 : decode cX12_childrenBy 52 = .ok (.if_icmp .eq 6, 3) := okd_at mX12_childrenBy_0 30 rfl
theorem dX12_childrenBy_55 : decode cX12_childrenBy 55 = .ok (.bipush (-13), 2) := okd_at mX12_childrenBy_0 31 rfl
theorem dX12_childrenBy_57 : decode cX12_childrenBy 57 = .ok (.ireturn, 1) := okd_at mX12_childrenBy_0 32 rfl
theorem dX12_childrenBy_58 : decode cX12_childrenBy 58 = .ok (.iconst 0, 1) := okd_at mX12_childrenBy_0 33 rfl
theorem dX12_childrenBy_59 : decode cX12_childrenBy 59 = .ok (.istore 5, 2) := okd_at mX12_childrenBy_0 34 rfl
theorem dX12_childrenBy_61 : decode cX12_childrenBy 61 = .ok (.iconst 0, 1) := okd_at mX12_childrenBy_0 35 rfl
theorem dX12_childrenBy_62 : decode cX12_childrenBy 62 = .ok (.istore 6, 2) := okd_at mX12_childrenBy_0 36 rfl
theorem dX12_childrenBy_64 : decode cX12_childrenBy 64 = .ok (.iload 6, 2) := okd_at mX12_childrenBy_0 37 rfl
theorem dX12_childrenBy_66 : decode cX12_childrenBy 66 = .ok (.iload 4, 2) := okd_at mX12_childrenBy_0 38 rfl
theorem dX12_childrenBy_68 : decode cX12_childrenBy 68 = .ok (.if_icmp .ge 76, 3) := okd_at mX12_childrenBy_0 39 rfl
theorem dX12_childrenBy_71 : decode cX12_childrenBy 71 = .ok (.iload_n 3, 1) := okd_at mX12_childrenBy_0 40 rfl
theorem dX12_childrenBy_72 : decode cX12_childrenBy 72 = .ok (.iconst 1, 1) := okd_at mX12_childrenBy_0 41 rfl
theorem dX12_childrenBy_73 : decode cX12_childrenBy 73 = .ok (.iload 6, 2) := okd_at mX12_childrenBy_0 42 rfl
theorem dX12_childrenBy_75 : decode cX12_childrenBy 75 = .ok (.imul, 1) := okd_at mX12_childrenBy_0 43 rfl
theorem dX12_childrenBy_76 : decode cX12_childrenBy 76 = .ok (.iadd, 1) := okd_at mX12_childrenBy_0 44 rfl
theorem dX12_childrenBy_77 : decode cX12_childrenBy 77 = .ok (.istore 7, 2) := okd_at mX12_childrenBy_0 45 rfl
theorem dX12_childrenBy_79 : decode cX12_childrenBy 79 = .ok (.iload_n 3, 1) := okd_at mX12_childrenBy_0 46 rfl
theorem dX12_childrenBy_80 : decode cX12_childrenBy 80 = .ok (.ifCond .lt 22, 3) := okd_at mX12_childrenBy_0 47 rfl
theorem dX12_childrenBy_83 : decode cX12_childrenBy 83 = .ok (.iload 7, 2) := okd_at mX12_childrenBy_0 48 rfl
theorem dX12_childrenBy_85 : decode cX12_childrenBy 85 = .ok (.iload_n 3, 1) := okd_at mX12_childrenBy_0 49 rfl
theorem dX12_childrenBy_86 : decode cX12_childrenBy 86 = .ok (.if_icmp .lt 16, 3) := okd_at mX12_childrenBy_0 50 rfl
theorem dX12_childrenBy_89 : decode cX12_childrenBy 89 = .ok (.iload 7, 2) := okd_at mX12_childrenBy_0 51 rfl
theorem dX12_childrenBy_91 : decode cX12_childrenBy 91 = .ok (.aload_n 0, 1) := okd_at mX12_childrenBy_0 52 rfl
theorem dX12_childrenBy_92 : decode cX12_childrenBy 92 = .ok (.getfield 40, 3) := okd_at mX12_childrenBy_0 53 rfl
theorem dX12_childrenBy_95 : decode cX12_childrenBy 95 = .ok (.iload_n 1, 1) := okd_at mX12_childrenBy_0 54 rfl
theorem dX12_childrenBy_96 : decode cX12_childrenBy 96 = .ok (.iaload, 1) := okd_at mX12_childrenBy_0 55 rfl
theorem dX12_childrenBy_97 : decode cX12_childrenBy 97 = .ok (.iconst 1, 1) := okd_at mX12_childrenBy_0 56 rfl
theorem dX12_childrenBy_98 : decode cX12_childrenBy 98 = .ok (.isub, 1) := okd_at mX12_childrenBy_0 57 rfl
theorem dX12_childrenBy_99 : decode cX12_childrenBy 99 = .ok (.if_icmp .le 6, 3) := okd_at mX12_childrenBy_0 58 rfl
theorem dX12_childrenBy_102 : decode cX12_childrenBy 102 = .ok (.bipush (-12), 2) := okd_at mX12_childrenBy_0 59 rfl
def lmX12_childrenBy_1 : List (Nat × Instr × Nat) := [(104, .ireturn, 1), (105, .bipush 40, 2), (107, .iload_n 1, 1), (108, .imul, 1), (109, .iload 7, 2), (111, .iadd, 1), (112, .istore 8, 2), (114, .iload 5, 2), (116, .aload_n 0, 1), (117, .aload_n 0, 1), (118, .getfield 43, 3), (121, .iload 8, 2), (123, .iaload, 1), (124, .invokevirtual 279, 3), (127, .ifCond .lt 7, 3), (130, .iconst 1, 1), (131, .goto 4, 3), (134, .iconst 0, 1), (135, .iadd, 1), (136, .istore 5, 2), (138, .iinc 6 1, 3), (141, .goto (-77), 3), (144, .iload 5, 2), (146, .ireturn, 1)]
theorem mX12_childrenBy_1 : okd cX12_childrenBy lmX12_childrenBy_1 = true := by decide +kernel
theorem dX12_childrenBy_104 : decode cX12_childrenBy 104 = .ok (.ireturn, 1) := okd_at mX12_childrenBy_1 0 rfl
theorem dX12_childrenBy_105 : decode cX12_childrenBy 105 = .ok (.bipush 40, 2) := okd_at mX12_childrenBy_1 1 rfl
theorem dX12_childrenBy_107 : decode cX12_childrenBy 107 = .ok (.iload_n 1, 1) := okd_at mX12_childrenBy_1 2 rfl
theorem dX12_childrenBy_108 : decode cX12_childrenBy 108 = .ok (.imul, 1) := okd_at mX12_childrenBy_1 3 rfl
theorem dX12_childrenBy_109 : decode cX12_childrenBy 109 = .ok (.iload 7, 2) := okd_at mX12_childrenBy_1 4 rfl
theorem dX12_childrenBy_111 : decode cX12_childrenBy 111 = .ok (.iadd, 1) := okd_at mX12_childrenBy_1 5 rfl
theorem dX12_childrenBy_112 : decode cX12_childrenBy 112 = .ok (.istore 8, 2) := okd_at mX12_childrenBy_1 6 rfl
theorem dX12_childrenBy_114 : decode cX12_childrenBy 114 = .ok (.iload 5, 2) := okd_at mX12_childrenBy_1 7 rfl
theorem dX12_childrenBy_116 : decode cX12_childrenBy 116 = .ok (.aload_n 0, 1) := okd_at mX12_childrenBy_1 8 rfl
theorem dX12_childrenBy_117 : decode cX12_childrenBy 117 = .ok (.aload_n 0, 1) := okd_at mX12_childrenBy_1 9 rfl
theorem dX12_childrenBy_118 : decode cX12_childrenBy 118 = .ok (.getfield 43, 3) := okd_at mX12_childrenBy_1 10 rfl
theorem dX12_childrenBy_121 : decode cX12_childrenBy 121 = .ok (.iload 8, 2) := okd_at mX12_childrenBy_1 11 rfl
theorem dX12_childrenBy_123 : decode cX12_childrenBy 123 = .ok (.iaload, 1) := okd_at mX12_childrenBy_1 12 rfl
theorem dX12_childrenBy_124 : decode cX12_childrenBy 124 = .ok (.invokevirtual 279, 3) := okd_at mX12_childrenBy_1 13 rfl
theorem dX12_childrenBy_127 : decode cX12_childrenBy 127 = .ok (.ifCond .lt 7, 3) := okd_at mX12_childrenBy_1 14 rfl
theorem dX12_childrenBy_130 : decode cX12_childrenBy 130 = .ok (.iconst 1, 1) := okd_at mX12_childrenBy_1 15 rfl
theorem dX12_childrenBy_131 : decode cX12_childrenBy 131 = .ok (.goto 4, 3) := okd_at mX12_childrenBy_1 16 rfl
theorem dX12_childrenBy_134 : decode cX12_childrenBy 134 = .ok (.iconst 0, 1) := okd_at mX12_childrenBy_1 17 rfl
theorem dX12_childrenBy_135 : decode cX12_childrenBy 135 = .ok (.iadd, 1) := okd_at mX12_childrenBy_1 18 rfl
theorem dX12_childrenBy_136 : decode cX12_childrenBy 136 = .ok (.istore 5, 2) := okd_at mX12_childrenBy_1 19 rfl
theorem dX12_childrenBy_138 : decode cX12_childrenBy 138 = .ok (.iinc 6 1, 3) := okd_at mX12_childrenBy_1 20 rfl
theorem dX12_childrenBy_141 : decode cX12_childrenBy 141 = .ok (.goto (-77), 3) := okd_at mX12_childrenBy_1 21 rfl
theorem dX12_childrenBy_144 : decode cX12_childrenBy 144 = .ok (.iload 5, 2) := okd_at mX12_childrenBy_1 22 rfl
theorem dX12_childrenBy_146 : decode cX12_childrenBy 146 = .ok (.ireturn, 1) := okd_at mX12_childrenBy_1 23 rfl
def lmX12_comes_0 : List (Nat × Instr × Nat) := [(0, .aload_n 0, 1), (1, .iload_n 1, 1), (2, .invokevirtual 182, 3), (5, .ifCond .ne 6, 3), (8, .bipush (-6), 2), (10, .ireturn, 1), (11, .iload_n 2, 1), (12, .iconst 0, 1), (13, .bipush 7, 2), (15, .invokestatic 93, 3), (18, .ifCond .ne 6, 3), (21, .bipush (-7), 2), (23, .ireturn, 1), (24, .aload_n 0, 1), (25, .invokevirtual 198, 3), (28, .aload_n 0, 1), (29, .iload_n 1, 1), (30, .invokevirtual 201, 3), (33, .iload_n 2, 1), (34, .aload_n 0, 1), (35, .getfield 192, 3), (38, .if_icmp .ge 12, 3), (41, .aload_n 0, 1), (42, .getfield 67, 3), (45, .iload_n 2, 1), (46, .iaload, 1), (47, .goto 4, 3), (50, .iconst (-1), 1), (51, .ireturn, 1)]
theorem mX12_comes_0 : okd cX12_comes lmX12_comes_0 = true := by decide +kernel
theorem dX12_comes_0 : decode cX12_comes 0 = .ok (.aload_n 0, 1) := okd_at mX12_comes_0 0 rfl
theorem dX12_comes_1 : decode cX12_comes 1 = .ok (.iload_n 1, 1) := okd_at mX12_comes_0 1 rfl
theorem dX12_comes_2 : decode cX12_comes 2 = .ok (.invokevirtual 182, 3) := okd_at mX12_comes_0 2 rfl
theorem dX12_comes_5 : decode cX12_comes 5 = .ok (.ifCond .ne 6, 3) := okd_at mX12_comes_0 3 rfl
theorem dX12_comes_8 : decode cX12_comes 8 = .ok (.bipush (-6), 2) := okd_at mX12_comes_0 4 rfl
theorem dX12_comes_10 : decode cX12_comes 10 = .ok (.ireturn, 1) := okd_at mX12_comes_0 5 rfl
theorem dX12_comes_11 : decode cX12_comes 11 = .ok (.iload_n 2, 1) := okd_at mX12_comes_0 6 rfl
theorem dX12_comes_12 : decode cX12_comes 12 = .ok (.iconst 0, 1) := okd_at mX12_comes_0 7 rfl
theorem dX12_comes_13 : decode cX12_comes 13 = .ok (.bipush 7, 2) := okd_at mX12_comes_0 8 rfl
theorem dX12_comes_15 : decode cX12_comes 15 = .ok (.invokestatic 93, 3) := okd_at mX12_comes_0 9 rfl
theorem dX12_comes_18 : decode cX12_comes 18 = .ok (.ifCond .ne 6, 3) := okd_at mX12_comes_0 10 rfl
theorem dX12_comes_21 : decode cX12_comes 21 = .ok (.bipush (-7), 2) := okd_at mX12_comes_0 11 rfl
theorem dX12_comes_23 : decode cX12_comes 23 = .ok (.ireturn, 1) := okd_at mX12_comes_0 12 rfl
theorem dX12_comes_24 : decode cX12_comes 24 = .ok (.aload_n 0, 1) := okd_at mX12_comes_0 13 rfl
theorem dX12_comes_25 : decode cX12_comes 25 = .ok (.invokevirtual 198, 3) := okd_at mX12_comes_0 14 rfl
theorem dX12_comes_28 : decode cX12_comes 28 = .ok (.aload_n 0, 1) := okd_at mX12_comes_0 15 rfl
theorem dX12_comes_29 : decode cX12_comes 29 = .ok (.iload_n 1, 1) := okd_at mX12_comes_0 16 rfl
theorem dX12_comes_30 : decode cX12_comes 30 = .ok (.invokevirtual 201, 3) := okd_at mX12_comes_0 17 rfl
theorem dX12_comes_33 : decode cX12_comes 33 = .ok (.iload_n 2, 1) := okd_at mX12_comes_0 18 rfl
theorem dX12_comes_34 : decode cX12_comes 34 = .ok (.aload_n 0, 1) := okd_at mX12_comes_0 19 rfl
theorem dX12_comes_35 : decode cX12_comes 35 = .ok (.getfield 192, 3) := okd_at mX12_comes_0 20 rfl
theorem dX12_comes_38 : decode cX12_comes 38 = .ok (.if_icmp .ge 12, 3) := okd_at mX12_comes_0 21 rfl
theorem dX12_comes_41 : decode cX12_comes 41 = .ok (.aload_n 0, 1) := okd_at mX12_comes_0 22 rfl
theorem dX12_comes_42 : decode cX12_comes 42 = .ok (.getfield 67, 3) := okd_at mX12_comes_0 23 rfl
theorem dX12_comes_45 : decode cX12_comes 45 = .ok (.iload_n 2, 1) := okd_at mX12_comes_0 24 rfl
theorem dX12_comes_46 : decode cX12_comes 46 = .ok (.iaload, 1) := okd_at mX12_comes_0 25 rfl
theorem dX12_comes_47 : decode cX12_comes 47 = .ok (.goto 4, 3) := okd_at mX12_comes_0 26 rfl
theorem dX12_comes_50 : decode cX12_comes 50 = .ok (.iconst (-1), 1) := okd_at mX12_comes_0 27 rfl
theorem dX12_comes_51 : decode cX12_comes 51 = .ok (.ireturn, 1) := okd_at mX12_comes_0 28 rfl
def lmX12_copy_0 : List (Nat × Instr × Nat) := [(0, .iload_n 1, 1), (1, .iconst 0, 1), (2, .iconst 3, 1), (3, .invokestatic 93, 3), (6, .ifCond .eq 12, 3), (9, .iload_n 3, 1), (10, .iconst 0, 1), (11, .iconst 3, 1), (12, .invokestatic 93, 3), (15, .ifCond .ne 6, 3), (18, .bipush (-2), 2), (20, .ireturn, 1), (21, .aload_n 0, 1), (22, .getfield 37, 3), (25, .iload_n 1, 1), (26, .iaload, 1), (27, .iconst (-1), 1), (28, .if_icmp .eq 13, 3), (31, .aload_n 0, 1), (32, .getfield 37, 3), (35, .iload_n 3, 1), (36, .iaload, 1), (37, .iconst (-1), 1), (38, .if_icmp .ne 6, 3), (41, .bipush (-11), 2), (43, .ireturn, 1), (44, .aload_n 0, 1), (45, .getfield 37, 3), (48, .iload_n 1, 1), (49, .iaload, 1), (50, .aload_n 0, 1), (51, .getfield 37, 3), (54, .iload_n 3, 1), (55, .iaload, 1), (56, .if_icmp .eq 6, 3), (59, .bipush (-13), 2), (61, .ireturn, 1), (62, .iload 5, 2), (64, .ifCond .lt 60, 3), (67, .iload_n 2, 1), (68, .ifCond .lt 56, 3), (71, .iload 4, 2), (73, .ifCond .lt 51, 3), (76, .iload_n 2, 1), (77, .aload_n 0, 1), (78, .getfield 40, 3), (81, .iload_n 1, 1), (82, .iaload, 1), (83, .if_icmp .gt 41, 3), (86, .iload 4, 2), (88, .aload_n 0, 1), (89, .getfield 40, 3), (92, .iload_n 3, 1), (93, .iaload, 1), (94, .if_icmp .gt 30, 3), (97, .iload 5, 2), (99, .aload_n 0, 1), (100, .getfield 40, 3), (103, .iload_n 1, 1), (104, .iaload, 1)]
theorem mX12_copy_0 : okd cX12_copy lmX12_copy_0 = true := by decide +kernel
theorem dX12_copy_0 : decode cX12_copy 0 = .ok (.iload_n 1, 1) := okd_at mX12_copy_0 0 rfl
theorem dX12_copy_1 : decode cX12_copy 1 = .ok (.iconst 0, 1) := okd_at mX12_copy_0 1 rfl
theorem dX12_copy_2 : decode cX12_copy 2 = .ok (.iconst 3, 1) := okd_at mX12_copy_0 2 rfl
theorem dX12_copy_3 : decode cX12_copy 3 = .ok (.invokestatic 93, 3) := okd_at mX12_copy_0 3 rfl
theorem dX12_copy_6 : decode cX12_copy 6 = .ok (.ifCond .eq 12, 3) := okd_at mX12_copy_0 4 rfl
theorem dX12_copy_9 : decode cX12_copy 9 = .ok (.iload_n 3, 1) := okd_at mX12_copy_0 5 rfl
theorem dX12_copy_10 : decode cX12_copy 10 = .ok (.iconst 0, 1) := okd_at mX12_copy_0 6 rfl
theorem dX12_copy_11 : decode cX12_copy 11 = .ok (.iconst 3, 1) := okd_at mX12_copy_0 7 rfl
theorem dX12_copy_12 : decode cX12_copy 12 = .ok (.invokestatic 93, 3) := okd_at mX12_copy_0 8 rfl
theorem dX12_copy_15 : decode cX12_copy 15 = .ok (.ifCond .ne 6, 3) := okd_at mX12_copy_0 9 rfl
theorem dX12_copy_18 : decode cX12_copy 18 = .ok (.bipush (-2), 2) := okd_at mX12_copy_0 10 rfl
theorem dX12_copy_20 : decode cX12_copy 20 = .ok (.ireturn, 1) := okd_at mX12_copy_0 11 rfl
theorem dX12_copy_21 : decode cX12_copy 21 = .ok (.aload_n 0, 1) := okd_at mX12_copy_0 12 rfl
theorem dX12_copy_22 : decode cX12_copy 22 = .ok (.getfield 37, 3) := okd_at mX12_copy_0 13 rfl
theorem dX12_copy_25 : decode cX12_copy 25 = .ok (.iload_n 1, 1) := okd_at mX12_copy_0 14 rfl
theorem dX12_copy_26 : decode cX12_copy 26 = .ok (.iaload, 1) := okd_at mX12_copy_0 15 rfl
theorem dX12_copy_27 : decode cX12_copy 27 = .ok (.iconst (-1), 1) := okd_at mX12_copy_0 16 rfl
theorem dX12_copy_28 : decode cX12_copy 28 = .ok (.if_icmp .eq 13, 3) := okd_at mX12_copy_0 17 rfl
theorem dX12_copy_31 : decode cX12_copy 31 = .ok (.aload_n 0, 1) := okd_at mX12_copy_0 18 rfl
theorem dX12_copy_32 : decode cX12_copy 32 = .ok (.getfield 37, 3) := okd_at mX12_copy_0 19 rfl
theorem dX12_copy_35 : decode cX12_copy 35 = .ok (.iload_n 3, 1) := okd_at mX12_copy_0 20 rfl
theorem dX12_copy_36 : decode cX12_copy 36 = .ok (.iaload, 1) := okd_at mX12_copy_0 21 rfl
theorem dX12_copy_37 : decode cX12_copy 37 = .ok (.iconst (-1), 1) := okd_at mX12_copy_0 22 rfl
theorem dX12_copy_38 : decode cX12_copy 38 = .ok (.if_icmp .ne 6, 3) := okd_at mX12_copy_0 23 rfl
theorem dX12_copy_41 : decode cX12_copy 41 = .ok (.bipush (-11), 2) := okd_at mX12_copy_0 24 rfl
theorem dX12_copy_43 : decode cX12_copy 43 = .ok (.ireturn, 1) := okd_at mX12_copy_0 25 rfl
theorem dX12_copy_44 : decode cX12_copy 44 = .ok (.aload_n 0, 1) := okd_at mX12_copy_0 26 rfl
theorem dX12_copy_45 : decode cX12_copy 45 = .ok (.getfield 37, 3) := okd_at mX12_copy_0 27 rfl
theorem dX12_copy_48 : decode cX12_copy 48 = .ok (.iload_n 1, 1) := okd_at mX12_copy_0 28 rfl
theorem dX12_copy_49 : decode cX12_copy 49 = .ok (.iaload, 1) := okd_at mX12_copy_0 29 rfl
theorem dX12_copy_50 : decode cX12_copy 50 = .ok (.aload_n 0, 1) := okd_at mX12_copy_0 30 rfl
theorem dX12_copy_51 : decode cX12_copy 51 = .ok (.getfield 37, 3) := okd_at mX12_copy_0 31 rfl
theorem dX12_copy_54 : decode cX12_copy 54 = .ok (.iload_n 3, 1) := okd_at mX12_copy_0 32 rfl
theorem dX12_copy_55 : decode cX12_copy 55 = .ok (.iaload, 1) := okd_at mX12_copy_0 33 rfl
theorem dX12_copy_56 : decode cX12_copy 56 = .ok (.if_icmp .eq 6, 3) := okd_at mX12_copy_0 34 rfl
theorem dX12_copy_59 : decode cX12_copy 59 = .ok (.bipush (-13), 2) := okd_at mX12_copy_0 35 rfl
theorem dX12_copy_61 : decode cX12_copy 61 = .ok (.ireturn, 1) := okd_at mX12_copy_0 36 rfl
theorem dX12_copy_62 : decode cX12_copy 62 = .ok (.iload 5, 2) := okd_at mX12_copy_0 37 rfl
theorem dX12_copy_64 : decode cX12_copy 64 = .ok (.ifCond .lt 60, 3) := okd_at mX12_copy_0 38 rfl
theorem dX12_copy_67 : decode cX12_copy 67 = .ok (.iload_n 2, 1) := okd_at mX12_copy_0 39 rfl
theorem dX12_copy_68 : decode cX12_copy 68 = .ok (.ifCond .lt 56, 3) := okd_at mX12_copy_0 40 rfl
theorem dX12_copy_71 : decode cX12_copy 71 = .ok (.iload 4, 2) := okd_at mX12_copy_0 41 rfl
theorem dX12_copy_73 : decode cX12_copy 73 = .ok (.ifCond .lt 51, 3) := okd_at mX12_copy_0 42 rfl
theorem dX12_copy_76 : decode cX12_copy 76 = .ok (.iload_n 2, 1) := okd_at mX12_copy_0 43 rfl
theorem dX12_copy_77 : decode cX12_copy 77 = .ok (.aload_n 0, 1) := okd_at mX12_copy_0 44 rfl
theorem dX12_copy_78 : decode cX12_copy 78 = .ok (.getfield 40, 3) := okd_at mX12_copy_0 45 rfl
theorem dX12_copy_81 : decode cX12_copy 81 = .ok (.iload_n 1, 1) := okd_at mX12_copy_0 46 rfl
theorem dX12_copy_82 : decode cX12_copy 82 = .ok (.iaload, 1) := okd_at mX12_copy_0 47 rfl
theorem dX12_copy_83 : decode cX12_copy 83 = .ok (.if_icmp .gt 41, 3) := okd_at mX12_copy_0 48 rfl
theorem dX12_copy_86 : decode cX12_copy 86 = .ok (.iload 4, 2) := okd_at mX12_copy_0 49 rfl
theorem dX12_copy_88 : decode cX12_copy 88 = .ok (.aload_n 0, 1) := okd_at mX12_copy_0 50 rfl
theorem dX12_copy_89 : decode cX12_copy 89 = .ok (.getfield 40, 3) := okd_at mX12_copy_0 51 rfl
theorem dX12_copy_92 : decode cX12_copy 92 = .ok (.iload_n 3, 1) := okd_at mX12_copy_0 52 rfl
theorem dX12_copy_93 : decode cX12_copy 93 = .ok (.iaload, 1) := okd_at mX12_copy_0 53 rfl
theorem dX12_copy_94 : decode cX12_copy 94 = .ok (.if_icmp .gt 30, 3) := okd_at mX12_copy_0 54 rfl
theorem dX12_copy_97 : decode cX12_copy 97 = .ok (.iload 5, 2) := okd_at mX12_copy_0 55 rfl
theorem dX12_copy_99 : decode cX12_copy 99 = .ok (.aload_n 0, 1) := okd_at mX12_copy_0 56 rfl
theorem dX12_copy_100 : decode cX12_copy 100 = .ok (.getfield 40, 3) := okd_at mX12_copy_0 57 rfl
theorem dX12_copy_103 : decode cX12_copy 103 = .ok (.iload_n 1, 1) := okd_at mX12_copy_0 58 rfl
theorem dX12_copy_104 : decode cX12_copy 104 = .ok (.iaload, 1) := okd_at mX12_copy_0 59 rfl
def lmX12_copy_1 : List (Nat × Instr × Nat) := [(105, .iload_n 2, 1), (106, .isub, 1), (107, .if_icmp .gt 17, 3), (110, .iload 5, 2), (112, .aload_n 0, 1), (113, .getfield 40, 3), (116, .iload_n 3, 1), (117, .iaload, 1), (118, .iload 4, 2), (120, .isub, 1), (121, .if_icmp .le 6, 3), (124, .bipush (-12), 2), (126, .ireturn, 1), (127, .bipush 40, 2), (129, .iload_n 1, 1), (130, .imul, 1), (131, .iload_n 2, 1), (132, .iadd, 1), (133, .istore 6, 2), (135, .bipush 40, 2), (137, .iload_n 3, 1), (138, .imul, 1), (139, .iload 4, 2), (141, .iadd, 1), (142, .istore 7, 2), (144, .iconst 0, 1), (145, .istore 8, 2), (147, .iload 8, 2), (149, .iload 5, 2), (151, .if_icmp .ge 50, 3), (154, .iload 6, 2), (156, .iload 7, 2), (158, .if_icmp .ge 13, 3), (161, .iload 5, 2), (163, .iconst 1, 1), (164, .isub, 1), (165, .iload 8, 2), (167, .isub, 1), (168, .goto 5, 3), (171, .iload 8, 2), (173, .istore 9, 2), (175, .aload_n 0, 1), (176, .getfield 43, 3), (179, .iload 7, 2), (181, .iload 9, 2), (183, .iadd, 1), (184, .aload_n 0, 1), (185, .getfield 43, 3), (188, .iload 6, 2), (190, .iload 9, 2), (192, .iadd, 1), (193, .iaload, 1), (194, .iastore, 1), (195, .iinc 8 1, 3), (198, .goto (-51), 3), (201, .iload 5, 2), (203, .ireturn, 1)]
theorem mX12_copy_1 : okd cX12_copy lmX12_copy_1 = true := by decide +kernel
theorem dX12_copy_105 : decode cX12_copy 105 = .ok (.iload_n 2, 1) := okd_at mX12_copy_1 0 rfl
theorem dX12_copy_106 : decode cX12_copy 106 = .ok (.isub, 1) := okd_at mX12_copy_1 1 rfl
theorem dX12_copy_107 : decode cX12_copy 107 = .ok (.if_icmp .gt 17, 3) := okd_at mX12_copy_1 2 rfl
theorem dX12_copy_110 : decode cX12_copy 110 = .ok (.iload 5, 2) := okd_at mX12_copy_1 3 rfl
theorem dX12_copy_112 : decode cX12_copy 112 = .ok (.aload_n 0, 1) := okd_at mX12_copy_1 4 rfl
theorem dX12_copy_113 : decode cX12_copy 113 = .ok (.getfield 40, 3) := okd_at mX12_copy_1 5 rfl
theorem dX12_copy_116 : decode cX12_copy 116 = .ok (.iload_n 3, 1) := okd_at mX12_copy_1 6 rfl
theorem dX12_copy_117 : decode cX12_copy 117 = .ok (.iaload, 1) := okd_at mX12_copy_1 7 rfl
theorem dX12_copy_118 : decode cX12_copy 118 = .ok (.iload 4, 2) := okd_at mX12_copy_1 8 rfl
theorem dX12_copy_120 : decode cX12_copy 120 = .ok (.isub, 1) := okd_at mX12_copy_1 9 rfl
theorem dX12_copy_121 : decode cX12_copy 121 = .ok (.if_icmp .le 6, 3) := okd_at mX12_copy_1 10 rfl
theorem dX12_copy_124 : decode cX12_copy 124 = .ok (.bipush (-12), 2) := okd_at mX12_copy_1 11 rfl
theorem dX12_copy_126 : decode cX12_copy 126 = .ok (.ireturn, 1) := okd_at mX12_copy_1 12 rfl
theorem dX12_copy_127 : decode cX12_copy 127 = .ok (.bipush 40, 2) := okd_at mX12_copy_1 13 rfl
theorem dX12_copy_129 : decode cX12_copy 129 = .ok (.iload_n 1, 1) := okd_at mX12_copy_1 14 rfl
theorem dX12_copy_130 : decode cX12_copy 130 = .ok (.imul, 1) := okd_at mX12_copy_1 15 rfl
theorem dX12_copy_131 : decode cX12_copy 131 = .ok (.iload_n 2, 1) := okd_at mX12_copy_1 16 rfl
theorem dX12_copy_132 : decode cX12_copy 132 = .ok (.iadd, 1) := okd_at mX12_copy_1 17 rfl
theorem dX12_copy_133 : decode cX12_copy 133 = .ok (.istore 6, 2) := okd_at mX12_copy_1 18 rfl
theorem dX12_copy_135 : decode cX12_copy 135 = .ok (.bipush 40, 2) := okd_at mX12_copy_1 19 rfl
theorem dX12_copy_137 : decode cX12_copy 137 = .ok (.iload_n 3, 1) := okd_at mX12_copy_1 20 rfl
theorem dX12_copy_138 : decode cX12_copy 138 = .ok (.imul, 1) := okd_at mX12_copy_1 21 rfl
theorem dX12_copy_139 : decode cX12_copy 139 = .ok (.iload 4, 2) := okd_at mX12_copy_1 22 rfl
theorem dX12_copy_141 : decode cX12_copy 141 = .ok (.iadd, 1) := okd_at mX12_copy_1 23 rfl
theorem dX12_copy_142 : decode cX12_copy 142 = .ok (.istore 7, 2) := okd_at mX12_copy_1 24 rfl
theorem dX12_copy_144 : decode cX12_copy 144 = .ok (.iconst 0, 1) := okd_at mX12_copy_1 25 rfl
theorem dX12_copy_145 : decode cX12_copy 145 = .ok (.istore 8, 2) := okd_at mX12_copy_1 26 rfl
theorem dX12_copy_147 : decode cX12_copy 147 = .ok (.iload 8, 2) := okd_at mX12_copy_1 27 rfl
theorem dX12_copy_149 : decode cX12_copy 149 = .ok (.iload 5, 2) := okd_at mX12_copy_1 28 rfl
theorem dX12_copy_151 : decode cX12_copy 151 = .ok (.if_icmp .ge 50, 3) := okd_at mX12_copy_1 29 rfl
theorem dX12_copy_154 : decode cX12_copy 154 = .ok (.iload 6, 2) := okd_at mX12_copy_1 30 rfl
theorem dX12_copy_156 : decode cX12_copy 156 = .ok (.iload 7, 2) := okd_at mX12_copy_1 31 rfl
theorem dX12_copy_158 : decode cX12_copy 158 = .ok (.if_icmp .ge 13, 3) := okd_at mX12_copy_1 32 rfl
theorem dX12_copy_161 : decode cX12_copy 161 = .ok (.iload 5, 2) := okd_at mX12_copy_1 33 rfl
theorem dX12_copy_163 : decode cX12_copy 163 = .ok (.iconst 1, 1) := okd_at mX12_copy_1 34 rfl
theorem dX12_copy_164 : decode cX12_copy 164 = .ok (.isub, 1) := okd_at mX12_copy_1 35 rfl
theorem dX12_copy_165 : decode cX12_copy 165 = .ok (.iload 8, 2) := okd_at mX12_copy_1 36 rfl
theorem dX12_copy_167 : decode cX12_copy 167 = .ok (.isub, 1) := okd_at mX12_copy_1 37 rfl
theorem dX12_copy_168 : decode cX12_copy 168 = .ok (.goto 5, 3) := okd_at mX12_copy_1 38 rfl
theorem dX12_copy_171 : decode cX12_copy 171 = .ok (.iload 8, 2) := okd_at mX12_copy_1 39 rfl
theorem dX12_copy_173 : decode cX12_copy 173 = .ok (.istore 9, 2) := okd_at mX12_copy_1 40 rfl
theorem dX12_copy_175 : decode cX12_copy 175 = .ok (.aload_n 0, 1) := okd_at mX12_copy_1 41 rfl
theorem dX12_copy_176 : decode cX12_copy 176 = .ok (.getfield 43, 3) := okd_at mX12_copy_1 42 rfl
theorem dX12_copy_179 : decode cX12_copy 179 = .ok (.iload 7, 2) := okd_at mX12_copy_1 43 rfl
theorem dX12_copy_181 : decode cX12_copy 181 = .ok (.iload 9, 2) := okd_at mX12_copy_1 44 rfl
theorem dX12_copy_183 : decode cX12_copy 183 = .ok (.iadd, 1) := okd_at mX12_copy_1 45 rfl
theorem dX12_copy_184 : decode cX12_copy 184 = .ok (.aload_n 0, 1) := okd_at mX12_copy_1 46 rfl
theorem dX12_copy_185 : decode cX12_copy 185 = .ok (.getfield 43, 3) := okd_at mX12_copy_1 47 rfl
theorem dX12_copy_188 : decode cX12_copy 188 = .ok (.iload 6, 2) := okd_at mX12_copy_1 48 rfl
theorem dX12_copy_190 : decode cX12_copy 190 = .ok (.iload 9, 2) := okd_at mX12_copy_1 49 rfl
theorem dX12_copy_192 : decode cX12_copy 192 = .ok (.iadd, 1) := okd_at mX12_copy_1 50 rfl
theorem dX12_copy_193 : decode cX12_copy 193 = .ok (.iaload, 1) := okd_at mX12_copy_1 51 rfl
theorem dX12_copy_194 : decode cX12_copy 194 = .ok (.iastore, 1) := okd_at mX12_copy_1 52 rfl
theorem dX12_copy_195 : decode cX12_copy 195 = .ok (.iinc 8 1, 3) := okd_at mX12_copy_1 53 rfl
theorem dX12_copy_198 : decode cX12_copy 198 = .ok (.goto (-51), 3) := okd_at mX12_copy_1 54 rfl
theorem dX12_copy_201 : decode cX12_copy 201 = .ok (.iload 5, 2) := okd_at mX12_copy_1 55 rfl
theorem dX12_copy_203 : decode cX12_copy 203 = .ok (.ireturn, 1) := okd_at mX12_copy_1 56 rfl
def lmX12_count_0 : List (Nat × Instr × Nat) := [(0, .iload_n 1, 1), (1, .tableswitch 60 0 4 #[35, 40, 45, 50, 55], 35), (36, .aload_n 0, 1), (37, .getfield 97, 3), (40, .ireturn, 1), (41, .aload_n 0, 1), (42, .getfield 90, 3), (45, .ireturn, 1), (46, .aload_n 0, 1), (47, .getfield 100, 3), (50, .ireturn, 1), (51, .aload_n 0, 1), (52, .getfield 103, 3), (55, .ireturn, 1), (56, .aload_n 0, 1), (57, .getfield 83, 3), (60, .ireturn, 1), (61, .bipush (-2), 2), (63, .ireturn, 1)]
theorem mX12_count_0 : okd cX12_count lmX12_count_0 = true := by decide +kernel
theorem dX12_count_0 : decode cX12_count 0 = .ok (.iload_n 1, 1) := okd_at mX12_count_0 0 rfl
theorem dX12_count_1 : decode cX12_count 1 = .ok (.tableswitch 60 0 4 #[35, 40, 45, 50, 55], 35) := okd_at mX12_count_0 1 rfl
theorem dX12_count_36 : decode cX12_count 36 = .ok (.aload_n 0, 1) := okd_at mX12_count_0 2 rfl
theorem dX12_count_37 : decode cX12_count 37 = .ok (.getfield 97, 3) := okd_at mX12_count_0 3 rfl
theorem dX12_count_40 : decode cX12_count 40 = .ok (.ireturn, 1) := okd_at mX12_count_0 4 rfl
theorem dX12_count_41 : decode cX12_count 41 = .ok (.aload_n 0, 1) := okd_at mX12_count_0 5 rfl
theorem dX12_count_42 : decode cX12_count 42 = .ok (.getfield 90, 3) := okd_at mX12_count_0 6 rfl
theorem dX12_count_45 : decode cX12_count 45 = .ok (.ireturn, 1) := okd_at mX12_count_0 7 rfl
theorem dX12_count_46 : decode cX12_count 46 = .ok (.aload_n 0, 1) := okd_at mX12_count_0 8 rfl
theorem dX12_count_47 : decode cX12_count 47 = .ok (.getfield 100, 3) := okd_at mX12_count_0 9 rfl
theorem dX12_count_50 : decode cX12_count 50 = .ok (.ireturn, 1) := okd_at mX12_count_0 10 rfl
theorem dX12_count_51 : decode cX12_count 51 = .ok (.aload_n 0, 1) := okd_at mX12_count_0 11 rfl
theorem dX12_count_52 : decode cX12_count 52 = .ok (.getfield 103, 3) := okd_at mX12_count_0 12 rfl
theorem dX12_count_55 : decode cX12_count 55 = .ok (.ireturn, 1) := okd_at mX12_count_0 13 rfl
theorem dX12_count_56 : decode cX12_count 56 = .ok (.aload_n 0, 1) := okd_at mX12_count_0 14 rfl
theorem dX12_count_57 : decode cX12_count 57 = .ok (.getfield 83, 3) := okd_at mX12_count_0 15 rfl
theorem dX12_count_60 : decode cX12_count 60 = .ok (.ireturn, 1) := okd_at mX12_count_0 16 rfl
theorem dX12_count_61 : decode cX12_count 61 = .ok (.bipush (-2), 2) := okd_at mX12_count_0 17 rfl
theorem dX12_count_63 : decode cX12_count 63 = .ok (.ireturn, 1) := okd_at mX12_count_0 18 rfl
def lmX12_day_0 : List (Nat × Instr × Nat) := [(0, .iload_n 1, 1), (1, .iconst 0, 1), (2, .iconst 3, 1), (3, .invokestatic 93, 3), (6, .ifCond .ne 23, 3), (9, .iload_n 1, 1), (10, .bipush 10, 2), (12, .bipush 9, 2), (14, .aload_n 0, 1), (15, .getfield 90, 3), (18, .iadd, 1), (19, .invokestatic 93, 3), (22, .ifCond .ne 7, 3), (25, .sipush (-1000), 3), (28, .ireturn, 1), (29, .aload_n 0, 1), (30, .invokevirtual 219, 3), (33, .iload_n 1, 1), (34, .tableswitch 50 0 3 #[30, 35, 40, 45], 30), (64, .aload_n 0, 1), (65, .invokevirtual 222, 3), (68, .ireturn, 1), (69, .aload_n 0, 1), (70, .getfield 213, 3), (73, .ireturn, 1), (74, .aload_n 0, 1), (75, .getfield 207, 3), (78, .ireturn, 1), (79, .aload_n 0, 1), (80, .getfield 210, 3), (83, .ireturn, 1), (84, .aload_n 0, 1), (85, .getfield 61, 3), (88, .iload_n 1, 1), (89, .bipush 10, 2), (91, .isub, 1), (92, .iaload, 1), (93, .ireturn, 1)]
theorem mX12_day_0 : okd cX12_day lmX12_day_0 = true := by decide +kernel
theorem dX12_day_0 : decode cX12_day 0 = .ok (.iload_n 1, 1) := okd_at mX12_day_0 0 rfl
theorem dX12_day_1 : decode cX12_day 1 = .ok (.iconst 0, 1) := okd_at mX12_day_0 1 rfl
theorem dX12_day_2 : decode cX12_day 2 = .ok (.iconst 3, 1) := okd_at mX12_day_0 2 rfl
theorem dX12_day_3 : decode cX12_day 3 = .ok (.invokestatic 93, 3) := okd_at mX12_day_0 3 rfl
theorem dX12_day_6 : decode cX12_day 6 = .ok (.ifCond .ne 23, 3) := okd_at mX12_day_0 4 rfl
theorem dX12_day_9 : decode cX12_day 9 = .ok (.iload_n 1, 1) := okd_at mX12_day_0 5 rfl
theorem dX12_day_10 : decode cX12_day 10 = .ok (.bipush 10, 2) := okd_at mX12_day_0 6 rfl
theorem dX12_day_12 : decode cX12_day 12 = .ok (.bipush 9, 2) := okd_at mX12_day_0 7 rfl
theorem dX12_day_14 : decode cX12_day 14 = .ok (.aload_n 0, 1) := okd_at mX12_day_0 8 rfl
theorem dX12_day_15 : decode cX12_day 15 = .ok (.getfield 90, 3) := okd_at mX12_day_0 9 rfl
theorem dX12_day_18 : decode cX12_day 18 = .ok (.iadd, 1) := okd_at mX12_day_0 10 rfl
theorem dX12_day_19 : decode cX12_day 19 = .ok (.invokestatic 93, 3) := okd_at mX12_day_0 11 rfl
theorem dX12_day_22 : decode cX12_day 22 = .ok (.ifCond .ne 7, 3) := okd_at mX12_day_0 12 rfl
theorem dX12_day_25 : decode cX12_day 25 = .ok (.sipush (-1000), 3) := okd_at mX12_day_0 13 rfl
theorem dX12_day_28 : decode cX12_day 28 = .ok (.ireturn, 1) := okd_at mX12_day_0 14 rfl
theorem dX12_day_29 : decode cX12_day 29 = .ok (.aload_n 0, 1) := okd_at mX12_day_0 15 rfl
theorem dX12_day_30 : decode cX12_day 30 = .ok (.invokevirtual 219, 3) := okd_at mX12_day_0 16 rfl
theorem dX12_day_33 : decode cX12_day 33 = .ok (.iload_n 1, 1) := okd_at mX12_day_0 17 rfl
theorem dX12_day_34 : decode cX12_day 34 = .ok (.tableswitch 50 0 3 #[30, 35, 40, 45], 30) := okd_at mX12_day_0 18 rfl
theorem dX12_day_64 : decode cX12_day 64 = .ok (.aload_n 0, 1) := okd_at mX12_day_0 19 rfl
theorem dX12_day_65 : decode cX12_day 65 = .ok (.invokevirtual 222, 3) := okd_at mX12_day_0 20 rfl
theorem dX12_day_68 : decode cX12_day 68 = .ok (.ireturn, 1) := okd_at mX12_day_0 21 rfl
theorem dX12_day_69 : decode cX12_day 69 = .ok (.aload_n 0, 1) := okd_at mX12_day_0 22 rfl
theorem dX12_day_70 : decode cX12_day 70 = .ok (.getfield 213, 3) := okd_at mX12_day_0 23 rfl
theorem dX12_day_73 : decode cX12_day 73 = .ok (.ireturn, 1) := okd_at mX12_day_0 24 rfl
theorem dX12_day_74 : decode cX12_day 74 = .ok (.aload_n 0, 1) := okd_at mX12_day_0 25 rfl
theorem dX12_day_75 : decode cX12_day 75 = .ok (.getfield 207, 3) := okd_at mX12_day_0 26 rfl
theorem dX12_day_78 : decode cX12_day 78 = .ok (.ireturn, 1) := okd_at mX12_day_0 27 rfl
theorem dX12_day_79 : decode cX12_day 79 = .ok (.aload_n 0, 1) := okd_at mX12_day_0 28 rfl
theorem dX12_day_80 : decode cX12_day 80 = .ok (.getfield 210, 3) := okd_at mX12_day_0 29 rfl
theorem dX12_day_83 : decode cX12_day 83 = .ok (.ireturn, 1) := okd_at mX12_day_0 30 rfl
theorem dX12_day_84 : decode cX12_day 84 = .ok (.aload_n 0, 1) := okd_at mX12_day_0 31 rfl
theorem dX12_day_85 : decode cX12_day 85 = .ok (.getfield 61, 3) := okd_at mX12_day_0 32 rfl
theorem dX12_day_88 : decode cX12_day 88 = .ok (.iload_n 1, 1) := okd_at mX12_day_0 33 rfl
theorem dX12_day_89 : decode cX12_day 89 = .ok (.bipush 10, 2) := okd_at mX12_day_0 34 rfl
theorem dX12_day_91 : decode cX12_day 91 = .ok (.isub, 1) := okd_at mX12_day_0 35 rfl
theorem dX12_day_92 : decode cX12_day 92 = .ok (.iaload, 1) := okd_at mX12_day_0 36 rfl
theorem dX12_day_93 : decode cX12_day 93 = .ok (.ireturn, 1) := okd_at mX12_day_0 37 rfl
def lmX12_dayBy_0 : List (Nat × Instr × Nat) := [(0, .iload_n 1, 1), (1, .i2l, 1), (2, .lconst 1, 1), (3, .ladd, 1), (4, .lstore_n 2, 1), (5, .iconst 0, 1), (6, .istore 4, 2), (8, .iload 4, 2), (10, .aload_n 0, 1), (11, .getfield 90, 3), (14, .if_icmp .ge 54, 3), (17, .lload_n 2, 1), (18, .ldc2_w 259, 3), (21, .lmul, 1), (22, .ldc2_w 261, 3), (25, .lrem, 1), (26, .lstore_n 2, 1), (27, .aload_n 0, 1), (28, .getfield 80, 3), (31, .iload 4, 2), (33, .aload_n 0, 1), (34, .getfield 7, 3), (37, .iconst 3, 1), (38, .iload 4, 2), (40, .imul, 1), (41, .iconst 1, 1), (42, .iadd, 1), (43, .iaload, 1), (44, .iastore, 1), (45, .aload_n 0, 1), (46, .getfield 7, 3), (49, .iconst 3, 1), (50, .iload 4, 2), (52, .imul, 1), (53, .iconst 1, 1), (54, .iadd, 1), (55, .lload_n 2, 1), (56, .ldc2_w 263, 3), (59, .lrem, 1), (60, .l2i, 1), (61, .iastore, 1), (62, .iinc 4 1, 3), (65, .goto (-57), 3), (68, .aload_n 0, 1), (69, .invokevirtual 219, 3), (72, .iconst 0, 1), (73, .istore 4, 2), (75, .iload 4, 2), (77, .aload_n 0, 1), (78, .getfield 90, 3), (81, .if_icmp .ge 27, 3), (84, .aload_n 0, 1), (85, .getfield 7, 3), (88, .iconst 3, 1), (89, .iload 4, 2), (91, .imul, 1), (92, .iconst 1, 1), (93, .iadd, 1), (94, .aload_n 0, 1), (95, .getfield 80, 3)]
theorem mX12_dayBy_0 : okd cX12_dayBy lmX12_dayBy_0 = true := by decide +kernel
theorem dX12_dayBy_0 : decode cX12_dayBy 0 = .ok (.iload_n 1, 1) := okd_at mX12_dayBy_0 0 rfl
theorem dX12_dayBy_1 : decode cX12_dayBy 1 = .ok (.i2l, 1) := okd_at mX12_dayBy_0 1 rfl
theorem dX12_dayBy_2 : decode cX12_dayBy 2 = .ok (.lconst 1, 1) := okd_at mX12_dayBy_0 2 rfl
theorem dX12_dayBy_3 : decode cX12_dayBy 3 = .ok (.ladd, 1) := okd_at mX12_dayBy_0 3 rfl
theorem dX12_dayBy_4 : decode cX12_dayBy 4 = .ok (.lstore_n 2, 1) := okd_at mX12_dayBy_0 4 rfl
theorem dX12_dayBy_5 : decode cX12_dayBy 5 = .ok (.iconst 0, 1) := okd_at mX12_dayBy_0 5 rfl
theorem dX12_dayBy_6 : decode cX12_dayBy 6 = .ok (.istore 4, 2) := okd_at mX12_dayBy_0 6 rfl
theorem dX12_dayBy_8 : decode cX12_dayBy 8 = .ok (.iload 4, 2) := okd_at mX12_dayBy_0 7 rfl
theorem dX12_dayBy_10 : decode cX12_dayBy 10 = .ok (.aload_n 0, 1) := okd_at mX12_dayBy_0 8 rfl
theorem dX12_dayBy_11 : decode cX12_dayBy 11 = .ok (.getfield 90, 3) := okd_at mX12_dayBy_0 9 rfl
theorem dX12_dayBy_14 : decode cX12_dayBy 14 = .ok (.if_icmp .ge 54, 3) := okd_at mX12_dayBy_0 10 rfl
theorem dX12_dayBy_17 : decode cX12_dayBy 17 = .ok (.lload_n 2, 1) := okd_at mX12_dayBy_0 11 rfl
theorem dX12_dayBy_18 : decode cX12_dayBy 18 = .ok (.ldc2_w 259, 3) := okd_at mX12_dayBy_0 12 rfl
theorem dX12_dayBy_21 : decode cX12_dayBy 21 = .ok (.lmul, 1) := okd_at mX12_dayBy_0 13 rfl
theorem dX12_dayBy_22 : decode cX12_dayBy 22 = .ok (.ldc2_w 261, 3) := okd_at mX12_dayBy_0 14 rfl
theorem dX12_dayBy_25 : decode cX12_dayBy 25 = .ok (.lrem, 1) := okd_at mX12_dayBy_0 15 rfl
theorem dX12_dayBy_26 : decode cX12_dayBy 26 = .ok (.lstore_n 2, 1) := okd_at mX12_dayBy_0 16 rfl
theorem dX12_dayBy_27 : decode cX12_dayBy 27 = .ok (.aload_n 0, 1) := okd_at mX12_dayBy_0 17 rfl
theorem dX12_dayBy_28 : decode cX12_dayBy 28 = .ok (.getfield 80, 3) := okd_at mX12_dayBy_0 18 rfl
theorem dX12_dayBy_31 : decode cX12_dayBy 31 = .ok (.iload 4, 2) := okd_at mX12_dayBy_0 19 rfl
theorem dX12_dayBy_33 : decode cX12_dayBy 33 = .ok (.aload_n 0, 1) := okd_at mX12_dayBy_0 20 rfl
theorem dX12_dayBy_34 : decode cX12_dayBy 34 = .ok (.getfield 7, 3) := okd_at mX12_dayBy_0 21 rfl
theorem dX12_dayBy_37 : decode cX12_dayBy 37 = .ok (.iconst 3, 1) := okd_at mX12_dayBy_0 22 rfl
theorem dX12_dayBy_38 : decode cX12_dayBy 38 = .ok (.iload 4, 2) := okd_at mX12_dayBy_0 23 rfl
theorem dX12_dayBy_40 : decode cX12_dayBy 40 = .ok (.imul, 1) := okd_at mX12_dayBy_0 24 rfl
theorem dX12_dayBy_41 : decode cX12_dayBy 41 = .ok (.iconst 1, 1) := okd_at mX12_dayBy_0 25 rfl
theorem dX12_dayBy_42 : decode cX12_dayBy 42 = .ok (.iadd, 1) := okd_at mX12_dayBy_0 26 rfl
theorem dX12_dayBy_43 : decode cX12_dayBy 43 = .ok (.iaload, 1) := okd_at mX12_dayBy_0 27 rfl
theorem dX12_dayBy_44 : decode cX12_dayBy 44 = .ok (.iastore, 1) := okd_at mX12_dayBy_0 28 rfl
theorem dX12_dayBy_45 : decode cX12_dayBy 45 = .ok (.aload_n 0, 1) := okd_at mX12_dayBy_0 29 rfl
theorem dX12_dayBy_46 : decode cX12_dayBy 46 = .ok (.getfield 7, 3) := okd_at mX12_dayBy_0 30 rfl
theorem dX12_dayBy_49 : decode cX12_dayBy 49 = .ok (.iconst 3, 1) := okd_at mX12_dayBy_0 31 rfl
theorem dX12_dayBy_50 : decode cX12_dayBy 50 = .ok (.iload 4, 2) := okd_at mX12_dayBy_0 32 rfl
theorem dX12_dayBy_52 : decode cX12_dayBy 52 = .ok (.imul, 1) := okd_at mX12_dayBy_0 33 rfl
theorem dX12_dayBy_53 : decode cX12_dayBy 53 = .ok (.iconst 1, 1) := okd_at mX12_dayBy_0 34 rfl
theorem dX12_dayBy_54 : decode cX12_dayBy 54 = .ok (.iadd, 1) := okd_at mX12_dayBy_0 35 rfl
theorem dX12_dayBy_55 : decode cX12_dayBy 55 = .ok (.lload_n 2, 1) := okd_at mX12_dayBy_0 36 rfl
theorem dX12_dayBy_56 : decode cX12_dayBy 56 = .ok (.ldc2_w 263, 3) := okd_at mX12_dayBy_0 37 rfl
theorem dX12_dayBy_59 : decode cX12_dayBy 59 = .ok (.lrem, 1) := okd_at mX12_dayBy_0 38 rfl
theorem dX12_dayBy_60 : decode cX12_dayBy 60 = .ok (.l2i, 1) := okd_at mX12_dayBy_0 39 rfl
theorem dX12_dayBy_61 : decode cX12_dayBy 61 = .ok (.iastore, 1) := okd_at mX12_dayBy_0 40 rfl
theorem dX12_dayBy_62 : decode cX12_dayBy 62 = .ok (.iinc 4 1, 3) := okd_at mX12_dayBy_0 41 rfl
theorem dX12_dayBy_65 : decode cX12_dayBy 65 = .ok (.goto (-57), 3) := okd_at mX12_dayBy_0 42 rfl
theorem dX12_dayBy_68 : decode cX12_dayBy 68 = .ok (.aload_n 0, 1) := okd_at mX12_dayBy_0 43 rfl
theorem dX12_dayBy_69 : decode cX12_dayBy 69 = .ok (.invokevirtual 219, 3) := okd_at mX12_dayBy_0 44 rfl
theorem dX12_dayBy_72 : decode cX12_dayBy 72 = .ok (.iconst 0, 1) := okd_at mX12_dayBy_0 45 rfl
theorem dX12_dayBy_73 : decode cX12_dayBy 73 = .ok (.istore 4, 2) := okd_at mX12_dayBy_0 46 rfl
theorem dX12_dayBy_75 : decode cX12_dayBy 75 = .ok (.iload 4, 2) := okd_at mX12_dayBy_0 47 rfl
theorem dX12_dayBy_77 : decode cX12_dayBy 77 = .ok (.aload_n 0, 1) := okd_at mX12_dayBy_0 48 rfl
theorem dX12_dayBy_78 : decode cX12_dayBy 78 = .ok (.getfield 90, 3) := okd_at mX12_dayBy_0 49 rfl
theorem dX12_dayBy_81 : decode cX12_dayBy 81 = .ok (.if_icmp .ge 27, 3) := okd_at mX12_dayBy_0 50 rfl
theorem dX12_dayBy_84 : decode cX12_dayBy 84 = .ok (.aload_n 0, 1) := okd_at mX12_dayBy_0 51 rfl
theorem dX12_dayBy_85 : decode cX12_dayBy 85 = .ok (.getfield 7, 3) := okd_at mX12_dayBy_0 52 rfl
theorem dX12_dayBy_88 : decode cX12_dayBy 88 = .ok (.iconst 3, 1) := okd_at mX12_dayBy_0 53 rfl
theorem dX12_dayBy_89 : decode cX12_dayBy 89 = .ok (.iload 4, 2) := okd_at mX12_dayBy_0 54 rfl
theorem dX12_dayBy_91 : decode cX12_dayBy 91 = .ok (.imul, 1) := okd_at mX12_dayBy_0 55 rfl
theorem dX12_dayBy_92 : decode cX12_dayBy 92 = .ok (.iconst 1, 1) := okd_at mX12_dayBy_0 56 rfl
theorem dX12_dayBy_93 : decode cX12_dayBy 93 = .ok (.iadd, 1) := okd_at mX12_dayBy_0 57 rfl
theorem dX12_dayBy_94 : decode cX12_dayBy 94 = .ok (.aload_n 0, 1) := okd_at mX12_dayBy_0 58 rfl
theorem dX12_dayBy_95 : decode cX12_dayBy 95 = .ok (.getfield 80, 3) := okd_at mX12_dayBy_0 59 rfl
def lmX12_dayBy_1 : List (Nat × Instr × Nat) := [(98, .iload 4, 2), (100, .iaload, 1), (101, .iastore, 1), (102, .iinc 4 1, 3), (105, .goto (-30), 3), (108, .return_, 1)]
theorem mX12_dayBy_1 : okd cX12_dayBy lmX12_dayBy_1 = true := by decide +kernel
theorem dX12_dayBy_98 : decode cX12_dayBy 98 = .ok (.iload 4, 2) := okd_at mX12_dayBy_1 0 rfl
theorem dX12_dayBy_100 : decode cX12_dayBy 100 = .ok (.iaload, 1) := okd_at mX12_dayBy_1 1 rfl
theorem dX12_dayBy_101 : decode cX12_dayBy 101 = .ok (.iastore, 1) := okd_at mX12_dayBy_1 2 rfl
theorem dX12_dayBy_102 : decode cX12_dayBy 102 = .ok (.iinc 4 1, 3) := okd_at mX12_dayBy_1 3 rfl
theorem dX12_dayBy_105 : decode cX12_dayBy 105 = .ok (.goto (-30), 3) := okd_at mX12_dayBy_1 4 rfl
theorem dX12_dayBy_108 : decode cX12_dayBy 108 = .ok (.return_, 1) := okd_at mX12_dayBy_1 5 rfl
def lmX12_does_0 : List (Nat × Instr × Nat) := [(0, .aload_n 0, 1), (1, .iload_n 1, 1), (2, .invokevirtual 106, 3), (5, .ifCond .ne 7, 3), (8, .sipush (-1005), 3), (11, .ireturn, 1), (12, .aload_n 0, 1), (13, .iload_n 2, 1), (14, .invokevirtual 182, 3), (17, .ifCond .ne 7, 3), (20, .sipush (-1006), 3), (23, .ireturn, 1), (24, .aload_n 0, 1), (25, .invokevirtual 198, 3), (28, .aload_n 0, 1), (29, .iload_n 1, 1), (30, .iload_n 2, 1), (31, .invokevirtual 195, 3), (34, .ireturn, 1)]
theorem mX12_does_0 : okd cX12_does lmX12_does_0 = true := by decide +kernel
theorem dX12_does_0 : decode cX12_does 0 = .ok (.aload_n 0, 1) := okd_at mX12_does_0 0 rfl
theorem dX12_does_1 : decode cX12_does 1 = .ok (.iload_n 1, 1) := okd_at mX12_does_0 1 rfl
theorem dX12_does_2 : decode cX12_does 2 = .ok (.invokevirtual 106, 3) := okd_at mX12_does_0 2 rfl
theorem dX12_does_5 : decode cX12_does 5 = .ok (.ifCond .ne 7, 3) := okd_at mX12_does_0 3 rfl
theorem dX12_does_8 : decode cX12_does 8 = .ok (.sipush (-1005), 3) := okd_at mX12_does_0 4 rfl
theorem dX12_does_11 : decode cX12_does 11 = .ok (.ireturn, 1) := okd_at mX12_does_0 5 rfl
theorem dX12_does_12 : decode cX12_does 12 = .ok (.aload_n 0, 1) := okd_at mX12_does_0 6 rfl
theorem dX12_does_13 : decode cX12_does 13 = .ok (.iload_n 2, 1) := okd_at mX12_does_0 7 rfl
theorem dX12_does_14 : decode cX12_does 14 = .ok (.invokevirtual 182, 3) := okd_at mX12_does_0 8 rfl
theorem dX12_does_17 : decode cX12_does 17 = .ok (.ifCond .ne 7, 3) := okd_at mX12_does_0 9 rfl
theorem dX12_does_20 : decode cX12_does 20 = .ok (.sipush (-1006), 3) := okd_at mX12_does_0 10 rfl
theorem dX12_does_23 : decode cX12_does 23 = .ok (.ireturn, 1) := okd_at mX12_does_0 11 rfl
theorem dX12_does_24 : decode cX12_does 24 = .ok (.aload_n 0, 1) := okd_at mX12_does_0 12 rfl
theorem dX12_does_25 : decode cX12_does 25 = .ok (.invokevirtual 198, 3) := okd_at mX12_does_0 13 rfl
theorem dX12_does_28 : decode cX12_does 28 = .ok (.aload_n 0, 1) := okd_at mX12_does_0 14 rfl
theorem dX12_does_29 : decode cX12_does 29 = .ok (.iload_n 1, 1) := okd_at mX12_does_0 15 rfl
theorem dX12_does_30 : decode cX12_does 30 = .ok (.iload_n 2, 1) := okd_at mX12_does_0 16 rfl
theorem dX12_does_31 : decode cX12_does 31 = .ok (.invokevirtual 195, 3) := okd_at mX12_does_0 17 rfl
theorem dX12_does_34 : decode cX12_does 34 = .ok (.ireturn, 1) := okd_at mX12_does_0 18 rfl
def lmX12_drawn_0 : List (Nat × Instr × Nat) := [(0, .iload_n 1, 1), (1, .iconst 0, 1), (2, .ldc_w 265, 3), (5, .invokestatic 93, 3), (8, .ifCond .eq 12, 3), (11, .iload_n 2, 1), (12, .iconst 0, 1), (13, .iconst 1, 1), (14, .invokestatic 93, 3), (17, .ifCond .ne 7, 3), (20, .sipush (-1000), 3), (23, .ireturn, 1), (24, .aload_n 0, 1), (25, .iload_n 1, 1), (26, .invokevirtual 266, 3), (29, .iload_n 2, 1), (30, .ifCond .ne 10, 3), (33, .aload_n 0, 1), (34, .getfield 213, 3), (37, .goto 7, 3), (40, .aload_n 0, 1), (41, .getfield 207, 3), (44, .ireturn, 1)]
theorem mX12_drawn_0 : okd cX12_drawn lmX12_drawn_0 = true := by decide +kernel
theorem dX12_drawn_0 : decode cX12_drawn 0 = .ok (.iload_n 1, 1) := okd_at mX12_drawn_0 0 rfl
theorem dX12_drawn_1 : decode cX12_drawn 1 = .ok (.iconst 0, 1) := okd_at mX12_drawn_0 1 rfl
theorem dX12_drawn_2 : decode cX12_drawn 2 = .ok (.ldc_w 265, 3) := okd_at mX12_drawn_0 2 rfl
theorem dX12_drawn_5 : decode cX12_drawn 5 = .ok (.invokestatic 93, 3) := okd_at mX12_drawn_0 3 rfl
theorem dX12_drawn_8 : decode cX12_drawn 8 = .ok (.ifCond .eq 12, 3) := okd_at mX12_drawn_0 4 rfl
theorem dX12_drawn_11 : decode cX12_drawn 11 = .ok (.iload_n 2, 1) := okd_at mX12_drawn_0 5 rfl
theorem dX12_drawn_12 : decode cX12_drawn 12 = .ok (.iconst 0, 1) := okd_at mX12_drawn_0 6 rfl
theorem dX12_drawn_13 : decode cX12_drawn 13 = .ok (.iconst 1, 1) := okd_at mX12_drawn_0 7 rfl
theorem dX12_drawn_14 : decode cX12_drawn 14 = .ok (.invokestatic 93, 3) := okd_at mX12_drawn_0 8 rfl
theorem dX12_drawn_17 : decode cX12_drawn 17 = .ok (.ifCond .ne 7, 3) := okd_at mX12_drawn_0 9 rfl
theorem dX12_drawn_20 : decode cX12_drawn 20 = .ok (.sipush (-1000), 3) := okd_at mX12_drawn_0 10 rfl
theorem dX12_drawn_23 : decode cX12_drawn 23 = .ok (.ireturn, 1) := okd_at mX12_drawn_0 11 rfl
theorem dX12_drawn_24 : decode cX12_drawn 24 = .ok (.aload_n 0, 1) := okd_at mX12_drawn_0 12 rfl
theorem dX12_drawn_25 : decode cX12_drawn 25 = .ok (.iload_n 1, 1) := okd_at mX12_drawn_0 13 rfl
theorem dX12_drawn_26 : decode cX12_drawn 26 = .ok (.invokevirtual 266, 3) := okd_at mX12_drawn_0 14 rfl
theorem dX12_drawn_29 : decode cX12_drawn 29 = .ok (.iload_n 2, 1) := okd_at mX12_drawn_0 15 rfl
theorem dX12_drawn_30 : decode cX12_drawn 30 = .ok (.ifCond .ne 10, 3) := okd_at mX12_drawn_0 16 rfl
theorem dX12_drawn_33 : decode cX12_drawn 33 = .ok (.aload_n 0, 1) := okd_at mX12_drawn_0 17 rfl
theorem dX12_drawn_34 : decode cX12_drawn 34 = .ok (.getfield 213, 3) := okd_at mX12_drawn_0 18 rfl
theorem dX12_drawn_37 : decode cX12_drawn 37 = .ok (.goto 7, 3) := okd_at mX12_drawn_0 19 rfl
theorem dX12_drawn_40 : decode cX12_drawn 40 = .ok (.aload_n 0, 1) := okd_at mX12_drawn_0 20 rfl
theorem dX12_drawn_41 : decode cX12_drawn 41 = .ok (.getfield 207, 3) := okd_at mX12_drawn_0 21 rfl
theorem dX12_drawn_44 : decode cX12_drawn 44 = .ok (.ireturn, 1) := okd_at mX12_drawn_0 22 rfl
def lmX12_drop_0 : List (Nat × Instr × Nat) := [(0, .iload_n 1, 1), (1, .iconst 0, 1), (2, .iconst 2, 1), (3, .invokestatic 93, 3), (6, .ifCond .ne 7, 3), (9, .sipush (-1000), 3), (12, .ireturn, 1), (13, .aload_n 0, 1), (14, .invokevirtual 234, 3), (17, .iconst 0, 1), (18, .istore_n 2, 1), (19, .iload_n 2, 1), (20, .aload_n 0, 1), (21, .getfield 97, 3), (24, .if_icmp .ge 19, 3), (27, .aload_n 0, 1), (28, .iload_n 2, 1), (29, .putfield 76, 3), (32, .aload_n 0, 1), (33, .iload_n 2, 1), (34, .invokevirtual 237, 3), (37, .iinc 2 1, 3), (40, .goto (-21), 3), (43, .aload_n 0, 1), (44, .iconst (-1), 1), (45, .putfield 76, 3), (48, .aload_n 0, 1), (49, .iload_n 1, 1), (50, .invokevirtual 244, 3), (53, .ireturn, 1)]
theorem mX12_drop_0 : okd cX12_drop lmX12_drop_0 = true := by decide +kernel
theorem dX12_drop_0 : decode cX12_drop 0 = .ok (.iload_n 1, 1) := okd_at mX12_drop_0 0 rfl
theorem dX12_drop_1 : decode cX12_drop 1 = .ok (.iconst 0, 1) := okd_at mX12_drop_0 1 rfl
theorem dX12_drop_2 : decode cX12_drop 2 = .ok (.iconst 2, 1) := okd_at mX12_drop_0 2 rfl
theorem dX12_drop_3 : decode cX12_drop 3 = .ok (.invokestatic 93, 3) := okd_at mX12_drop_0 3 rfl
theorem dX12_drop_6 : decode cX12_drop 6 = .ok (.ifCond .ne 7, 3) := okd_at mX12_drop_0 4 rfl
theorem dX12_drop_9 : decode cX12_drop 9 = .ok (.sipush (-1000), 3) := okd_at mX12_drop_0 5 rfl
theorem dX12_drop_12 : decode cX12_drop 12 = .ok (.ireturn, 1) := okd_at mX12_drop_0 6 rfl
theorem dX12_drop_13 : decode cX12_drop 13 = .ok (.aload_n 0, 1) := okd_at mX12_drop_0 7 rfl
theorem dX12_drop_14 : decode cX12_drop 14 = .ok (.invokevirtual 234, 3) := okd_at mX12_drop_0 8 rfl
theorem dX12_drop_17 : decode cX12_drop 17 = .ok (.iconst 0, 1) := okd_at mX12_drop_0 9 rfl
theorem dX12_drop_18 : decode cX12_drop 18 = .ok (.istore_n 2, 1) := okd_at mX12_drop_0 10 rfl
theorem dX12_drop_19 : decode cX12_drop 19 = .ok (.iload_n 2, 1) := okd_at mX12_drop_0 11 rfl
theorem dX12_drop_20 : decode cX12_drop 20 = .ok (.aload_n 0, 1) := okd_at mX12_drop_0 12 rfl
theorem dX12_drop_21 : decode cX12_drop 21 = .ok (.getfield 97, 3) := okd_at mX12_drop_0 13 rfl
theorem dX12_drop_24 : decode cX12_drop 24 = .ok (.if_icmp .ge 19, 3) := okd_at mX12_drop_0 14 rfl
theorem dX12_drop_27 : decode cX12_drop 27 = .ok (.aload_n 0, 1) := okd_at mX12_drop_0 15 rfl
theorem dX12_drop_28 : decode cX12_drop 28 = .ok (.iload_n 2, 1) := okd_at mX12_drop_0 16 rfl
theorem dX12_drop_29 : decode cX12_drop 29 = .ok (.putfield 76, 3) := okd_at mX12_drop_0 17 rfl
theorem dX12_drop_32 : decode cX12_drop 32 = .ok (.aload_n 0, 1) := okd_at mX12_drop_0 18 rfl
theorem dX12_drop_33 : decode cX12_drop 33 = .ok (.iload_n 2, 1) := okd_at mX12_drop_0 19 rfl
theorem dX12_drop_34 : decode cX12_drop 34 = .ok (.invokevirtual 237, 3) := okd_at mX12_drop_0 20 rfl
theorem dX12_drop_37 : decode cX12_drop 37 = .ok (.iinc 2 1, 3) := okd_at mX12_drop_0 21 rfl
theorem dX12_drop_40 : decode cX12_drop 40 = .ok (.goto (-21), 3) := okd_at mX12_drop_0 22 rfl
theorem dX12_drop_43 : decode cX12_drop 43 = .ok (.aload_n 0, 1) := okd_at mX12_drop_0 23 rfl
theorem dX12_drop_44 : decode cX12_drop 44 = .ok (.iconst (-1), 1) := okd_at mX12_drop_0 24 rfl
theorem dX12_drop_45 : decode cX12_drop 45 = .ok (.putfield 76, 3) := okd_at mX12_drop_0 25 rfl
theorem dX12_drop_48 : decode cX12_drop 48 = .ok (.aload_n 0, 1) := okd_at mX12_drop_0 26 rfl
theorem dX12_drop_49 : decode cX12_drop 49 = .ok (.iload_n 1, 1) := okd_at mX12_drop_0 27 rfl
theorem dX12_drop_50 : decode cX12_drop 50 = .ok (.invokevirtual 244, 3) := okd_at mX12_drop_0 28 rfl
theorem dX12_drop_53 : decode cX12_drop 53 = .ok (.ireturn, 1) := okd_at mX12_drop_0 29 rfl
def lmX12_eRead_0 : List (Nat × Instr × Nat) := [(0, .aload_n 0, 1), (1, .iconst 0, 1), (2, .putfield 132, 3), (5, .aload_n 0, 1), (6, .iconst 0, 1), (7, .putfield 139, 3), (10, .iconst 1, 1), (11, .istore_n 1, 1), (12, .iconst 1, 1), (13, .istore_n 2, 1), (14, .aload_n 0, 1), (15, .invokevirtual 152, 3), (18, .iload_n 1, 1), (19, .ifCond .eq 131, 3), (22, .aload_n 0, 1), (23, .getfield 119, 3), (26, .iconst 1, 1), (27, .if_icmp .eq 11, 3), (30, .aload_n 0, 1), (31, .getfield 119, 3), (34, .iconst 2, 1), (35, .if_icmp .ne 40, 3), (38, .aload_n 0, 1), (39, .aload_n 0, 1), (40, .getfield 119, 3), (43, .iconst 1, 1), (44, .if_icmp .ne 13, 3), (47, .ldc 155, 2), (49, .aload_n 0, 1), (50, .getfield 122, 3), (53, .iadd, 1), (54, .goto 7, 3), (57, .aload_n 0, 1), (58, .getfield 122, 3), (61, .invokevirtual 142, 3), (64, .aload_n 0, 1), (65, .bipush 7, 2), (67, .invokevirtual 149, 3), (70, .iconst 0, 1), (71, .istore_n 1, 1), (72, .goto (-58), 3), (75, .aload_n 0, 1), (76, .getfield 119, 3), (79, .bipush 6, 2), (81, .if_icmp .ne 18, 3), (84, .iload_n 2, 1), (85, .ifCond .eq 14, 3), (88, .aload_n 0, 1), (89, .bipush 13, 2), (91, .invokevirtual 156, 3), (94, .ifCond .ne (-80), 3), (97, .iconst 0, 1), (98, .ireturn, 1), (99, .aload_n 0, 1), (100, .getfield 119, 3), (103, .bipush 45, 2), (105, .if_icmp .ne 19, 3), (108, .aload_n 0, 1), (109, .bipush 19, 2), (111, .invokevirtual 156, 3)]
theorem mX12_eRead_0 : okd cX12_eRead lmX12_eRead_0 = true := by decide +kernel
theorem dX12_eRead_0 : decode cX12_eRead 0 = .ok (.aload_n 0, 1) := okd_at mX12_eRead_0 0 rfl
theorem dX12_eRead_1 : decode cX12_eRead 1 = .ok (.iconst 0, 1) := okd_at mX12_eRead_0 1 rfl
theorem dX12_eRead_2 : decode cX12_eRead 2 = .ok (.putfield 132, 3) := okd_at mX12_eRead_0 2 rfl
theorem dX12_eRead_5 : decode cX12_eRead 5 = .ok (.aload_n 0, 1) := okd_at mX12_eRead_0 3 rfl
theorem dX12_eRead_6 : decode cX12_eRead 6 = .ok (.iconst 0, 1) := okd_at mX12_eRead_0 4 rfl
theorem dX12_eRead_7 : decode cX12_eRead 7 = .ok (.putfield 139, 3) := okd_at mX12_eRead_0 5 rfl
theorem dX12_eRead_10 : decode cX12_eRead 10 = .ok (.iconst 1, 1) := okd_at mX12_eRead_0 6 rfl
theorem dX12_eRead_11 : decode cX12_eRead 11 = .ok (.istore_n 1, 1) := okd_at mX12_eRead_0 7 rfl
theorem dX12_eRead_12 : decode cX12_eRead 12 = .ok (.iconst 1, 1) := okd_at mX12_eRead_0 8 rfl
theorem dX12_eRead_13 : decode cX12_eRead 13 = .ok (.istore_n 2, 1) := okd_at mX12_eRead_0 9 rfl
theorem dX12_eRead_14 : decode cX12_eRead 14 = .ok (.aload_n 0, 1) := okd_at mX12_eRead_0 10 rfl
theorem dX12_eRead_15 : decode cX12_eRead 15 = .ok (.invokevirtual 152, 3) := okd_at mX12_eRead_0 11 rfl
theorem dX12_eRead_18 : decode cX12_eRead 18 = .ok (.iload_n 1, 1) := okd_at mX12_eRead_0 12 rfl
theorem dX12_eRead_19 : decode cX12_eRead 19 = .ok (.ifCond .eq 131, 3) := okd_at mX12_eRead_0 13 rfl
theorem dX12_eRead_22 : decode cX12_eRead 22 = .ok (.aload_n 0, 1) := okd_at mX12_eRead_0 14 rfl
theorem dX12_eRead_23 : decode cX12_eRead 23 = .ok (.getfield 119, 3) := okd_at mX12_eRead_0 15 rfl
theorem dX12_eRead_26 : decode cX12_eRead 26 = .ok (.iconst 1, 1) := okd_at mX12_eRead_0 16 rfl
theorem dX12_eRead_27 : decode cX12_eRead 27 = .ok (.if_icmp .eq 11, 3) := okd_at mX12_eRead_0 17 rfl
theorem dX12_eRead_30 : decode cX12_eRead 30 = .ok (.aload_n 0, 1) := okd_at mX12_eRead_0 18 rfl
theorem dX12_eRead_31 : decode cX12_eRead 31 = .ok (.getfield 119, 3) := okd_at mX12_eRead_0 19 rfl
theorem dX12_eRead_34 : decode cX12_eRead 34 = .ok (.iconst 2, 1) := okd_at mX12_eRead_0 20 rfl
theorem dX12_eRead_35 : decode cX12_eRead 35 = .ok (.if_icmp .ne 40, 3) := okd_at mX12_eRead_0 21 rfl
theorem dX12_eRead_38 : decode cX12_eRead 38 = .ok (.aload_n 0, 1) := okd_at mX12_eRead_0 22 rfl
theorem dX12_eRead_39 : decode cX12_eRead 39 = .ok (.aload_n 0, 1) := okd_at mX12_eRead_0 23 rfl
theorem dX12_eRead_40 : decode cX12_eRead 40 = .ok (.getfield 119, 3) := okd_at mX12_eRead_0 24 rfl
theorem dX12_eRead_43 : decode cX12_eRead 43 = .ok (.iconst 1, 1) := okd_at mX12_eRead_0 25 rfl
theorem dX12_eRead_44 : decode cX12_eRead 44 = .ok (.if_icmp .ne 13, 3) := okd_at mX12_eRead_0 26 rfl
theorem dX12_eRead_47 : decode cX12_eRead 47 = .ok (.ldc 155, 2) := okd_at mX12_eRead_0 27 rfl
theorem dX12_eRead_49 : decode cX12_eRead 49 = .ok (.aload_n 0, 1) := okd_at mX12_eRead_0 28 rfl
theorem dX12_eRead_50 : decode cX12_eRead 50 = .ok (.getfield 122, 3) := okd_at mX12_eRead_0 29 rfl
theorem dX12_eRead_53 : decode cX12_eRead 53 = .ok (.iadd, 1) := okd_at mX12_eRead_0 30 rfl
theorem dX12_eRead_54 : decode cX12_eRead 54 = .ok (.goto 7, 3) := okd_at mX12_eRead_0 31 rfl
theorem dX12_eRead_57 : decode cX12_eRead 57 = .ok (.aload_n 0, 1) := okd_at mX12_eRead_0 32 rfl
theorem dX12_eRead_58 : decode cX12_eRead 58 = .ok (.getfield 122, 3) := okd_at mX12_eRead_0 33 rfl
theorem dX12_eRead_61 : decode cX12_eRead 61 = .ok (.invokevirtual 142, 3) := okd_at mX12_eRead_0 34 rfl
theorem dX12_eRead_64 : decode cX12_eRead 64 = .ok (.aload_n 0, 1) := okd_at mX12_eRead_0 35 rfl
theorem dX12_eRead_65 : decode cX12_eRead 65 = .ok (.bipush 7, 2) := okd_at mX12_eRead_0 36 rfl
theorem dX12_eRead_67 : decode cX12_eRead 67 = .ok (.invokevirtual 149, 3) := okd_at mX12_eRead_0 37 rfl
theorem dX12_eRead_70 : decode cX12_eRead 70 = .ok (.iconst 0, 1) := okd_at mX12_eRead_0 38 rfl
theorem dX12_eRead_71 : decode cX12_eRead 71 = .ok (.istore_n 1, 1) := okd_at mX12_eRead_0 39 rfl
theorem dX12_eRead_72 : decode cX12_eRead 72 = .ok (.goto (-58), 3) := okd_at mX12_eRead_0 40 rfl
theorem dX12_eRead_75 : decode cX12_eRead 75 = .ok (.aload_n 0, 1) := okd_at mX12_eRead_0 41 rfl
theorem dX12_eRead_76 : decode cX12_eRead 76 = .ok (.getfield 119, 3) := okd_at mX12_eRead_0 42 rfl
theorem dX12_eRead_79 : decode cX12_eRead 79 = .ok (.bipush 6, 2) := okd_at mX12_eRead_0 43 rfl
theorem dX12_eRead_81 : decode cX12_eRead 81 = .ok (.if_icmp .ne 18, 3) := okd_at mX12_eRead_0 44 rfl
theorem dX12_eRead_84 : decode cX12_eRead 84 = .ok (.iload_n 2, 1) := okd_at mX12_eRead_0 45 rfl
theorem dX12_eRead_85 : decode cX12_eRead 85 = .ok (.ifCond .eq 14, 3) := okd_at mX12_eRead_0 46 rfl
theorem dX12_eRead_88 : decode cX12_eRead 88 = .ok (.aload_n 0, 1) := okd_at mX12_eRead_0 47 rfl
theorem dX12_eRead_89 : decode cX12_eRead 89 = .ok (.bipush 13, 2) := okd_at mX12_eRead_0 48 rfl
theorem dX12_eRead_91 : decode cX12_eRead 91 = .ok (.invokevirtual 156, 3) := okd_at mX12_eRead_0 49 rfl
theorem dX12_eRead_94 : decode cX12_eRead 94 = .ok (.ifCond .ne (-80), 3) := okd_at mX12_eRead_0 50 rfl
theorem dX12_eRead_97 : decode cX12_eRead 97 = .ok (.iconst 0, 1) := okd_at mX12_eRead_0 51 rfl
theorem dX12_eRead_98 : decode cX12_eRead 98 = .ok (.ireturn, 1) := okd_at mX12_eRead_0 52 rfl
theorem dX12_eRead_99 : decode cX12_eRead 99 = .ok (.aload_n 0, 1) := okd_at mX12_eRead_0 53 rfl
theorem dX12_eRead_100 : decode cX12_eRead 100 = .ok (.getfield 119, 3) := okd_at mX12_eRead_0 54 rfl
theorem dX12_eRead_103 : decode cX12_eRead 103 = .ok (.bipush 45, 2) := okd_at mX12_eRead_0 55 rfl
theorem dX12_eRead_105 : decode cX12_eRead 105 = .ok (.if_icmp .ne 19, 3) := okd_at mX12_eRead_0 56 rfl
theorem dX12_eRead_108 : decode cX12_eRead 108 = .ok (.aload_n 0, 1) := okd_at mX12_eRead_0 57 rfl
theorem dX12_eRead_109 : decode cX12_eRead 109 = .ok (.bipush 19, 2) := okd_at mX12_eRead_0 58 rfl
theorem dX12_eRead_111 : decode cX12_eRead 111 = .ok (.invokevirtual 156, 3) := okd_at mX12_eRead_0 59 rfl
def lmX12_eRead_1 : List (Nat × Instr × Nat) := [(114, .ifCond .ne 5, 3), (117, .iconst 0, 1), (118, .ireturn, 1), (119, .iconst 0, 1), (120, .istore_n 2, 1), (121, .goto (-107), 3), (124, .aload_n 0, 1), (125, .getfield 119, 3), (128, .bipush 40, 2), (130, .if_icmp .ne 18, 3), (133, .aload_n 0, 1), (134, .iconst 0, 1), (135, .invokevirtual 156, 3), (138, .ifCond .ne 5, 3), (141, .iconst 0, 1), (142, .ireturn, 1), (143, .iconst 1, 1), (144, .istore_n 2, 1), (145, .goto (-131), 3), (148, .iconst 0, 1), (149, .ireturn, 1), (150, .aload_n 0, 1), (151, .getfield 119, 3), (154, .bipush 59, 2), (156, .if_icmp .ne 21, 3), (159, .aload_n 0, 1), (160, .iconst 1, 1), (161, .invokevirtual 149, 3), (164, .aload_n 0, 1), (165, .getfield 132, 3), (168, .ifCond .ne 7, 3), (171, .iconst 1, 1), (172, .goto 4, 3), (175, .iconst 0, 1), (176, .ireturn, 1), (177, .aload_n 0, 1), (178, .getfield 119, 3), (181, .bipush 41, 2), (183, .if_icmp .ne 46, 3), (186, .aload_n 0, 1), (187, .iconst 1, 1), (188, .invokevirtual 149, 3), (191, .aload_n 0, 1), (192, .getfield 132, 3), (195, .ifCond .ne 5, 3), (198, .iconst 0, 1), (199, .ireturn, 1), (200, .aload_n 0, 1), (201, .dup, 1), (202, .getfield 132, 3), (205, .iconst 1, 1), (206, .isub, 1), (207, .putfield 132, 3), (210, .aload_n 0, 1), (211, .dup, 1), (212, .getfield 139, 3), (215, .iconst 1, 1), (216, .isub, 1), (217, .putfield 139, 3), (220, .aload_n 0, 1)]
theorem mX12_eRead_1 : okd cX12_eRead lmX12_eRead_1 = true := by decide +kernel
theorem dX12_eRead_114 : decode cX12_eRead 114 = .ok (.ifCond .ne 5, 3) := okd_at mX12_eRead_1 0 rfl
theorem dX12_eRead_117 : decode cX12_eRead 117 = .ok (.iconst 0, 1) := okd_at mX12_eRead_1 1 rfl
theorem dX12_eRead_118 : decode cX12_eRead 118 = .ok (.ireturn, 1) := okd_at mX12_eRead_1 2 rfl
theorem dX12_eRead_119 : decode cX12_eRead 119 = .ok (.iconst 0, 1) := okd_at mX12_eRead_1 3 rfl
theorem dX12_eRead_120 : decode cX12_eRead 120 = .ok (.istore_n 2, 1) := okd_at mX12_eRead_1 4 rfl
theorem dX12_eRead_121 : decode cX12_eRead 121 = .ok (.goto (-107), 3) := okd_at mX12_eRead_1 5 rfl
theorem dX12_eRead_124 : decode cX12_eRead 124 = .ok (.aload_n 0, 1) := okd_at mX12_eRead_1 6 rfl
theorem dX12_eRead_125 : decode cX12_eRead 125 = .ok (.getfield 119, 3) := okd_at mX12_eRead_1 7 rfl
theorem dX12_eRead_128 : decode cX12_eRead 128 = .ok (.bipush 40, 2) := okd_at mX12_eRead_1 8 rfl
theorem dX12_eRead_130 : decode cX12_eRead 130 = .ok (.if_icmp .ne 18, 3) := okd_at mX12_eRead_1 9 rfl
theorem dX12_eRead_133 : decode cX12_eRead 133 = .ok (.aload_n 0, 1) := okd_at mX12_eRead_1 10 rfl
theorem dX12_eRead_134 : decode cX12_eRead 134 = .ok (.iconst 0, 1) := okd_at mX12_eRead_1 11 rfl
theorem dX12_eRead_135 : decode cX12_eRead 135 = .ok (.invokevirtual 156, 3) := okd_at mX12_eRead_1 12 rfl
theorem dX12_eRead_138 : decode cX12_eRead 138 = .ok (.ifCond .ne 5, 3) := okd_at mX12_eRead_1 13 rfl
theorem dX12_eRead_141 : decode cX12_eRead 141 = .ok (.iconst 0, 1) := okd_at mX12_eRead_1 14 rfl
theorem dX12_eRead_142 : decode cX12_eRead 142 = .ok (.ireturn, 1) := okd_at mX12_eRead_1 15 rfl
theorem dX12_eRead_143 : decode cX12_eRead 143 = .ok (.iconst 1, 1) := okd_at mX12_eRead_1 16 rfl
theorem dX12_eRead_144 : decode cX12_eRead 144 = .ok (.istore_n 2, 1) := okd_at mX12_eRead_1 17 rfl
theorem dX12_eRead_145 : decode cX12_eRead 145 = .ok (.goto (-131), 3) := okd_at mX12_eRead_1 18 rfl
theorem dX12_eRead_148 : decode cX12_eRead 148 = .ok (.iconst 0, 1) := okd_at mX12_eRead_1 19 rfl
theorem dX12_eRead_149 : decode cX12_eRead 149 = .ok (.ireturn, 1) := okd_at mX12_eRead_1 20 rfl
theorem dX12_eRead_150 : decode cX12_eRead 150 = .ok (.aload_n 0, 1) := okd_at mX12_eRead_1 21 rfl
theorem dX12_eRead_151 : decode cX12_eRead 151 = .ok (.getfield 119, 3) := okd_at mX12_eRead_1 22 rfl
theorem dX12_eRead_154 : decode cX12_eRead 154 = .ok (.bipush 59, 2) := okd_at mX12_eRead_1 23 rfl
theorem dX12_eRead_156 : decode cX12_eRead 156 = .ok (.if_icmp .ne 21, 3) := okd_at mX12_eRead_1 24 rfl
theorem dX12_eRead_159 : decode cX12_eRead 159 = .ok (.aload_n 0, 1) := okd_at mX12_eRead_1 25 rfl
theorem dX12_eRead_160 : decode cX12_eRead 160 = .ok (.iconst 1, 1) := okd_at mX12_eRead_1 26 rfl
theorem dX12_eRead_161 : decode cX12_eRead 161 = .ok (.invokevirtual 149, 3) := okd_at mX12_eRead_1 27 rfl
theorem dX12_eRead_164 : decode cX12_eRead 164 = .ok (.aload_n 0, 1) := okd_at mX12_eRead_1 28 rfl
theorem dX12_eRead_165 : decode cX12_eRead 165 = .ok (.getfield 132, 3) := okd_at mX12_eRead_1 29 rfl
theorem dX12_eRead_168 : decode cX12_eRead 168 = .ok (.ifCond .ne 7, 3) := okd_at mX12_eRead_1 30 rfl
theorem dX12_eRead_171 : decode cX12_eRead 171 = .ok (.iconst 1, 1) := okd_at mX12_eRead_1 31 rfl
theorem dX12_eRead_172 : decode cX12_eRead 172 = .ok (.goto 4, 3) := okd_at mX12_eRead_1 32 rfl
theorem dX12_eRead_175 : decode cX12_eRead 175 = .ok (.iconst 0, 1) := okd_at mX12_eRead_1 33 rfl
theorem dX12_eRead_176 : decode cX12_eRead 176 = .ok (.ireturn, 1) := okd_at mX12_eRead_1 34 rfl
theorem dX12_eRead_177 : decode cX12_eRead 177 = .ok (.aload_n 0, 1) := okd_at mX12_eRead_1 35 rfl
theorem dX12_eRead_178 : decode cX12_eRead 178 = .ok (.getfield 119, 3) := okd_at mX12_eRead_1 36 rfl
theorem dX12_eRead_181 : decode cX12_eRead 181 = .ok (.bipush 41, 2) := okd_at mX12_eRead_1 37 rfl
theorem dX12_eRead_183 : decode cX12_eRead 183 = .ok (.if_icmp .ne 46, 3) := okd_at mX12_eRead_1 38 rfl
theorem dX12_eRead_186 : decode cX12_eRead 186 = .ok (.aload_n 0, 1) := okd_at mX12_eRead_1 39 rfl
theorem dX12_eRead_187 : decode cX12_eRead 187 = .ok (.iconst 1, 1) := okd_at mX12_eRead_1 40 rfl
theorem dX12_eRead_188 : decode cX12_eRead 188 = .ok (.invokevirtual 149, 3) := okd_at mX12_eRead_1 41 rfl
theorem dX12_eRead_191 : decode cX12_eRead 191 = .ok (.aload_n 0, 1) := okd_at mX12_eRead_1 42 rfl
theorem dX12_eRead_192 : decode cX12_eRead 192 = .ok (.getfield 132, 3) := okd_at mX12_eRead_1 43 rfl
theorem dX12_eRead_195 : decode cX12_eRead 195 = .ok (.ifCond .ne 5, 3) := okd_at mX12_eRead_1 44 rfl
theorem dX12_eRead_198 : decode cX12_eRead 198 = .ok (.iconst 0, 1) := okd_at mX12_eRead_1 45 rfl
theorem dX12_eRead_199 : decode cX12_eRead 199 = .ok (.ireturn, 1) := okd_at mX12_eRead_1 46 rfl
theorem dX12_eRead_200 : decode cX12_eRead 200 = .ok (.aload_n 0, 1) := okd_at mX12_eRead_1 47 rfl
theorem dX12_eRead_201 : decode cX12_eRead 201 = .ok (.dup, 1) := okd_at mX12_eRead_1 48 rfl
theorem dX12_eRead_202 : decode cX12_eRead 202 = .ok (.getfield 132, 3) := okd_at mX12_eRead_1 49 rfl
theorem dX12_eRead_205 : decode cX12_eRead 205 = .ok (.iconst 1, 1) := okd_at mX12_eRead_1 50 rfl
theorem dX12_eRead_206 : decode cX12_eRead 206 = .ok (.isub, 1) := okd_at mX12_eRead_1 51 rfl
theorem dX12_eRead_207 : decode cX12_eRead 207 = .ok (.putfield 132, 3) := okd_at mX12_eRead_1 52 rfl
theorem dX12_eRead_210 : decode cX12_eRead 210 = .ok (.aload_n 0, 1) := okd_at mX12_eRead_1 53 rfl
theorem dX12_eRead_211 : decode cX12_eRead 211 = .ok (.dup, 1) := okd_at mX12_eRead_1 54 rfl
theorem dX12_eRead_212 : decode cX12_eRead 212 = .ok (.getfield 139, 3) := okd_at mX12_eRead_1 55 rfl
theorem dX12_eRead_215 : decode cX12_eRead 215 = .ok (.iconst 1, 1) := okd_at mX12_eRead_1 56 rfl
theorem dX12_eRead_216 : decode cX12_eRead 216 = .ok (.isub, 1) := okd_at mX12_eRead_1 57 rfl
theorem dX12_eRead_217 : decode cX12_eRead 217 = .ok (.putfield 139, 3) := okd_at mX12_eRead_1 58 rfl
theorem dX12_eRead_220 : decode cX12_eRead 220 = .ok (.aload_n 0, 1) := okd_at mX12_eRead_1 59 rfl
def lmX12_eRead_2 : List (Nat × Instr × Nat) := [(221, .bipush 7, 2), (223, .invokevirtual 149, 3), (226, .goto (-212), 3), (229, .aload_n 0, 1), (230, .invokevirtual 159, 3), (233, .istore_n 3, 1), (234, .iload_n 3, 1), (235, .iconst (-1), 1), (236, .if_icmp .eq 11, 3), (239, .aload_n 0, 1), (240, .iload_n 3, 1), (241, .invokevirtual 162, 3), (244, .ifCond .ne 5, 3), (247, .iconst 0, 1), (248, .ireturn, 1), (249, .iconst 1, 1), (250, .istore_n 1, 1), (251, .iload_n 3, 1), (252, .bipush 12, 2), (254, .if_icmp .gt 7, 3), (257, .iconst 1, 1), (258, .goto 4, 3), (261, .iconst 0, 1), (262, .istore_n 2, 1), (263, .goto (-249), 3)]
theorem mX12_eRead_2 : okd cX12_eRead lmX12_eRead_2 = true := by decide +kernel
theorem dX12_eRead_221 : decode cX12_eRead 221 = .ok (.bipush 7, 2) := okd_at mX12_eRead_2 0 rfl
theorem dX12_eRead_223 : decode cX12_eRead 223 = .ok (.invokevirtual 149, 3) := okd_at mX12_eRead_2 1 rfl
theorem dX12_eRead_226 : decode cX12_eRead 226 = .ok (.goto (-212), 3) := okd_at mX12_eRead_2 2 rfl
theorem dX12_eRead_229 : decode cX12_eRead 229 = .ok (.aload_n 0, 1) := okd_at mX12_eRead_2 3 rfl
theorem dX12_eRead_230 : decode cX12_eRead 230 = .ok (.invokevirtual 159, 3) := okd_at mX12_eRead_2 4 rfl
theorem dX12_eRead_233 : decode cX12_eRead 233 = .ok (.istore_n 3, 1) := okd_at mX12_eRead_2 5 rfl
theorem dX12_eRead_234 : decode cX12_eRead 234 = .ok (.iload_n 3, 1) := okd_at mX12_eRead_2 6 rfl
theorem dX12_eRead_235 : decode cX12_eRead 235 = .ok (.iconst (-1), 1) := okd_at mX12_eRead_2 7 rfl
theorem dX12_eRead_236 : decode cX12_eRead 236 = .ok (.if_icmp .eq 11, 3) := okd_at mX12_eRead_2 8 rfl
theorem dX12_eRead_239 : decode cX12_eRead 239 = .ok (.aload_n 0, 1) := okd_at mX12_eRead_2 9 rfl
theorem dX12_eRead_240 : decode cX12_eRead 240 = .ok (.iload_n 3, 1) := okd_at mX12_eRead_2 10 rfl
theorem dX12_eRead_241 : decode cX12_eRead 241 = .ok (.invokevirtual 162, 3) := okd_at mX12_eRead_2 11 rfl
theorem dX12_eRead_244 : decode cX12_eRead 244 = .ok (.ifCond .ne 5, 3) := okd_at mX12_eRead_2 12 rfl
theorem dX12_eRead_247 : decode cX12_eRead 247 = .ok (.iconst 0, 1) := okd_at mX12_eRead_2 13 rfl
theorem dX12_eRead_248 : decode cX12_eRead 248 = .ok (.ireturn, 1) := okd_at mX12_eRead_2 14 rfl
theorem dX12_eRead_249 : decode cX12_eRead 249 = .ok (.iconst 1, 1) := okd_at mX12_eRead_2 15 rfl
theorem dX12_eRead_250 : decode cX12_eRead 250 = .ok (.istore_n 1, 1) := okd_at mX12_eRead_2 16 rfl
theorem dX12_eRead_251 : decode cX12_eRead 251 = .ok (.iload_n 3, 1) := okd_at mX12_eRead_2 17 rfl
theorem dX12_eRead_252 : decode cX12_eRead 252 = .ok (.bipush 12, 2) := okd_at mX12_eRead_2 18 rfl
theorem dX12_eRead_254 : decode cX12_eRead 254 = .ok (.if_icmp .gt 7, 3) := okd_at mX12_eRead_2 19 rfl
theorem dX12_eRead_257 : decode cX12_eRead 257 = .ok (.iconst 1, 1) := okd_at mX12_eRead_2 20 rfl
theorem dX12_eRead_258 : decode cX12_eRead 258 = .ok (.goto 4, 3) := okd_at mX12_eRead_2 21 rfl
theorem dX12_eRead_261 : decode cX12_eRead 261 = .ok (.iconst 0, 1) := okd_at mX12_eRead_2 22 rfl
theorem dX12_eRead_262 : decode cX12_eRead 262 = .ok (.istore_n 2, 1) := okd_at mX12_eRead_2 23 rfl
theorem dX12_eRead_263 : decode cX12_eRead 263 = .ok (.goto (-249), 3) := okd_at mX12_eRead_2 24 rfl
def lmX12_enter_0 : List (Nat × Instr × Nat) := [(0, .aload_n 0, 1), (1, .iload_n 1, 1), (2, .invokevirtual 182, 3), (5, .ifCond .ne 6, 3), (8, .bipush (-6), 2), (10, .ireturn, 1), (11, .iload_n 2, 1), (12, .ifCond .ne 11, 3), (15, .aload_n 0, 1), (16, .iload_n 3, 1), (17, .invokevirtual 189, 3), (20, .goto 22, 3), (23, .iload_n 2, 1), (24, .iconst 1, 1), (25, .if_icmp .ne 16, 3), (28, .iload_n 3, 1), (29, .iconst 0, 1), (30, .iconst 3, 1), (31, .invokestatic 93, 3), (34, .ifCond .eq 7, 3), (37, .iconst 1, 1), (38, .goto 4, 3), (41, .iconst 0, 1), (42, .istore 4, 2), (44, .iload 4, 2), (46, .ifCond .ne 6, 3), (49, .bipush (-7), 2), (51, .ireturn, 1), (52, .aload_n 0, 1), (53, .getfield 19, 3), (56, .iconst 2, 1), (57, .iload_n 1, 1), (58, .imul, 1), (59, .iload_n 2, 1), (60, .iadd, 1), (61, .iaload, 1), (62, .istore 5, 2), (64, .aload_n 0, 1), (65, .getfield 19, 3), (68, .iconst 2, 1), (69, .iload_n 1, 1), (70, .imul, 1), (71, .iload_n 2, 1), (72, .iadd, 1), (73, .iload_n 3, 1), (74, .iastore, 1), (75, .iload 5, 2), (77, .ireturn, 1)]
theorem mX12_enter_0 : okd cX12_enter lmX12_enter_0 = true := by decide +kernel
theorem dX12_enter_0 : decode cX12_enter 0 = .ok (.aload_n 0, 1) := okd_at mX12_enter_0 0 rfl
theorem dX12_enter_1 : decode cX12_enter 1 = .ok (.iload_n 1, 1) := okd_at mX12_enter_0 1 rfl
theorem dX12_enter_2 : decode cX12_enter 2 = .ok (.invokevirtual 182, 3) := okd_at mX12_enter_0 2 rfl
theorem dX12_enter_5 : decode cX12_enter 5 = .ok (.ifCond .ne 6, 3) := okd_at mX12_enter_0 3 rfl
theorem dX12_enter_8 : decode cX12_enter 8 = .ok (.bipush (-6), 2) := okd_at mX12_enter_0 4 rfl
theorem dX12_enter_10 : decode cX12_enter 10 = .ok (.ireturn, 1) := okd_at mX12_enter_0 5 rfl
theorem dX12_enter_11 : decode cX12_enter 11 = .ok (.iload_n 2, 1) := okd_at mX12_enter_0 6 rfl
theorem dX12_enter_12 : decode cX12_enter 12 = .ok (.ifCond .ne 11, 3) := okd_at mX12_enter_0 7 rfl
theorem dX12_enter_15 : decode cX12_enter 15 = .ok (.aload_n 0, 1) := okd_at mX12_enter_0 8 rfl
theorem dX12_enter_16 : decode cX12_enter 16 = .ok (.iload_n 3, 1) := okd_at mX12_enter_0 9 rfl
theorem dX12_enter_17 : decode cX12_enter 17 = .ok (.invokevirtual 189, 3) := okd_at mX12_enter_0 10 rfl
theorem dX12_enter_20 : decode cX12_enter 20 = .ok (.goto 22, 3) := okd_at mX12_enter_0 11 rfl
theorem dX12_enter_23 : decode cX12_enter 23 = .ok (.iload_n 2, 1) := okd_at mX12_enter_0 12 rfl
theorem dX12_enter_24 : decode cX12_enter 24 = .ok (.iconst 1, 1) := okd_at mX12_enter_0 13 rfl
theorem dX12_enter_25 : decode cX12_enter 25 = .ok (.if_icmp .ne 16, 3) := okd_at mX12_enter_0 14 rfl
theorem dX12_enter_28 : decode cX12_enter 28 = .ok (.iload_n 3, 1) := okd_at mX12_enter_0 15 rfl
theorem dX12_enter_29 : decode cX12_enter 29 = .ok (.iconst 0, 1) := okd_at mX12_enter_0 16 rfl
theorem dX12_enter_30 : decode cX12_enter 30 = .ok (.iconst 3, 1) := okd_at mX12_enter_0 17 rfl
theorem dX12_enter_31 : decode cX12_enter 31 = .ok (.invokestatic 93, 3) := okd_at mX12_enter_0 18 rfl
theorem dX12_enter_34 : decode cX12_enter 34 = .ok (.ifCond .eq 7, 3) := okd_at mX12_enter_0 19 rfl
theorem dX12_enter_37 : decode cX12_enter 37 = .ok (.iconst 1, 1) := okd_at mX12_enter_0 20 rfl
theorem dX12_enter_38 : decode cX12_enter 38 = .ok (.goto 4, 3) := okd_at mX12_enter_0 21 rfl
theorem dX12_enter_41 : decode cX12_enter 41 = .ok (.iconst 0, 1) := okd_at mX12_enter_0 22 rfl
theorem dX12_enter_42 : decode cX12_enter 42 = .ok (.istore 4, 2) := okd_at mX12_enter_0 23 rfl
theorem dX12_enter_44 : decode cX12_enter 44 = .ok (.iload 4, 2) := okd_at mX12_enter_0 24 rfl
theorem dX12_enter_46 : decode cX12_enter 46 = .ok (.ifCond .ne 6, 3) := okd_at mX12_enter_0 25 rfl
theorem dX12_enter_49 : decode cX12_enter 49 = .ok (.bipush (-7), 2) := okd_at mX12_enter_0 26 rfl
theorem dX12_enter_51 : decode cX12_enter 51 = .ok (.ireturn, 1) := okd_at mX12_enter_0 27 rfl
theorem dX12_enter_52 : decode cX12_enter 52 = .ok (.aload_n 0, 1) := okd_at mX12_enter_0 28 rfl
theorem dX12_enter_53 : decode cX12_enter 53 = .ok (.getfield 19, 3) := okd_at mX12_enter_0 29 rfl
theorem dX12_enter_56 : decode cX12_enter 56 = .ok (.iconst 2, 1) := okd_at mX12_enter_0 30 rfl
theorem dX12_enter_57 : decode cX12_enter 57 = .ok (.iload_n 1, 1) := okd_at mX12_enter_0 31 rfl
theorem dX12_enter_58 : decode cX12_enter 58 = .ok (.imul, 1) := okd_at mX12_enter_0 32 rfl
theorem dX12_enter_59 : decode cX12_enter 59 = .ok (.iload_n 2, 1) := okd_at mX12_enter_0 33 rfl
theorem dX12_enter_60 : decode cX12_enter 60 = .ok (.iadd, 1) := okd_at mX12_enter_0 34 rfl
theorem dX12_enter_61 : decode cX12_enter 61 = .ok (.iaload, 1) := okd_at mX12_enter_0 35 rfl
theorem dX12_enter_62 : decode cX12_enter 62 = .ok (.istore 5, 2) := okd_at mX12_enter_0 36 rfl
theorem dX12_enter_64 : decode cX12_enter 64 = .ok (.aload_n 0, 1) := okd_at mX12_enter_0 37 rfl
theorem dX12_enter_65 : decode cX12_enter 65 = .ok (.getfield 19, 3) := okd_at mX12_enter_0 38 rfl
theorem dX12_enter_68 : decode cX12_enter 68 = .ok (.iconst 2, 1) := okd_at mX12_enter_0 39 rfl
theorem dX12_enter_69 : decode cX12_enter 69 = .ok (.iload_n 1, 1) := okd_at mX12_enter_0 40 rfl
theorem dX12_enter_70 : decode cX12_enter 70 = .ok (.imul, 1) := okd_at mX12_enter_0 41 rfl
theorem dX12_enter_71 : decode cX12_enter 71 = .ok (.iload_n 2, 1) := okd_at mX12_enter_0 42 rfl
theorem dX12_enter_72 : decode cX12_enter 72 = .ok (.iadd, 1) := okd_at mX12_enter_0 43 rfl
theorem dX12_enter_73 : decode cX12_enter 73 = .ok (.iload_n 3, 1) := okd_at mX12_enter_0 44 rfl
theorem dX12_enter_74 : decode cX12_enter 74 = .ok (.iastore, 1) := okd_at mX12_enter_0 45 rfl
theorem dX12_enter_75 : decode cX12_enter 75 = .ok (.iload 5, 2) := okd_at mX12_enter_0 46 rfl
theorem dX12_enter_77 : decode cX12_enter 77 = .ok (.ireturn, 1) := okd_at mX12_enter_0 47 rfl
def lmX12_feed_0 : List (Nat × Instr × Nat) := [(0, .iload_n 1, 1), (1, .iconst 1, 1), (2, .iconst 5, 1), (3, .invokestatic 93, 3), (6, .ifCond .eq 41, 3), (9, .iload_n 2, 1), (10, .invokestatic 110, 3), (13, .ifCond .eq 34, 3), (16, .iload_n 3, 1), (17, .invokestatic 110, 3), (20, .ifCond .eq 27, 3), (23, .iload 4, 2), (25, .invokestatic 110, 3), (28, .ifCond .eq 19, 3), (31, .iload 5, 2), (33, .invokestatic 110, 3), (36, .ifCond .eq 11, 3), (39, .iload 6, 2), (41, .invokestatic 110, 3), (44, .ifCond .ne 6, 3), (47, .bipush (-2), 2), (49, .ireturn, 1), (50, .aload_n 0, 1), (51, .getfield 83, 3), (54, .iload_n 1, 1), (55, .iadd, 1), (56, .sipush 160, 3), (59, .if_icmp .le 6, 3), (62, .bipush (-4), 2), (64, .ireturn, 1), (65, .iconst 0, 1), (66, .istore 7, 2), (68, .iload 7, 2), (70, .iload_n 1, 1), (71, .if_icmp .ge 71, 3), (74, .aload_n 0, 1), (75, .getfield 22, 3), (78, .aload_n 0, 1), (79, .getfield 83, 3), (82, .iload 7, 2), (84, .ifCond .ne 7, 3), (87, .iload_n 2, 1), (88, .goto 37, 3), (91, .iload 7, 2), (93, .iconst 1, 1), (94, .if_icmp .ne 7, 3), (97, .iload_n 3, 1), (98, .goto 27, 3), (101, .iload 7, 2), (103, .iconst 2, 1), (104, .if_icmp .ne 8, 3), (107, .iload 4, 2), (109, .goto 16, 3), (112, .iload 7, 2), (114, .iconst 3, 1), (115, .if_icmp .ne 8, 3), (118, .iload 5, 2), (120, .goto 5, 3), (123, .iload 6, 2), (125, .iastore, 1)]
theorem mX12_feed_0 : okd cX12_feed lmX12_feed_0 = true := by decide +kernel
theorem dX12_feed_0 : decode cX12_feed 0 = .ok (.iload_n 1, 1) := okd_at mX12_feed_0 0 rfl
theorem dX12_feed_1 : decode cX12_feed 1 = .ok (.iconst 1, 1) := okd_at mX12_feed_0 1 rfl
theorem dX12_feed_2 : decode cX12_feed 2 = .ok (.iconst 5, 1) := okd_at mX12_feed_0 2 rfl
theorem dX12_feed_3 : decode cX12_feed 3 = .ok (.invokestatic 93, 3) := okd_at mX12_feed_0 3 rfl
theorem dX12_feed_6 : decode cX12_feed 6 = .ok (.ifCond .eq 41, 3) := okd_at mX12_feed_0 4 rfl
theorem dX12_feed_9 : decode cX12_feed 9 = .ok (.iload_n 2, 1) := okd_at mX12_feed_0 5 rfl
theorem dX12_feed_10 : decode cX12_feed 10 = .ok (.invokestatic 110, 3) := okd_at mX12_feed_0 6 rfl
theorem dX12_feed_13 : decode cX12_feed 13 = .ok (.ifCond .eq 34, 3) := okd_at mX12_feed_0 7 rfl
theorem dX12_feed_16 : decode cX12_feed 16 = .ok (.iload_n 3, 1) := okd_at mX12_feed_0 8 rfl
theorem dX12_feed_17 : decode cX12_feed 17 = .ok (.invokestatic 110, 3) := okd_at mX12_feed_0 9 rfl
theorem dX12_feed_20 : decode cX12_feed 20 = .ok (.ifCond .eq 27, 3) := okd_at mX12_feed_0 10 rfl
theorem dX12_feed_23 : decode cX12_feed 23 = .ok (.iload 4, 2) := okd_at mX12_feed_0 11 rfl
theorem dX12_feed_25 : decode cX12_feed 25 = .ok (.invokestatic 110, 3) := okd_at mX12_feed_0 12 rfl
theorem dX12_feed_28 : decode cX12_feed 28 = .ok (.ifCond .eq 19, 3) := okd_at mX12_feed_0 13 rfl
theorem dX12_feed_31 : decode cX12_feed 31 = .ok (.iload 5, 2) := okd_at mX12_feed_0 14 rfl
theorem dX12_feed_33 : decode cX12_feed 33 = .ok (.invokestatic 110, 3) := okd_at mX12_feed_0 15 rfl
theorem dX12_feed_36 : decode cX12_feed 36 = .ok (.ifCond .eq 11, 3) := okd_at mX12_feed_0 16 rfl
theorem dX12_feed_39 : decode cX12_feed 39 = .ok (.iload 6, 2) := okd_at mX12_feed_0 17 rfl
theorem dX12_feed_41 : decode cX12_feed 41 = .ok (.invokestatic 110, 3) := okd_at mX12_feed_0 18 rfl
theorem dX12_feed_44 : decode cX12_feed 44 = .ok (.ifCond .ne 6, 3) := okd_at mX12_feed_0 19 rfl
theorem dX12_feed_47 : decode cX12_feed 47 = .ok (.bipush (-2), 2) := okd_at mX12_feed_0 20 rfl
theorem dX12_feed_49 : decode cX12_feed 49 = .ok (.ireturn, 1) := okd_at mX12_feed_0 21 rfl
theorem dX12_feed_50 : decode cX12_feed 50 = .ok (.aload_n 0, 1) := okd_at mX12_feed_0 22 rfl
theorem dX12_feed_51 : decode cX12_feed 51 = .ok (.getfield 83, 3) := okd_at mX12_feed_0 23 rfl
theorem dX12_feed_54 : decode cX12_feed 54 = .ok (.iload_n 1, 1) := okd_at mX12_feed_0 24 rfl
theorem dX12_feed_55 : decode cX12_feed 55 = .ok (.iadd, 1) := okd_at mX12_feed_0 25 rfl
theorem dX12_feed_56 : decode cX12_feed 56 = .ok (.sipush 160, 3) := okd_at mX12_feed_0 26 rfl
theorem dX12_feed_59 : decode cX12_feed 59 = .ok (.if_icmp .le 6, 3) := okd_at mX12_feed_0 27 rfl
theorem dX12_feed_62 : decode cX12_feed 62 = .ok (.bipush (-4), 2) := okd_at mX12_feed_0 28 rfl
theorem dX12_feed_64 : decode cX12_feed 64 = .ok (.ireturn, 1) := okd_at mX12_feed_0 29 rfl
theorem dX12_feed_65 : decode cX12_feed 65 = .ok (.iconst 0, 1) := okd_at mX12_feed_0 30 rfl
theorem dX12_feed_66 : decode cX12_feed 66 = .ok (.istore 7, 2) := okd_at mX12_feed_0 31 rfl
theorem dX12_feed_68 : decode cX12_feed 68 = .ok (.iload 7, 2) := okd_at mX12_feed_0 32 rfl
theorem dX12_feed_70 : decode cX12_feed 70 = .ok (.iload_n 1, 1) := okd_at mX12_feed_0 33 rfl
theorem dX12_feed_71 : decode cX12_feed 71 = .ok (.if_icmp .ge 71, 3) := okd_at mX12_feed_0 34 rfl
theorem dX12_feed_74 : decode cX12_feed 74 = .ok (.aload_n 0, 1) := okd_at mX12_feed_0 35 rfl
theorem dX12_feed_75 : decode cX12_feed 75 = .ok (.getfield 22, 3) := okd_at mX12_feed_0 36 rfl
theorem dX12_feed_78 : decode cX12_feed 78 = .ok (.aload_n 0, 1) := okd_at mX12_feed_0 37 rfl
theorem dX12_feed_79 : decode cX12_feed 79 = .ok (.getfield 83, 3) := okd_at mX12_feed_0 38 rfl
theorem dX12_feed_82 : decode cX12_feed 82 = .ok (.iload 7, 2) := okd_at mX12_feed_0 39 rfl
theorem dX12_feed_84 : decode cX12_feed 84 = .ok (.ifCond .ne 7, 3) := okd_at mX12_feed_0 40 rfl
theorem dX12_feed_87 : decode cX12_feed 87 = .ok (.iload_n 2, 1) := okd_at mX12_feed_0 41 rfl
theorem dX12_feed_88 : decode cX12_feed 88 = .ok (.goto 37, 3) := okd_at mX12_feed_0 42 rfl
theorem dX12_feed_91 : decode cX12_feed 91 = .ok (.iload 7, 2) := okd_at mX12_feed_0 43 rfl
theorem dX12_feed_93 : decode cX12_feed 93 = .ok (.iconst 1, 1) := okd_at mX12_feed_0 44 rfl
theorem dX12_feed_94 : decode cX12_feed 94 = .ok (.if_icmp .ne 7, 3) := okd_at mX12_feed_0 45 rfl
theorem dX12_feed_97 : decode cX12_feed 97 = .ok (.iload_n 3, 1) := okd_at mX12_feed_0 46 rfl
theorem dX12_feed_98 : decode cX12_feed 98 = .ok (.goto 27, 3) := okd_at mX12_feed_0 47 rfl
theorem dX12_feed_101 : decode cX12_feed 101 = .ok (.iload 7, 2) := okd_at mX12_feed_0 48 rfl
theorem dX12_feed_103 : decode cX12_feed 103 = .ok (.iconst 2, 1) := okd_at mX12_feed_0 49 rfl
theorem dX12_feed_104 : decode cX12_feed 104 = .ok (.if_icmp .ne 8, 3) := okd_at mX12_feed_0 50 rfl
theorem dX12_feed_107 : decode cX12_feed 107 = .ok (.iload 4, 2) := okd_at mX12_feed_0 51 rfl
theorem dX12_feed_109 : decode cX12_feed 109 = .ok (.goto 16, 3) := okd_at mX12_feed_0 52 rfl
theorem dX12_feed_112 : decode cX12_feed 112 = .ok (.iload 7, 2) := okd_at mX12_feed_0 53 rfl
theorem dX12_feed_114 : decode cX12_feed 114 = .ok (.iconst 3, 1) := okd_at mX12_feed_0 54 rfl
theorem dX12_feed_115 : decode cX12_feed 115 = .ok (.if_icmp .ne 8, 3) := okd_at mX12_feed_0 55 rfl
theorem dX12_feed_118 : decode cX12_feed 118 = .ok (.iload 5, 2) := okd_at mX12_feed_0 56 rfl
theorem dX12_feed_120 : decode cX12_feed 120 = .ok (.goto 5, 3) := okd_at mX12_feed_0 57 rfl
theorem dX12_feed_123 : decode cX12_feed 123 = .ok (.iload 6, 2) := okd_at mX12_feed_0 58 rfl
theorem dX12_feed_125 : decode cX12_feed 125 = .ok (.iastore, 1) := okd_at mX12_feed_0 59 rfl
def lmX12_feed_1 : List (Nat × Instr × Nat) := [(126, .aload_n 0, 1), (127, .dup, 1), (128, .getfield 83, 3), (131, .iconst 1, 1), (132, .iadd, 1), (133, .putfield 83, 3), (136, .iinc 7 1, 3), (139, .goto (-71), 3), (142, .aload_n 0, 1), (143, .getfield 83, 3), (146, .ireturn, 1)]
theorem mX12_feed_1 : okd cX12_feed lmX12_feed_1 = true := by decide +kernel
theorem dX12_feed_126 : decode cX12_feed 126 = .ok (.aload_n 0, 1) := okd_at mX12_feed_1 0 rfl
theorem dX12_feed_127 : decode cX12_feed 127 = .ok (.dup, 1) := okd_at mX12_feed_1 1 rfl
theorem dX12_feed_128 : decode cX12_feed 128 = .ok (.getfield 83, 3) := okd_at mX12_feed_1 2 rfl
theorem dX12_feed_131 : decode cX12_feed 131 = .ok (.iconst 1, 1) := okd_at mX12_feed_1 3 rfl
theorem dX12_feed_132 : decode cX12_feed 132 = .ok (.iadd, 1) := okd_at mX12_feed_1 4 rfl
theorem dX12_feed_133 : decode cX12_feed 133 = .ok (.putfield 83, 3) := okd_at mX12_feed_1 5 rfl
theorem dX12_feed_136 : decode cX12_feed 136 = .ok (.iinc 7 1, 3) := okd_at mX12_feed_1 6 rfl
theorem dX12_feed_139 : decode cX12_feed 139 = .ok (.goto (-71), 3) := okd_at mX12_feed_1 7 rfl
theorem dX12_feed_142 : decode cX12_feed 142 = .ok (.aload_n 0, 1) := okd_at mX12_feed_1 8 rfl
theorem dX12_feed_143 : decode cX12_feed 143 = .ok (.getfield 83, 3) := okd_at mX12_feed_1 9 rfl
theorem dX12_feed_146 : decode cX12_feed 146 = .ok (.ireturn, 1) := okd_at mX12_feed_1 10 rfl
def lmX12_film_0 : List (Nat × Instr × Nat) := [(0, .iload_n 1, 1), (1, .iconst 0, 1), (2, .iconst 3, 1), (3, .invokestatic 93, 3), (6, .ifCond .ne 6, 3), (9, .bipush (-2), 2), (11, .ireturn, 1), (12, .aload_n 0, 1), (13, .invokevirtual 219, 3), (16, .aload_n 0, 1), (17, .getfield 37, 3), (20, .iload_n 1, 1), (21, .iconst 1, 1), (22, .iastore, 1), (23, .aload_n 0, 1), (24, .getfield 40, 3), (27, .iload_n 1, 1), (28, .aload_n 0, 1), (29, .getfield 97, 3), (32, .iastore, 1), (33, .iconst 0, 1), (34, .istore_n 2, 1), (35, .iload_n 2, 1), (36, .bipush 40, 2), (38, .if_icmp .ge 43, 3), (41, .aload_n 0, 1), (42, .getfield 43, 3), (45, .bipush 40, 2), (47, .iload_n 1, 1), (48, .imul, 1), (49, .iload_n 2, 1), (50, .iadd, 1), (51, .iload_n 2, 1), (52, .aload_n 0, 1), (53, .getfield 97, 3), (56, .if_icmp .ge 17, 3), (59, .aload_n 0, 1), (60, .getfield 70, 3), (63, .iload_n 2, 1), (64, .iconst 0, 1), (65, .iconst 5, 1), (66, .invokestatic 173, 3), (69, .iaload, 1), (70, .goto 4, 3), (73, .iconst 0, 1), (74, .iastore, 1), (75, .iinc 2 1, 3), (78, .goto (-43), 3), (81, .aload_n 0, 1), (82, .getfield 210, 3), (85, .ireturn, 1)]
theorem mX12_film_0 : okd cX12_film lmX12_film_0 = true := by decide +kernel
theorem dX12_film_0 : decode cX12_film 0 = .ok (.iload_n 1, 1) := okd_at mX12_film_0 0 rfl
theorem dX12_film_1 : decode cX12_film 1 = .ok (.iconst 0, 1) := okd_at mX12_film_0 1 rfl
theorem dX12_film_2 : decode cX12_film 2 = .ok (.iconst 3, 1) := okd_at mX12_film_0 2 rfl
theorem dX12_film_3 : decode cX12_film 3 = .ok (.invokestatic 93, 3) := okd_at mX12_film_0 3 rfl
theorem dX12_film_6 : decode cX12_film 6 = .ok (.ifCond .ne 6, 3) := okd_at mX12_film_0 4 rfl
theorem dX12_film_9 : decode cX12_film 9 = .ok (.bipush (-2), 2) := okd_at mX12_film_0 5 rfl
theorem dX12_film_11 : decode cX12_film 11 = .ok (.ireturn, 1) := okd_at mX12_film_0 6 rfl
theorem dX12_film_12 : decode cX12_film 12 = .ok (.aload_n 0, 1) := okd_at mX12_film_0 7 rfl
theorem dX12_film_13 : decode cX12_film 13 = .ok (.invokevirtual 219, 3) := okd_at mX12_film_0 8 rfl
theorem dX12_film_16 : decode cX12_film 16 = .ok (.aload_n 0, 1) := okd_at mX12_film_0 9 rfl
theorem dX12_film_17 : decode cX12_film 17 = .ok (.getfield 37, 3) := okd_at mX12_film_0 10 rfl
theorem dX12_film_20 : decode cX12_film 20 = .ok (.iload_n 1, 1) := okd_at mX12_film_0 11 rfl
theorem dX12_film_21 : decode cX12_film 21 = .ok (.iconst 1, 1) := okd_at mX12_film_0 12 rfl
theorem dX12_film_22 : decode cX12_film 22 = .ok (.iastore, 1) := okd_at mX12_film_0 13 rfl
theorem dX12_film_23 : decode cX12_film 23 = .ok (.aload_n 0, 1) := okd_at mX12_film_0 14 rfl
theorem dX12_film_24 : decode cX12_film 24 = .ok (.getfield 40, 3) := okd_at mX12_film_0 15 rfl
theorem dX12_film_27 : decode cX12_film 27 = .ok (.iload_n 1, 1) := okd_at mX12_film_0 16 rfl
theorem dX12_film_28 : decode cX12_film 28 = .ok (.aload_n 0, 1) := okd_at mX12_film_0 17 rfl
theorem dX12_film_29 : decode cX12_film 29 = .ok (.getfield 97, 3) := okd_at mX12_film_0 18 rfl
theorem dX12_film_32 : decode cX12_film 32 = .ok (.iastore, 1) := okd_at mX12_film_0 19 rfl
theorem dX12_film_33 : decode cX12_film 33 = .ok (.iconst 0, 1) := okd_at mX12_film_0 20 rfl
theorem dX12_film_34 : decode cX12_film 34 = .ok (.istore_n 2, 1) := okd_at mX12_film_0 21 rfl
theorem dX12_film_35 : decode cX12_film 35 = .ok (.iload_n 2, 1) := okd_at mX12_film_0 22 rfl
theorem dX12_film_36 : decode cX12_film 36 = .ok (.bipush 40, 2) := okd_at mX12_film_0 23 rfl
theorem dX12_film_38 : decode cX12_film 38 = .ok (.if_icmp .ge 43, 3) := okd_at mX12_film_0 24 rfl
theorem dX12_film_41 : decode cX12_film 41 = .ok (.aload_n 0, 1) := okd_at mX12_film_0 25 rfl
theorem dX12_film_42 : decode cX12_film 42 = .ok (.getfield 43, 3) := okd_at mX12_film_0 26 rfl
theorem dX12_film_45 : decode cX12_film 45 = .ok (.bipush 40, 2) := okd_at mX12_film_0 27 rfl
theorem dX12_film_47 : decode cX12_film 47 = .ok (.iload_n 1, 1) := okd_at mX12_film_0 28 rfl
theorem dX12_film_48 : decode cX12_film 48 = .ok (.imul, 1) := okd_at mX12_film_0 29 rfl
theorem dX12_film_49 : decode cX12_film 49 = .ok (.iload_n 2, 1) := okd_at mX12_film_0 30 rfl
theorem dX12_film_50 : decode cX12_film 50 = .ok (.iadd, 1) := okd_at mX12_film_0 31 rfl
theorem dX12_film_51 : decode cX12_film 51 = .ok (.iload_n 2, 1) := okd_at mX12_film_0 32 rfl
theorem dX12_film_52 : decode cX12_film 52 = .ok (.aload_n 0, 1) := okd_at mX12_film_0 33 rfl
theorem dX12_film_53 : decode cX12_film 53 = .ok (.getfield 97, 3) := okd_at mX12_film_0 34 rfl
theorem dX12_film_56 : decode cX12_film 56 = .ok (.if_icmp .ge 17, 3) := okd_at mX12_film_0 35 rfl
theorem dX12_film_59 : decode cX12_film 59 = .ok (.aload_n 0, 1) := okd_at mX12_film_0 36 rfl
theorem dX12_film_60 : decode cX12_film 60 = .ok (.getfield 70, 3) := okd_at mX12_film_0 37 rfl
theorem dX12_film_63 : decode cX12_film 63 = .ok (.iload_n 2, 1) := okd_at mX12_film_0 38 rfl
theorem dX12_film_64 : decode cX12_film 64 = .ok (.iconst 0, 1) := okd_at mX12_film_0 39 rfl
theorem dX12_film_65 : decode cX12_film 65 = .ok (.iconst 5, 1) := okd_at mX12_film_0 40 rfl
theorem dX12_film_66 : decode cX12_film 66 = .ok (.invokestatic 173, 3) := okd_at mX12_film_0 41 rfl
theorem dX12_film_69 : decode cX12_film 69 = .ok (.iaload, 1) := okd_at mX12_film_0 42 rfl
theorem dX12_film_70 : decode cX12_film 70 = .ok (.goto 4, 3) := okd_at mX12_film_0 43 rfl
theorem dX12_film_73 : decode cX12_film 73 = .ok (.iconst 0, 1) := okd_at mX12_film_0 44 rfl
theorem dX12_film_74 : decode cX12_film 74 = .ok (.iastore, 1) := okd_at mX12_film_0 45 rfl
theorem dX12_film_75 : decode cX12_film 75 = .ok (.iinc 2 1, 3) := okd_at mX12_film_0 46 rfl
theorem dX12_film_78 : decode cX12_film 78 = .ok (.goto (-43), 3) := okd_at mX12_film_0 47 rfl
theorem dX12_film_81 : decode cX12_film 81 = .ok (.aload_n 0, 1) := okd_at mX12_film_0 48 rfl
theorem dX12_film_82 : decode cX12_film 82 = .ok (.getfield 210, 3) := okd_at mX12_film_0 49 rfl
theorem dX12_film_85 : decode cX12_film 85 = .ok (.ireturn, 1) := okd_at mX12_film_0 50 rfl
def lmX12_forMany_0 : List (Nat × Instr × Nat) := [(0, .aload_n 0, 1), (1, .getfield 19, 3), (4, .iconst 2, 1), (5, .iload_n 1, 1), (6, .imul, 1), (7, .iaload, 1), (8, .invokestatic 176, 3), (11, .istore_n 2, 1), (12, .aload_n 0, 1), (13, .getfield 19, 3), (16, .iconst 2, 1), (17, .iload_n 1, 1), (18, .imul, 1), (19, .iconst 1, 1), (20, .iadd, 1), (21, .iaload, 1), (22, .istore_n 3, 1), (23, .aload_n 0, 1), (24, .getfield 13, 3), (27, .iload_n 1, 1), (28, .iaload, 1), (29, .tableswitch 52 2 5 #[31, 52, 31, 45], 31), (60, .iload_n 2, 1), (61, .iconst 3, 1), (62, .if_icmp .ge 7, 3), (65, .iconst 1, 1), (66, .goto 4, 3), (69, .iload_n 3, 1), (70, .istore_n 3, 1), (71, .goto 10, 3), (74, .iload_n 2, 1), (75, .iconst 2, 1), (76, .idiv, 1), (77, .istore_n 3, 1), (78, .goto 3, 3), (81, .iload_n 3, 1), (82, .iload_n 2, 1), (83, .if_icmp .le 7, 3), (86, .iload_n 2, 1), (87, .goto 4, 3), (90, .iload_n 3, 1), (91, .ireturn, 1)]
theorem mX12_forMany_0 : okd cX12_forMany lmX12_forMany_0 = true := by decide +kernel
theorem dX12_forMany_0 : decode cX12_forMany 0 = .ok (.aload_n 0, 1) := okd_at mX12_forMany_0 0 rfl
theorem dX12_forMany_1 : decode cX12_forMany 1 = .ok (.getfield 19, 3) := okd_at mX12_forMany_0 1 rfl
theorem dX12_forMany_4 : decode cX12_forMany 4 = .ok (.iconst 2, 1) := okd_at mX12_forMany_0 2 rfl
theorem dX12_forMany_5 : decode cX12_forMany 5 = .ok (.iload_n 1, 1) := okd_at mX12_forMany_0 3 rfl
theorem dX12_forMany_6 : decode cX12_forMany 6 = .ok (.imul, 1) := okd_at mX12_forMany_0 4 rfl
theorem dX12_forMany_7 : decode cX12_forMany 7 = .ok (.iaload, 1) := okd_at mX12_forMany_0 5 rfl
theorem dX12_forMany_8 : decode cX12_forMany 8 = .ok (.invokestatic 176, 3) := okd_at mX12_forMany_0 6 rfl
theorem dX12_forMany_11 : decode cX12_forMany 11 = .ok (.istore_n 2, 1) := okd_at mX12_forMany_0 7 rfl
theorem dX12_forMany_12 : decode cX12_forMany 12 = .ok (.aload_n 0, 1) := okd_at mX12_forMany_0 8 rfl
theorem dX12_forMany_13 : decode cX12_forMany 13 = .ok (.getfield 19, 3) := okd_at mX12_forMany_0 9 rfl
theorem dX12_forMany_16 : decode cX12_forMany 16 = .ok (.iconst 2, 1) := okd_at mX12_forMany_0 10 rfl
theorem dX12_forMany_17 : decode cX12_forMany 17 = .ok (.iload_n 1, 1) := okd_at mX12_forMany_0 11 rfl
theorem dX12_forMany_18 : decode cX12_forMany 18 = .ok (.imul, 1) := okd_at mX12_forMany_0 12 rfl
theorem dX12_forMany_19 : decode cX12_forMany 19 = .ok (.iconst 1, 1) := okd_at mX12_forMany_0 13 rfl
theorem dX12_forMany_20 : decode cX12_forMany 20 = .ok (.iadd, 1) := okd_at mX12_forMany_0 14 rfl
theorem dX12_forMany_21 : decode cX12_forMany 21 = .ok (.iaload, 1) := okd_at mX12_forMany_0 15 rfl
theorem dX12_forMany_22 : decode cX12_forMany 22 = .ok (.istore_n 3, 1) := okd_at mX12_forMany_0 16 rfl
theorem dX12_forMany_23 : decode cX12_forMany 23 = .ok (.aload_n 0, 1) := okd_at mX12_forMany_0 17 rfl
theorem dX12_forMany_24 : decode cX12_forMany 24 = .ok (.getfield 13, 3) := okd_at mX12_forMany_0 18 rfl
theorem dX12_forMany_27 : decode cX12_forMany 27 = .ok (.iload_n 1, 1) := okd_at mX12_forMany_0 19 rfl
theorem dX12_forMany_28 : decode cX12_forMany 28 = .ok (.iaload, 1) := okd_at mX12_forMany_0 20 rfl
theorem dX12_forMany_29 : decode cX12_forMany 29 = .ok (.tableswitch 52 2 5 #[31, 52, 31, 45], 31) := okd_at mX12_forMany_0 21 rfl
theorem dX12_forMany_60 : decode cX12_forMany 60 = .ok (.iload_n 2, 1) := okd_at mX12_forMany_0 22 rfl
theorem dX12_forMany_61 : decode cX12_forMany 61 = .ok (.iconst 3, 1) := okd_at mX12_forMany_0 23 rfl
theorem dX12_forMany_62 : decode cX12_forMany 62 = .ok (.if_icmp .ge 7, 3) := okd_at mX12_forMany_0 24 rfl
theorem dX12_forMany_65 : decode cX12_forMany 65 = .ok (.iconst 1, 1) := okd_at mX12_forMany_0 25 rfl
theorem dX12_forMany_66 : decode cX12_forMany 66 = .ok (.goto 4, 3) := okd_at mX12_forMany_0 26 rfl
theorem dX12_forMany_69 : decode cX12_forMany 69 = .ok (.iload_n 3, 1) := okd_at mX12_forMany_0 27 rfl
theorem dX12_forMany_70 : decode cX12_forMany 70 = .ok (.istore_n 3, 1) := okd_at mX12_forMany_0 28 rfl
theorem dX12_forMany_71 : decode cX12_forMany 71 = .ok (.goto 10, 3) := okd_at mX12_forMany_0 29 rfl
theorem dX12_forMany_74 : decode cX12_forMany 74 = .ok (.iload_n 2, 1) := okd_at mX12_forMany_0 30 rfl
theorem dX12_forMany_75 : decode cX12_forMany 75 = .ok (.iconst 2, 1) := okd_at mX12_forMany_0 31 rfl
theorem dX12_forMany_76 : decode cX12_forMany 76 = .ok (.idiv, 1) := okd_at mX12_forMany_0 32 rfl
theorem dX12_forMany_77 : decode cX12_forMany 77 = .ok (.istore_n 3, 1) := okd_at mX12_forMany_0 33 rfl
theorem dX12_forMany_78 : decode cX12_forMany 78 = .ok (.goto 3, 3) := okd_at mX12_forMany_0 34 rfl
theorem dX12_forMany_81 : decode cX12_forMany 81 = .ok (.iload_n 3, 1) := okd_at mX12_forMany_0 35 rfl
theorem dX12_forMany_82 : decode cX12_forMany 82 = .ok (.iload_n 2, 1) := okd_at mX12_forMany_0 36 rfl
theorem dX12_forMany_83 : decode cX12_forMany 83 = .ok (.if_icmp .le 7, 3) := okd_at mX12_forMany_0 37 rfl
theorem dX12_forMany_86 : decode cX12_forMany 86 = .ok (.iload_n 2, 1) := okd_at mX12_forMany_0 38 rfl
theorem dX12_forMany_87 : decode cX12_forMany 87 = .ok (.goto 4, 3) := okd_at mX12_forMany_0 39 rfl
theorem dX12_forMany_90 : decode cX12_forMany 90 = .ok (.iload_n 3, 1) := okd_at mX12_forMany_0 40 rfl
theorem dX12_forMany_91 : decode cX12_forMany 91 = .ok (.ireturn, 1) := okd_at mX12_forMany_0 41 rfl
def lmX12_force_0 : List (Nat × Instr × Nat) := [(0, .iload_n 1, 1), (1, .iconst 0, 1), (2, .aload_n 0, 1), (3, .getfield 100, 3), (6, .iconst 1, 1), (7, .isub, 1), (8, .invokestatic 93, 3), (11, .ifCond .ne 6, 3), (14, .bipush (-2), 2), (16, .ireturn, 1), (17, .aload_n 0, 1), (18, .getfield 103, 3), (21, .istore_n 2, 1), (22, .aload_n 0, 1), (23, .iload_n 1, 1), (24, .putfield 103, 3), (27, .iload_n 2, 1), (28, .ireturn, 1)]
theorem mX12_force_0 : okd cX12_force lmX12_force_0 = true := by decide +kernel
theorem dX12_force_0 : decode cX12_force 0 = .ok (.iload_n 1, 1) := okd_at mX12_force_0 0 rfl
theorem dX12_force_1 : decode cX12_force 1 = .ok (.iconst 0, 1) := okd_at mX12_force_0 1 rfl
theorem dX12_force_2 : decode cX12_force 2 = .ok (.aload_n 0, 1) := okd_at mX12_force_0 2 rfl
theorem dX12_force_3 : decode cX12_force 3 = .ok (.getfield 100, 3) := okd_at mX12_force_0 3 rfl
theorem dX12_force_6 : decode cX12_force 6 = .ok (.iconst 1, 1) := okd_at mX12_force_0 4 rfl
theorem dX12_force_7 : decode cX12_force 7 = .ok (.isub, 1) := okd_at mX12_force_0 5 rfl
theorem dX12_force_8 : decode cX12_force 8 = .ok (.invokestatic 93, 3) := okd_at mX12_force_0 6 rfl
theorem dX12_force_11 : decode cX12_force 11 = .ok (.ifCond .ne 6, 3) := okd_at mX12_force_0 7 rfl
theorem dX12_force_14 : decode cX12_force 14 = .ok (.bipush (-2), 2) := okd_at mX12_force_0 8 rfl
theorem dX12_force_16 : decode cX12_force 16 = .ok (.ireturn, 1) := okd_at mX12_force_0 9 rfl
theorem dX12_force_17 : decode cX12_force 17 = .ok (.aload_n 0, 1) := okd_at mX12_force_0 10 rfl
theorem dX12_force_18 : decode cX12_force 18 = .ok (.getfield 103, 3) := okd_at mX12_force_0 11 rfl
theorem dX12_force_21 : decode cX12_force 21 = .ok (.istore_n 2, 1) := okd_at mX12_force_0 12 rfl
theorem dX12_force_22 : decode cX12_force 22 = .ok (.aload_n 0, 1) := okd_at mX12_force_0 13 rfl
theorem dX12_force_23 : decode cX12_force 23 = .ok (.iload_n 1, 1) := okd_at mX12_force_0 14 rfl
theorem dX12_force_24 : decode cX12_force 24 = .ok (.putfield 103, 3) := okd_at mX12_force_0 15 rfl
theorem dX12_force_27 : decode cX12_force 27 = .ok (.iload_n 2, 1) := okd_at mX12_force_0 16 rfl
theorem dX12_force_28 : decode cX12_force 28 = .ok (.ireturn, 1) := okd_at mX12_force_0 17 rfl
def lmX12_goes_0 : List (Nat × Instr × Nat) := [(0, .aload_n 0, 1), (1, .invokevirtual 198, 3), (4, .aload_n 0, 1), (5, .iconst 0, 1), (6, .putfield 207, 3), (9, .aload_n 0, 1), (10, .iconst 0, 1), (11, .putfield 213, 3), (14, .aload_n 0, 1), (15, .iconst 0, 1), (16, .putfield 210, 3), (19, .iconst 0, 1), (20, .istore_n 1, 1), (21, .iload_n 1, 1), (22, .aload_n 0, 1), (23, .getfield 97, 3), (26, .if_icmp .ge 32, 3), (29, .aload_n 0, 1), (30, .getfield 73, 3), (33, .iload_n 1, 1), (34, .iaload, 1), (35, .aload_n 0, 1), (36, .getfield 76, 3), (39, .if_icmp .eq 13, 3), (42, .aload_n 0, 1), (43, .aload_n 0, 1), (44, .getfield 73, 3), (47, .iload_n 1, 1), (48, .iaload, 1), (49, .invokevirtual 216, 3), (52, .iinc 1 1, 3), (55, .goto (-34), 3), (58, .iconst 0, 1), (59, .istore_n 1, 1), (60, .iload_n 1, 1), (61, .aload_n 0, 1), (62, .getfield 90, 3), (65, .if_icmp .ge 45, 3), (68, .aload_n 0, 1), (69, .getfield 61, 3), (72, .iload_n 1, 1), (73, .iaload, 1), (74, .ifCond .ne 30, 3), (77, .aload_n 0, 1), (78, .dup, 1), (79, .getfield 213, 3), (82, .iconst 1, 1), (83, .iadd, 1), (84, .putfield 213, 3), (87, .aload_n 0, 1), (88, .dup, 1), (89, .getfield 207, 3), (92, .aload_n 0, 1), (93, .iconst 2, 1), (94, .iload_n 1, 1), (95, .iconst (-1), 1), (96, .iconst 0, 1), (97, .invokevirtual 185, 3), (100, .iadd, 1), (101, .putfield 207, 3)]
theorem mX12_goes_0 : okd cX12_goes lmX12_goes_0 = true := by decide +kernel
theorem dX12_goes_0 : decode cX12_goes 0 = .ok (.aload_n 0, 1) := okd_at mX12_goes_0 0 rfl
theorem dX12_goes_1 : decode cX12_goes 1 = .ok (.invokevirtual 198, 3) := okd_at mX12_goes_0 1 rfl
theorem dX12_goes_4 : decode cX12_goes 4 = .ok (.aload_n 0, 1) := okd_at mX12_goes_0 2 rfl
theorem dX12_goes_5 : decode cX12_goes 5 = .ok (.iconst 0, 1) := okd_at mX12_goes_0 3 rfl
theorem dX12_goes_6 : decode cX12_goes 6 = .ok (.putfield 207, 3) := okd_at mX12_goes_0 4 rfl
theorem dX12_goes_9 : decode cX12_goes 9 = .ok (.aload_n 0, 1) := okd_at mX12_goes_0 5 rfl
theorem dX12_goes_10 : decode cX12_goes 10 = .ok (.iconst 0, 1) := okd_at mX12_goes_0 6 rfl
theorem dX12_goes_11 : decode cX12_goes 11 = .ok (.putfield 213, 3) := okd_at mX12_goes_0 7 rfl
theorem dX12_goes_14 : decode cX12_goes 14 = .ok (.aload_n 0, 1) := okd_at mX12_goes_0 8 rfl
theorem dX12_goes_15 : decode cX12_goes 15 = .ok (.iconst 0, 1) := okd_at mX12_goes_0 9 rfl
theorem dX12_goes_16 : decode cX12_goes 16 = .ok (.putfield 210, 3) := okd_at mX12_goes_0 10 rfl
theorem dX12_goes_19 : decode cX12_goes 19 = .ok (.iconst 0, 1) := okd_at mX12_goes_0 11 rfl
theorem dX12_goes_20 : decode cX12_goes 20 = .ok (.istore_n 1, 1) := okd_at mX12_goes_0 12 rfl
theorem dX12_goes_21 : decode cX12_goes 21 = .ok (.iload_n 1, 1) := okd_at mX12_goes_0 13 rfl
theorem dX12_goes_22 : decode cX12_goes 22 = .ok (.aload_n 0, 1) := okd_at mX12_goes_0 14 rfl
theorem dX12_goes_23 : decode cX12_goes 23 = .ok (.getfield 97, 3) := okd_at mX12_goes_0 15 rfl
theorem dX12_goes_26 : decode cX12_goes 26 = .ok (.if_icmp .ge 32, 3) := okd_at mX12_goes_0 16 rfl
theorem dX12_goes_29 : decode cX12_goes 29 = .ok (.aload_n 0, 1) := okd_at mX12_goes_0 17 rfl
theorem dX12_goes_30 : decode cX12_goes 30 = .ok (.getfield 73, 3) := okd_at mX12_goes_0 18 rfl
theorem dX12_goes_33 : decode cX12_goes 33 = .ok (.iload_n 1, 1) := okd_at mX12_goes_0 19 rfl
theorem dX12_goes_34 : decode cX12_goes 34 = .ok (.iaload, 1) := okd_at mX12_goes_0 20 rfl
theorem dX12_goes_35 : decode cX12_goes 35 = .ok (.aload_n 0, 1) := okd_at mX12_goes_0 21 rfl
theorem dX12_goes_36 : decode cX12_goes 36 = .ok (.getfield 76, 3) := okd_at mX12_goes_0 22 rfl
theorem dX12_goes_39 : decode cX12_goes 39 = .ok (.if_icmp .eq 13, 3) := okd_at mX12_goes_0 23 rfl
theorem dX12_goes_42 : decode cX12_goes 42 = .ok (.aload_n 0, 1) := okd_at mX12_goes_0 24 rfl
theorem dX12_goes_43 : decode cX12_goes 43 = .ok (.aload_n 0, 1) := okd_at mX12_goes_0 25 rfl
theorem dX12_goes_44 : decode cX12_goes 44 = .ok (.getfield 73, 3) := okd_at mX12_goes_0 26 rfl
theorem dX12_goes_47 : decode cX12_goes 47 = .ok (.iload_n 1, 1) := okd_at mX12_goes_0 27 rfl
theorem dX12_goes_48 : decode cX12_goes 48 = .ok (.iaload, 1) := okd_at mX12_goes_0 28 rfl
theorem dX12_goes_49 : decode cX12_goes 49 = .ok (.invokevirtual 216, 3) := okd_at mX12_goes_0 29 rfl
theorem dX12_goes_52 : decode cX12_goes 52 = .ok (.iinc 1 1, 3) := okd_at mX12_goes_0 30 rfl
theorem dX12_goes_55 : decode cX12_goes 55 = .ok (.goto (-34), 3) := okd_at mX12_goes_0 31 rfl
theorem dX12_goes_58 : decode cX12_goes 58 = .ok (.iconst 0, 1) := okd_at mX12_goes_0 32 rfl
theorem dX12_goes_59 : decode cX12_goes 59 = .ok (.istore_n 1, 1) := okd_at mX12_goes_0 33 rfl
theorem dX12_goes_60 : decode cX12_goes 60 = .ok (.iload_n 1, 1) := okd_at mX12_goes_0 34 rfl
theorem dX12_goes_61 : decode cX12_goes 61 = .ok (.aload_n 0, 1) := okd_at mX12_goes_0 35 rfl
theorem dX12_goes_62 : decode cX12_goes 62 = .ok (.getfield 90, 3) := okd_at mX12_goes_0 36 rfl
theorem dX12_goes_65 : decode cX12_goes 65 = .ok (.if_icmp .ge 45, 3) := okd_at mX12_goes_0 37 rfl
theorem dX12_goes_68 : decode cX12_goes 68 = .ok (.aload_n 0, 1) := okd_at mX12_goes_0 38 rfl
theorem dX12_goes_69 : decode cX12_goes 69 = .ok (.getfield 61, 3) := okd_at mX12_goes_0 39 rfl
theorem dX12_goes_72 : decode cX12_goes 72 = .ok (.iload_n 1, 1) := okd_at mX12_goes_0 40 rfl
theorem dX12_goes_73 : decode cX12_goes 73 = .ok (.iaload, 1) := okd_at mX12_goes_0 41 rfl
theorem dX12_goes_74 : decode cX12_goes 74 = .ok (.ifCond .ne 30, 3) := okd_at mX12_goes_0 42 rfl
theorem dX12_goes_77 : decode cX12_goes 77 = .ok (.aload_n 0, 1) := okd_at mX12_goes_0 43 rfl
theorem dX12_goes_78 : decode cX12_goes 78 = .ok (.dup, 1) := okd_at mX12_goes_0 44 rfl
theorem dX12_goes_79 : decode cX12_goes 79 = .ok (.getfield 213, 3) := okd_at mX12_goes_0 45 rfl
theorem dX12_goes_82 : decode cX12_goes 82 = .ok (.iconst 1, 1) := okd_at mX12_goes_0 46 rfl
theorem dX12_goes_83 : decode cX12_goes 83 = .ok (.iadd, 1) := okd_at mX12_goes_0 47 rfl
theorem dX12_goes_84 : decode cX12_goes 84 = .ok (.putfield 213, 3) := okd_at mX12_goes_0 48 rfl
theorem dX12_goes_87 : decode cX12_goes 87 = .ok (.aload_n 0, 1) := okd_at mX12_goes_0 49 rfl
theorem dX12_goes_88 : decode cX12_goes 88 = .ok (.dup, 1) := okd_at mX12_goes_0 50 rfl
theorem dX12_goes_89 : decode cX12_goes 89 = .ok (.getfield 207, 3) := okd_at mX12_goes_0 51 rfl
theorem dX12_goes_92 : decode cX12_goes 92 = .ok (.aload_n 0, 1) := okd_at mX12_goes_0 52 rfl
theorem dX12_goes_93 : decode cX12_goes 93 = .ok (.iconst 2, 1) := okd_at mX12_goes_0 53 rfl
theorem dX12_goes_94 : decode cX12_goes 94 = .ok (.iload_n 1, 1) := okd_at mX12_goes_0 54 rfl
theorem dX12_goes_95 : decode cX12_goes 95 = .ok (.iconst (-1), 1) := okd_at mX12_goes_0 55 rfl
theorem dX12_goes_96 : decode cX12_goes 96 = .ok (.iconst 0, 1) := okd_at mX12_goes_0 56 rfl
theorem dX12_goes_97 : decode cX12_goes 97 = .ok (.invokevirtual 185, 3) := okd_at mX12_goes_0 57 rfl
theorem dX12_goes_100 : decode cX12_goes 100 = .ok (.iadd, 1) := okd_at mX12_goes_0 58 rfl
theorem dX12_goes_101 : decode cX12_goes 101 = .ok (.putfield 207, 3) := okd_at mX12_goes_0 59 rfl
def lmX12_goes_1 : List (Nat × Instr × Nat) := [(104, .iinc 1 1, 3), (107, .goto (-47), 3), (110, .return_, 1)]
theorem mX12_goes_1 : okd cX12_goes lmX12_goes_1 = true := by decide +kernel
theorem dX12_goes_104 : decode cX12_goes 104 = .ok (.iinc 1 1, 3) := okd_at mX12_goes_1 0 rfl
theorem dX12_goes_107 : decode cX12_goes 107 = .ok (.goto (-47), 3) := okd_at mX12_goes_1 1 rfl
theorem dX12_goes_110 : decode cX12_goes 110 = .ok (.return_, 1) := okd_at mX12_goes_1 2 rfl
def lmX12_holds_0 : List (Nat × Instr × Nat) := [(0, .aload_n 0, 1), (1, .getfield 52, 3), (4, .aload_n 0, 1), (5, .getfield 132, 3), (8, .iload_n 1, 1), (9, .iastore, 1), (10, .aload_n 0, 1), (11, .dup, 1), (12, .getfield 132, 3), (15, .iconst 1, 1), (16, .iadd, 1), (17, .putfield 132, 3), (20, .return_, 1)]
theorem mX12_holds_0 : okd cX12_holds lmX12_holds_0 = true := by decide +kernel
theorem dX12_holds_0 : decode cX12_holds 0 = .ok (.aload_n 0, 1) := okd_at mX12_holds_0 0 rfl
theorem dX12_holds_1 : decode cX12_holds 1 = .ok (.getfield 52, 3) := okd_at mX12_holds_0 1 rfl
theorem dX12_holds_4 : decode cX12_holds 4 = .ok (.aload_n 0, 1) := okd_at mX12_holds_0 2 rfl
theorem dX12_holds_5 : decode cX12_holds 5 = .ok (.getfield 132, 3) := okd_at mX12_holds_0 3 rfl
theorem dX12_holds_8 : decode cX12_holds 8 = .ok (.iload_n 1, 1) := okd_at mX12_holds_0 4 rfl
theorem dX12_holds_9 : decode cX12_holds 9 = .ok (.iastore, 1) := okd_at mX12_holds_0 5 rfl
theorem dX12_holds_10 : decode cX12_holds 10 = .ok (.aload_n 0, 1) := okd_at mX12_holds_0 6 rfl
theorem dX12_holds_11 : decode cX12_holds 11 = .ok (.dup, 1) := okd_at mX12_holds_0 7 rfl
theorem dX12_holds_12 : decode cX12_holds 12 = .ok (.getfield 132, 3) := okd_at mX12_holds_0 8 rfl
theorem dX12_holds_15 : decode cX12_holds 15 = .ok (.iconst 1, 1) := okd_at mX12_holds_0 9 rfl
theorem dX12_holds_16 : decode cX12_holds 16 = .ok (.iadd, 1) := okd_at mX12_holds_0 10 rfl
theorem dX12_holds_17 : decode cX12_holds 17 = .ok (.putfield 132, 3) := okd_at mX12_holds_0 11 rfl
theorem dX12_holds_20 : decode cX12_holds 20 = .ok (.return_, 1) := okd_at mX12_holds_0 12 rfl
def lmX12_image_0 : List (Nat × Instr × Nat) := [(0, .aload_n 0, 1), (1, .iconst 1, 1), (2, .putfield 275, 3), (5, .iconst 0, 1), (6, .istore_n 1, 1), (7, .iload_n 1, 1), (8, .bipush 24, 2), (10, .if_icmp .ge 21, 3), (13, .aload_n 0, 1), (14, .getfield 31, 3), (17, .iload_n 1, 1), (18, .aload_n 0, 1), (19, .getfield 7, 3), (22, .iload_n 1, 1), (23, .iaload, 1), (24, .iastore, 1), (25, .iinc 1 1, 3), (28, .goto (-21), 3), (31, .iconst 0, 1), (32, .istore_n 1, 1), (33, .iload_n 1, 1), (34, .bipush 12, 2), (36, .if_icmp .ge 24, 3), (39, .aload_n 0, 1), (40, .getfield 31, 3), (43, .bipush 24, 2), (45, .iload_n 1, 1), (46, .iadd, 1), (47, .aload_n 0, 1), (48, .getfield 19, 3), (51, .iload_n 1, 1), (52, .iaload, 1), (53, .iastore, 1), (54, .iinc 1 1, 3), (57, .goto (-24), 3), (60, .aload_n 0, 1), (61, .getfield 34, 3), (64, .iconst 0, 1), (65, .aload_n 0, 1), (66, .getfield 97, 3), (69, .iastore, 1), (70, .aload_n 0, 1), (71, .getfield 34, 3), (74, .iconst 1, 1), (75, .aload_n 0, 1), (76, .getfield 90, 3), (79, .iastore, 1), (80, .aload_n 0, 1), (81, .getfield 34, 3), (84, .iconst 2, 1), (85, .aload_n 0, 1), (86, .getfield 103, 3), (89, .iastore, 1), (90, .aload_n 0, 1), (91, .getfield 97, 3), (94, .ireturn, 1)]
theorem mX12_image_0 : okd cX12_image lmX12_image_0 = true := by decide +kernel
theorem dX12_image_0 : decode cX12_image 0 = .ok (.aload_n 0, 1) := okd_at mX12_image_0 0 rfl
theorem dX12_image_1 : decode cX12_image 1 = .ok (.iconst 1, 1) := okd_at mX12_image_0 1 rfl
theorem dX12_image_2 : decode cX12_image 2 = .ok (.putfield 275, 3) := okd_at mX12_image_0 2 rfl
theorem dX12_image_5 : decode cX12_image 5 = .ok (.iconst 0, 1) := okd_at mX12_image_0 3 rfl
theorem dX12_image_6 : decode cX12_image 6 = .ok (.istore_n 1, 1) := okd_at mX12_image_0 4 rfl
theorem dX12_image_7 : decode cX12_image 7 = .ok (.iload_n 1, 1) := okd_at mX12_image_0 5 rfl
theorem dX12_image_8 : decode cX12_image 8 = .ok (.bipush 24, 2) := okd_at mX12_image_0 6 rfl
theorem dX12_image_10 : decode cX12_image 10 = .ok (.if_icmp .ge 21, 3) := okd_at mX12_image_0 7 rfl
theorem dX12_image_13 : decode cX12_image 13 = .ok (.aload_n 0, 1) := okd_at mX12_image_0 8 rfl
theorem dX12_image_14 : decode cX12_image 14 = .ok (.getfield 31, 3) := okd_at mX12_image_0 9 rfl
theorem dX12_image_17 : decode cX12_image 17 = .ok (.iload_n 1, 1) := okd_at mX12_image_0 10 rfl
theorem dX12_image_18 : decode cX12_image 18 = .ok (.aload_n 0, 1) := okd_at mX12_image_0 11 rfl
theorem dX12_image_19 : decode cX12_image 19 = .ok (.getfield 7, 3) := okd_at mX12_image_0 12 rfl
theorem dX12_image_22 : decode cX12_image 22 = .ok (.iload_n 1, 1) := okd_at mX12_image_0 13 rfl
theorem dX12_image_23 : decode cX12_image 23 = .ok (.iaload, 1) := okd_at mX12_image_0 14 rfl
theorem dX12_image_24 : decode cX12_image 24 = .ok (.iastore, 1) := okd_at mX12_image_0 15 rfl
theorem dX12_image_25 : decode cX12_image 25 = .ok (.iinc 1 1, 3) := okd_at mX12_image_0 16 rfl
theorem dX12_image_28 : decode cX12_image 28 = .ok (.goto (-21), 3) := okd_at mX12_image_0 17 rfl
theorem dX12_image_31 : decode cX12_image 31 = .ok (.iconst 0, 1) := okd_at mX12_image_0 18 rfl
theorem dX12_image_32 : decode cX12_image 32 = .ok (.istore_n 1, 1) := okd_at mX12_image_0 19 rfl
theorem dX12_image_33 : decode cX12_image 33 = .ok (.iload_n 1, 1) := okd_at mX12_image_0 20 rfl
theorem dX12_image_34 : decode cX12_image 34 = .ok (.bipush 12, 2) := okd_at mX12_image_0 21 rfl
theorem dX12_image_36 : decode cX12_image 36 = .ok (.if_icmp .ge 24, 3) := okd_at mX12_image_0 22 rfl
theorem dX12_image_39 : decode cX12_image 39 = .ok (.aload_n 0, 1) := okd_at mX12_image_0 23 rfl
theorem dX12_image_40 : decode cX12_image 40 = .ok (.getfield 31, 3) := okd_at mX12_image_0 24 rfl
theorem dX12_image_43 : decode cX12_image 43 = .ok (.bipush 24, 2) := okd_at mX12_image_0 25 rfl
theorem dX12_image_45 : decode cX12_image 45 = .ok (.iload_n 1, 1) := okd_at mX12_image_0 26 rfl
theorem dX12_image_46 : decode cX12_image 46 = .ok (.iadd, 1) := okd_at mX12_image_0 27 rfl
theorem dX12_image_47 : decode cX12_image 47 = .ok (.aload_n 0, 1) := okd_at mX12_image_0 28 rfl
theorem dX12_image_48 : decode cX12_image 48 = .ok (.getfield 19, 3) := okd_at mX12_image_0 29 rfl
theorem dX12_image_51 : decode cX12_image 51 = .ok (.iload_n 1, 1) := okd_at mX12_image_0 30 rfl
theorem dX12_image_52 : decode cX12_image 52 = .ok (.iaload, 1) := okd_at mX12_image_0 31 rfl
theorem dX12_image_53 : decode cX12_image 53 = .ok (.iastore, 1) := okd_at mX12_image_0 32 rfl
theorem dX12_image_54 : decode cX12_image 54 = .ok (.iinc 1 1, 3) := okd_at mX12_image_0 33 rfl
theorem dX12_image_57 : decode cX12_image 57 = .ok (.goto (-24), 3) := okd_at mX12_image_0 34 rfl
theorem dX12_image_60 : decode cX12_image 60 = .ok (.aload_n 0, 1) := okd_at mX12_image_0 35 rfl
theorem dX12_image_61 : decode cX12_image 61 = .ok (.getfield 34, 3) := okd_at mX12_image_0 36 rfl
theorem dX12_image_64 : decode cX12_image 64 = .ok (.iconst 0, 1) := okd_at mX12_image_0 37 rfl
theorem dX12_image_65 : decode cX12_image 65 = .ok (.aload_n 0, 1) := okd_at mX12_image_0 38 rfl
theorem dX12_image_66 : decode cX12_image 66 = .ok (.getfield 97, 3) := okd_at mX12_image_0 39 rfl
theorem dX12_image_69 : decode cX12_image 69 = .ok (.iastore, 1) := okd_at mX12_image_0 40 rfl
theorem dX12_image_70 : decode cX12_image 70 = .ok (.aload_n 0, 1) := okd_at mX12_image_0 41 rfl
theorem dX12_image_71 : decode cX12_image 71 = .ok (.getfield 34, 3) := okd_at mX12_image_0 42 rfl
theorem dX12_image_74 : decode cX12_image 74 = .ok (.iconst 1, 1) := okd_at mX12_image_0 43 rfl
theorem dX12_image_75 : decode cX12_image 75 = .ok (.aload_n 0, 1) := okd_at mX12_image_0 44 rfl
theorem dX12_image_76 : decode cX12_image 76 = .ok (.getfield 90, 3) := okd_at mX12_image_0 45 rfl
theorem dX12_image_79 : decode cX12_image 79 = .ok (.iastore, 1) := okd_at mX12_image_0 46 rfl
theorem dX12_image_80 : decode cX12_image 80 = .ok (.aload_n 0, 1) := okd_at mX12_image_0 47 rfl
theorem dX12_image_81 : decode cX12_image 81 = .ok (.getfield 34, 3) := okd_at mX12_image_0 48 rfl
theorem dX12_image_84 : decode cX12_image 84 = .ok (.iconst 2, 1) := okd_at mX12_image_0 49 rfl
theorem dX12_image_85 : decode cX12_image 85 = .ok (.aload_n 0, 1) := okd_at mX12_image_0 50 rfl
theorem dX12_image_86 : decode cX12_image 86 = .ok (.getfield 103, 3) := okd_at mX12_image_0 51 rfl
theorem dX12_image_89 : decode cX12_image 89 = .ok (.iastore, 1) := okd_at mX12_image_0 52 rfl
theorem dX12_image_90 : decode cX12_image 90 = .ok (.aload_n 0, 1) := okd_at mX12_image_0 53 rfl
theorem dX12_image_91 : decode cX12_image 91 = .ok (.getfield 97, 3) := okd_at mX12_image_0 54 rfl
theorem dX12_image_94 : decode cX12_image 94 = .ok (.ireturn, 1) := okd_at mX12_image_0 55 rfl
def lmX12_in_0 : List (Nat × Instr × Nat) := [(0, .iload_n 0, 1), (1, .iload_n 1, 1), (2, .if_icmp .lt 12, 3), (5, .iload_n 0, 1), (6, .iload_n 2, 1), (7, .if_icmp .gt 7, 3), (10, .iconst 1, 1), (11, .goto 4, 3), (14, .iconst 0, 1), (15, .ireturn, 1)]
theorem mX12_in_0 : okd cX12_in lmX12_in_0 = true := by decide +kernel
theorem dX12_in_0 : decode cX12_in 0 = .ok (.iload_n 0, 1) := okd_at mX12_in_0 0 rfl
theorem dX12_in_1 : decode cX12_in 1 = .ok (.iload_n 1, 1) := okd_at mX12_in_0 1 rfl
theorem dX12_in_2 : decode cX12_in 2 = .ok (.if_icmp .lt 12, 3) := okd_at mX12_in_0 2 rfl
theorem dX12_in_5 : decode cX12_in 5 = .ok (.iload_n 0, 1) := okd_at mX12_in_0 3 rfl
theorem dX12_in_6 : decode cX12_in 6 = .ok (.iload_n 2, 1) := okd_at mX12_in_0 4 rfl
theorem dX12_in_7 : decode cX12_in 7 = .ok (.if_icmp .gt 7, 3) := okd_at mX12_in_0 5 rfl
theorem dX12_in_10 : decode cX12_in 10 = .ok (.iconst 1, 1) := okd_at mX12_in_0 6 rfl
theorem dX12_in_11 : decode cX12_in 11 = .ok (.goto 4, 3) := okd_at mX12_in_0 7 rfl
theorem dX12_in_14 : decode cX12_in 14 = .ok (.iconst 0, 1) := okd_at mX12_in_0 8 rfl
theorem dX12_in_15 : decode cX12_in 15 = .ok (.ireturn, 1) := okd_at mX12_in_0 9 rfl
def lmX12_isByte_0 : List (Nat × Instr × Nat) := [(0, .iload_n 0, 1), (1, .iconst 0, 1), (2, .sipush 255, 3), (5, .invokestatic 93, 3), (8, .ireturn, 1)]
theorem mX12_isByte_0 : okd cX12_isByte lmX12_isByte_0 = true := by decide +kernel
theorem dX12_isByte_0 : decode cX12_isByte 0 = .ok (.iload_n 0, 1) := okd_at mX12_isByte_0 0 rfl
theorem dX12_isByte_1 : decode cX12_isByte 1 = .ok (.iconst 0, 1) := okd_at mX12_isByte_0 1 rfl
theorem dX12_isByte_2 : decode cX12_isByte 2 = .ok (.sipush 255, 3) := okd_at mX12_isByte_0 2 rfl
theorem dX12_isByte_5 : decode cX12_isByte 5 = .ok (.invokestatic 93, 3) := okd_at mX12_isByte_0 3 rfl
theorem dX12_isByte_8 : decode cX12_isByte 8 = .ok (.ireturn, 1) := okd_at mX12_isByte_0 4 rfl
def lmX12_isChild_0 : List (Nat × Instr × Nat) := [(0, .iload_n 1, 1), (1, .iconst 0, 1), (2, .aload_n 0, 1), (3, .getfield 90, 3), (6, .iconst 1, 1), (7, .isub, 1), (8, .invokestatic 93, 3), (11, .ireturn, 1)]
theorem mX12_isChild_0 : okd cX12_isChild lmX12_isChild_0 = true := by decide +kernel
theorem dX12_isChild_0 : decode cX12_isChild 0 = .ok (.iload_n 1, 1) := okd_at mX12_isChild_0 0 rfl
theorem dX12_isChild_1 : decode cX12_isChild 1 = .ok (.iconst 0, 1) := okd_at mX12_isChild_0 1 rfl
theorem dX12_isChild_2 : decode cX12_isChild 2 = .ok (.aload_n 0, 1) := okd_at mX12_isChild_0 2 rfl
theorem dX12_isChild_3 : decode cX12_isChild 3 = .ok (.getfield 90, 3) := okd_at mX12_isChild_0 3 rfl
theorem dX12_isChild_6 : decode cX12_isChild 6 = .ok (.iconst 1, 1) := okd_at mX12_isChild_0 4 rfl
theorem dX12_isChild_7 : decode cX12_isChild 7 = .ok (.isub, 1) := okd_at mX12_isChild_0 5 rfl
theorem dX12_isChild_8 : decode cX12_isChild 8 = .ok (.invokestatic 93, 3) := okd_at mX12_isChild_0 6 rfl
theorem dX12_isChild_11 : decode cX12_isChild 11 = .ok (.ireturn, 1) := okd_at mX12_isChild_0 7 rfl
def lmX12_isRace_0 : List (Nat × Instr × Nat) := [(0, .iload_n 1, 1), (1, .iconst 0, 1), (2, .aload_n 0, 1), (3, .getfield 97, 3), (6, .iconst 1, 1), (7, .isub, 1), (8, .invokestatic 93, 3), (11, .ireturn, 1)]
theorem mX12_isRace_0 : okd cX12_isRace lmX12_isRace_0 = true := by decide +kernel
theorem dX12_isRace_0 : decode cX12_isRace 0 = .ok (.iload_n 1, 1) := okd_at mX12_isRace_0 0 rfl
theorem dX12_isRace_1 : decode cX12_isRace 1 = .ok (.iconst 0, 1) := okd_at mX12_isRace_0 1 rfl
theorem dX12_isRace_2 : decode cX12_isRace 2 = .ok (.aload_n 0, 1) := okd_at mX12_isRace_0 2 rfl
theorem dX12_isRace_3 : decode cX12_isRace 3 = .ok (.getfield 97, 3) := okd_at mX12_isRace_0 3 rfl
theorem dX12_isRace_6 : decode cX12_isRace 6 = .ok (.iconst 1, 1) := okd_at mX12_isRace_0 4 rfl
theorem dX12_isRace_7 : decode cX12_isRace 7 = .ok (.isub, 1) := okd_at mX12_isRace_0 5 rfl
theorem dX12_isRace_8 : decode cX12_isRace 8 = .ok (.invokestatic 93, 3) := okd_at mX12_isRace_0 6 rfl
theorem dX12_isRace_11 : decode cX12_isRace 11 = .ok (.ireturn, 1) := okd_at mX12_isRace_0 7 rfl
def lmX12_isUnder_0 : List (Nat × Instr × Nat) := [(0, .iload_n 1, 1), (1, .ifCond .eq 28, 3), (4, .iload_n 0, 1), (5, .iload_n 1, 1), (6, .if_icmp .eq 23, 3), (9, .iload_n 1, 1), (10, .iconst 1, 1), (11, .if_icmp .ne 8, 3), (14, .iload_n 0, 1), (15, .iconst 3, 1), (16, .if_icmp .eq 13, 3), (19, .iload_n 1, 1), (20, .iconst 2, 1), (21, .if_icmp .ne 12, 3), (24, .iload_n 0, 1), (25, .iconst 4, 1), (26, .if_icmp .ne 7, 3), (29, .iconst 1, 1), (30, .goto 4, 3), (33, .iconst 0, 1), (34, .ireturn, 1)]
theorem mX12_isUnder_0 : okd cX12_isUnder lmX12_isUnder_0 = true := by decide +kernel
theorem dX12_isUnder_0 : decode cX12_isUnder 0 = .ok (.iload_n 1, 1) := okd_at mX12_isUnder_0 0 rfl
theorem dX12_isUnder_1 : decode cX12_isUnder 1 = .ok (.ifCond .eq 28, 3) := okd_at mX12_isUnder_0 1 rfl
theorem dX12_isUnder_4 : decode cX12_isUnder 4 = .ok (.iload_n 0, 1) := okd_at mX12_isUnder_0 2 rfl
theorem dX12_isUnder_5 : decode cX12_isUnder 5 = .ok (.iload_n 1, 1) := okd_at mX12_isUnder_0 3 rfl
theorem dX12_isUnder_6 : decode cX12_isUnder 6 = .ok (.if_icmp .eq 23, 3) := okd_at mX12_isUnder_0 4 rfl
theorem dX12_isUnder_9 : decode cX12_isUnder 9 = .ok (.iload_n 1, 1) := okd_at mX12_isUnder_0 5 rfl
theorem dX12_isUnder_10 : decode cX12_isUnder 10 = .ok (.iconst 1, 1) := okd_at mX12_isUnder_0 6 rfl
theorem dX12_isUnder_11 : decode cX12_isUnder 11 = .ok (.if_icmp .ne 8, 3) := okd_at mX12_isUnder_0 7 rfl
theorem dX12_isUnder_14 : decode cX12_isUnder 14 = .ok (.iload_n 0, 1) := okd_at mX12_isUnder_0 8 rfl
theorem dX12_isUnder_15 : decode cX12_isUnder 15 = .ok (.iconst 3, 1) := okd_at mX12_isUnder_0 9 rfl
theorem dX12_isUnder_16 : decode cX12_isUnder 16 = .ok (.if_icmp .eq 13, 3) := okd_at mX12_isUnder_0 10 rfl
theorem dX12_isUnder_19 : decode cX12_isUnder 19 = .ok (.iload_n 1, 1) := okd_at mX12_isUnder_0 11 rfl
theorem dX12_isUnder_20 : decode cX12_isUnder 20 = .ok (.iconst 2, 1) := okd_at mX12_isUnder_0 12 rfl
theorem dX12_isUnder_21 : decode cX12_isUnder 21 = .ok (.if_icmp .ne 12, 3) := okd_at mX12_isUnder_0 13 rfl
theorem dX12_isUnder_24 : decode cX12_isUnder 24 = .ok (.iload_n 0, 1) := okd_at mX12_isUnder_0 14 rfl
theorem dX12_isUnder_25 : decode cX12_isUnder 25 = .ok (.iconst 4, 1) := okd_at mX12_isUnder_0 15 rfl
theorem dX12_isUnder_26 : decode cX12_isUnder 26 = .ok (.if_icmp .ne 7, 3) := okd_at mX12_isUnder_0 16 rfl
theorem dX12_isUnder_29 : decode cX12_isUnder 29 = .ok (.iconst 1, 1) := okd_at mX12_isUnder_0 17 rfl
theorem dX12_isUnder_30 : decode cX12_isUnder 30 = .ok (.goto 4, 3) := okd_at mX12_isUnder_0 18 rfl
theorem dX12_isUnder_33 : decode cX12_isUnder 33 = .ok (.iconst 0, 1) := okd_at mX12_isUnder_0 19 rfl
theorem dX12_isUnder_34 : decode cX12_isUnder 34 = .ok (.ireturn, 1) := okd_at mX12_isUnder_0 20 rfl
def lmX12_judge_0 : List (Nat × Instr × Nat) := [(0, .aload_n 0, 1), (1, .iload_n 1, 1), (2, .invokevirtual 253, 3), (5, .istore_n 2, 1), (6, .iload_n 2, 1), (7, .ifCond .ne 11, 3), (10, .aload_n 0, 1), (11, .iload_n 1, 1), (12, .invokevirtual 256, 3), (15, .goto 4, 3), (18, .iload_n 2, 1), (19, .ireturn, 1)]
theorem mX12_judge_0 : okd cX12_judge lmX12_judge_0 = true := by decide +kernel
theorem dX12_judge_0 : decode cX12_judge 0 = .ok (.aload_n 0, 1) := okd_at mX12_judge_0 0 rfl
theorem dX12_judge_1 : decode cX12_judge 1 = .ok (.iload_n 1, 1) := okd_at mX12_judge_0 1 rfl
theorem dX12_judge_2 : decode cX12_judge 2 = .ok (.invokevirtual 253, 3) := okd_at mX12_judge_0 2 rfl
theorem dX12_judge_5 : decode cX12_judge 5 = .ok (.istore_n 2, 1) := okd_at mX12_judge_0 3 rfl
theorem dX12_judge_6 : decode cX12_judge 6 = .ok (.iload_n 2, 1) := okd_at mX12_judge_0 4 rfl
theorem dX12_judge_7 : decode cX12_judge 7 = .ok (.ifCond .ne 11, 3) := okd_at mX12_judge_0 5 rfl
theorem dX12_judge_10 : decode cX12_judge 10 = .ok (.aload_n 0, 1) := okd_at mX12_judge_0 6 rfl
theorem dX12_judge_11 : decode cX12_judge 11 = .ok (.iload_n 1, 1) := okd_at mX12_judge_0 7 rfl
theorem dX12_judge_12 : decode cX12_judge 12 = .ok (.invokevirtual 256, 3) := okd_at mX12_judge_0 8 rfl
theorem dX12_judge_15 : decode cX12_judge 15 = .ok (.goto 4, 3) := okd_at mX12_judge_0 9 rfl
theorem dX12_judge_18 : decode cX12_judge 18 = .ok (.iload_n 2, 1) := okd_at mX12_judge_0 10 rfl
theorem dX12_judge_19 : decode cX12_judge 19 = .ok (.ireturn, 1) := okd_at mX12_judge_0 11 rfl
def lmX12_kinds_0 : List (Nat × Instr × Nat) := [(0, .aload_n 0, 1), (1, .iload_n 1, 1), (2, .invokevirtual 253, 3), (5, .istore 4, 2), (7, .iload 4, 2), (9, .ifCond .eq 6, 3), (12, .iload 4, 2), (14, .ireturn, 1), (15, .aload_n 0, 1), (16, .iload_n 2, 1), (17, .invokevirtual 182, 3), (20, .ifCond .ne 6, 3), (23, .bipush (-6), 2), (25, .ireturn, 1), (26, .iload_n 3, 1), (27, .iconst 0, 1), (28, .iconst 2, 1), (29, .invokestatic 93, 3), (32, .ifCond .ne 6, 3), (35, .bipush (-7), 2), (37, .ireturn, 1), (38, .aload_n 0, 1), (39, .getfield 13, 3), (42, .iload_n 2, 1), (43, .iaload, 1), (44, .istore 5, 2), (46, .aload_n 0, 1), (47, .getfield 16, 3), (50, .iload_n 2, 1), (51, .iaload, 1), (52, .istore 6, 2), (54, .aload_n 0, 1), (55, .getfield 19, 3), (58, .iconst 2, 1), (59, .iload_n 2, 1), (60, .imul, 1), (61, .iconst 1, 1), (62, .iadd, 1), (63, .iaload, 1), (64, .istore 7, 2), (66, .iconst 0, 1), (67, .istore 8, 2), (69, .iconst 0, 1), (70, .istore 9, 2), (72, .iload 9, 2), (74, .iload_n 3, 1), (75, .ifCond .ne 8, 3), (78, .bipush 6, 2), (80, .goto 14, 3), (83, .iload_n 3, 1), (84, .iconst 1, 1), (85, .if_icmp .ne 8, 3), (88, .bipush 10, 2), (90, .goto 4, 3), (93, .iconst 4, 1), (94, .if_icmp .ge 88, 3), (97, .aload_n 0, 1), (98, .getfield 13, 3), (101, .iload_n 2, 1), (102, .iload_n 3, 1)]
theorem mX12_kinds_0 : okd cX12_kinds lmX12_kinds_0 = true := by decide +kernel
theorem dX12_kinds_0 : decode cX12_kinds 0 = .ok (.aload_n 0, 1) := okd_at mX12_kinds_0 0 rfl
theorem dX12_kinds_1 : decode cX12_kinds 1 = .ok (.iload_n 1, 1) := okd_at mX12_kinds_0 1 rfl
theorem dX12_kinds_2 : decode cX12_kinds 2 = .ok (.invokevirtual 253, 3) := okd_at mX12_kinds_0 2 rfl
theorem dX12_kinds_5 : decode cX12_kinds 5 = .ok (.istore 4, 2) := okd_at mX12_kinds_0 3 rfl
theorem dX12_kinds_7 : decode cX12_kinds 7 = .ok (.iload 4, 2) := okd_at mX12_kinds_0 4 rfl
theorem dX12_kinds_9 : decode cX12_kinds 9 = .ok (.ifCond .eq 6, 3) := okd_at mX12_kinds_0 5 rfl
theorem dX12_kinds_12 : decode cX12_kinds 12 = .ok (.iload 4, 2) := okd_at mX12_kinds_0 6 rfl
theorem dX12_kinds_14 : decode cX12_kinds 14 = .ok (.ireturn, 1) := okd_at mX12_kinds_0 7 rfl
theorem dX12_kinds_15 : decode cX12_kinds 15 = .ok (.aload_n 0, 1) := okd_at mX12_kinds_0 8 rfl
theorem dX12_kinds_16 : decode cX12_kinds 16 = .ok (.iload_n 2, 1) := okd_at mX12_kinds_0 9 rfl
theorem dX12_kinds_17 : decode cX12_kinds 17 = .ok (.invokevirtual 182, 3) := okd_at mX12_kinds_0 10 rfl
theorem dX12_kinds_20 : decode cX12_kinds 20 = .ok (.ifCond .ne 6, 3) := okd_at mX12_kinds_0 11 rfl
theorem dX12_kinds_23 : decode cX12_kinds 23 = .ok (.bipush (-6), 2) := okd_at mX12_kinds_0 12 rfl
theorem dX12_kinds_25 : decode cX12_kinds 25 = .ok (.ireturn, 1) := okd_at mX12_kinds_0 13 rfl
theorem dX12_kinds_26 : decode cX12_kinds 26 = .ok (.iload_n 3, 1) := okd_at mX12_kinds_0 14 rfl
theorem dX12_kinds_27 : decode cX12_kinds 27 = .ok (.iconst 0, 1) := okd_at mX12_kinds_0 15 rfl
theorem dX12_kinds_28 : decode cX12_kinds 28 = .ok (.iconst 2, 1) := okd_at mX12_kinds_0 16 rfl
theorem dX12_kinds_29 : decode cX12_kinds 29 = .ok (.invokestatic 93, 3) := okd_at mX12_kinds_0 17 rfl
theorem dX12_kinds_32 : decode cX12_kinds 32 = .ok (.ifCond .ne 6, 3) := okd_at mX12_kinds_0 18 rfl
theorem dX12_kinds_35 : decode cX12_kinds 35 = .ok (.bipush (-7), 2) := okd_at mX12_kinds_0 19 rfl
theorem dX12_kinds_37 : decode cX12_kinds 37 = .ok (.ireturn, 1) := okd_at mX12_kinds_0 20 rfl
theorem dX12_kinds_38 : decode cX12_kinds 38 = .ok (.aload_n 0, 1) := okd_at mX12_kinds_0 21 rfl
theorem dX12_kinds_39 : decode cX12_kinds 39 = .ok (.getfield 13, 3) := okd_at mX12_kinds_0 22 rfl
theorem dX12_kinds_42 : decode cX12_kinds 42 = .ok (.iload_n 2, 1) := okd_at mX12_kinds_0 23 rfl
theorem dX12_kinds_43 : decode cX12_kinds 43 = .ok (.iaload, 1) := okd_at mX12_kinds_0 24 rfl
theorem dX12_kinds_44 : decode cX12_kinds 44 = .ok (.istore 5, 2) := okd_at mX12_kinds_0 25 rfl
theorem dX12_kinds_46 : decode cX12_kinds 46 = .ok (.aload_n 0, 1) := okd_at mX12_kinds_0 26 rfl
theorem dX12_kinds_47 : decode cX12_kinds 47 = .ok (.getfield 16, 3) := okd_at mX12_kinds_0 27 rfl
theorem dX12_kinds_50 : decode cX12_kinds 50 = .ok (.iload_n 2, 1) := okd_at mX12_kinds_0 28 rfl
theorem dX12_kinds_51 : decode cX12_kinds 51 = .ok (.iaload, 1) := okd_at mX12_kinds_0 29 rfl
theorem dX12_kinds_52 : decode cX12_kinds 52 = .ok (.istore 6, 2) := okd_at mX12_kinds_0 30 rfl
theorem dX12_kinds_54 : decode cX12_kinds 54 = .ok (.aload_n 0, 1) := okd_at mX12_kinds_0 31 rfl
theorem dX12_kinds_55 : decode cX12_kinds 55 = .ok (.getfield 19, 3) := okd_at mX12_kinds_0 32 rfl
theorem dX12_kinds_58 : decode cX12_kinds 58 = .ok (.iconst 2, 1) := okd_at mX12_kinds_0 33 rfl
theorem dX12_kinds_59 : decode cX12_kinds 59 = .ok (.iload_n 2, 1) := okd_at mX12_kinds_0 34 rfl
theorem dX12_kinds_60 : decode cX12_kinds 60 = .ok (.imul, 1) := okd_at mX12_kinds_0 35 rfl
theorem dX12_kinds_61 : decode cX12_kinds 61 = .ok (.iconst 1, 1) := okd_at mX12_kinds_0 36 rfl
theorem dX12_kinds_62 : decode cX12_kinds 62 = .ok (.iadd, 1) := okd_at mX12_kinds_0 37 rfl
theorem dX12_kinds_63 : decode cX12_kinds 63 = .ok (.iaload, 1) := okd_at mX12_kinds_0 38 rfl
theorem dX12_kinds_64 : decode cX12_kinds 64 = .ok (.istore 7, 2) := okd_at mX12_kinds_0 39 rfl
theorem dX12_kinds_66 : decode cX12_kinds 66 = .ok (.iconst 0, 1) := okd_at mX12_kinds_0 40 rfl
theorem dX12_kinds_67 : decode cX12_kinds 67 = .ok (.istore 8, 2) := okd_at mX12_kinds_0 41 rfl
theorem dX12_kinds_69 : decode cX12_kinds 69 = .ok (.iconst 0, 1) := okd_at mX12_kinds_0 42 rfl
theorem dX12_kinds_70 : decode cX12_kinds 70 = .ok (.istore 9, 2) := okd_at mX12_kinds_0 43 rfl
theorem dX12_kinds_72 : decode cX12_kinds 72 = .ok (.iload 9, 2) := okd_at mX12_kinds_0 44 rfl
theorem dX12_kinds_74 : decode cX12_kinds 74 = .ok (.iload_n 3, 1) := okd_at mX12_kinds_0 45 rfl
theorem dX12_kinds_75 : decode cX12_kinds 75 = .ok (.ifCond .ne 8, 3) := okd_at mX12_kinds_0 46 rfl
theorem dX12_kinds_78 : decode cX12_kinds 78 = .ok (.bipush 6, 2) := okd_at mX12_kinds_0 47 rfl
theorem dX12_kinds_80 : decode cX12_kinds 80 = .ok (.goto 14, 3) := okd_at mX12_kinds_0 48 rfl
theorem dX12_kinds_83 : decode cX12_kinds 83 = .ok (.iload_n 3, 1) := okd_at mX12_kinds_0 49 rfl
theorem dX12_kinds_84 : decode cX12_kinds 84 = .ok (.iconst 1, 1) := okd_at mX12_kinds_0 50 rfl
theorem dX12_kinds_85 : decode cX12_kinds 85 = .ok (.if_icmp .ne 8, 3) := okd_at mX12_kinds_0 51 rfl
theorem dX12_kinds_88 : decode cX12_kinds 88 = .ok (.bipush 10, 2) := okd_at mX12_kinds_0 52 rfl
theorem dX12_kinds_90 : decode cX12_kinds 90 = .ok (.goto 4, 3) := okd_at mX12_kinds_0 53 rfl
theorem dX12_kinds_93 : decode cX12_kinds 93 = .ok (.iconst 4, 1) := okd_at mX12_kinds_0 54 rfl
theorem dX12_kinds_94 : decode cX12_kinds 94 = .ok (.if_icmp .ge 88, 3) := okd_at mX12_kinds_0 55 rfl
theorem dX12_kinds_97 : decode cX12_kinds 97 = .ok (.aload_n 0, 1) := okd_at mX12_kinds_0 56 rfl
theorem dX12_kinds_98 : decode cX12_kinds 98 = .ok (.getfield 13, 3) := okd_at mX12_kinds_0 57 rfl
theorem dX12_kinds_101 : decode cX12_kinds 101 = .ok (.iload_n 2, 1) := okd_at mX12_kinds_0 58 rfl
theorem dX12_kinds_102 : decode cX12_kinds 102 = .ok (.iload_n 3, 1) := okd_at mX12_kinds_0 59 rfl
def lmX12_kinds_1 : List (Nat × Instr × Nat) := [(103, .ifCond .ne 8, 3), (106, .iload 9, 2), (108, .goto 5, 3), (111, .iload 5, 2), (113, .iastore, 1), (114, .aload_n 0, 1), (115, .getfield 16, 3), (118, .iload_n 2, 1), (119, .iload_n 3, 1), (120, .iconst 1, 1), (121, .if_icmp .ne 8, 3), (124, .iload 9, 2), (126, .goto 5, 3), (129, .iload 6, 2), (131, .iastore, 1), (132, .aload_n 0, 1), (133, .getfield 19, 3), (136, .iconst 2, 1), (137, .iload_n 2, 1), (138, .imul, 1), (139, .iconst 1, 1), (140, .iadd, 1), (141, .iload_n 3, 1), (142, .iconst 2, 1), (143, .if_icmp .ne 8, 3), (146, .iload 9, 2), (148, .goto 5, 3), (151, .iload 7, 2), (153, .iastore, 1), (154, .iload 8, 2), (156, .aload_n 0, 1), (157, .iload_n 1, 1), (158, .invokevirtual 256, 3), (161, .iconst (-1), 1), (162, .if_icmp .ne 10, 3), (165, .iconst 1, 1), (166, .iload 9, 2), (168, .ishl, 1), (169, .goto 4, 3), (172, .iconst 0, 1), (173, .ior, 1), (174, .istore 8, 2), (176, .iinc 9 1, 3), (179, .goto (-107), 3), (182, .aload_n 0, 1), (183, .getfield 13, 3), (186, .iload_n 2, 1), (187, .iload 5, 2), (189, .iastore, 1), (190, .aload_n 0, 1), (191, .getfield 16, 3), (194, .iload_n 2, 1), (195, .iload 6, 2), (197, .iastore, 1), (198, .aload_n 0, 1), (199, .getfield 19, 3), (202, .iconst 2, 1), (203, .iload_n 2, 1), (204, .imul, 1), (205, .iconst 1, 1)]
theorem mX12_kinds_1 : okd cX12_kinds lmX12_kinds_1 = true := by decide +kernel
theorem dX12_kinds_103 : decode cX12_kinds 103 = .ok (.ifCond .ne 8, 3) := okd_at mX12_kinds_1 0 rfl
theorem dX12_kinds_106 : decode cX12_kinds 106 = .ok (.iload 9, 2) := okd_at mX12_kinds_1 1 rfl
theorem dX12_kinds_108 : decode cX12_kinds 108 = .ok (.goto 5, 3) := okd_at mX12_kinds_1 2 rfl
theorem dX12_kinds_111 : decode cX12_kinds 111 = .ok (.iload 5, 2) := okd_at mX12_kinds_1 3 rfl
theorem dX12_kinds_113 : decode cX12_kinds 113 = .ok (.iastore, 1) := okd_at mX12_kinds_1 4 rfl
theorem dX12_kinds_114 : decode cX12_kinds 114 = .ok (.aload_n 0, 1) := okd_at mX12_kinds_1 5 rfl
theorem dX12_kinds_115 : decode cX12_kinds 115 = .ok (.getfield 16, 3) := okd_at mX12_kinds_1 6 rfl
theorem dX12_kinds_118 : decode cX12_kinds 118 = .ok (.iload_n 2, 1) := okd_at mX12_kinds_1 7 rfl
theorem dX12_kinds_119 : decode cX12_kinds 119 = .ok (.iload_n 3, 1) := okd_at mX12_kinds_1 8 rfl
theorem dX12_kinds_120 : decode cX12_kinds 120 = .ok (.iconst 1, 1) := okd_at mX12_kinds_1 9 rfl
theorem dX12_kinds_121 : decode cX12_kinds 121 = .ok (.if_icmp .ne 8, 3) := okd_at mX12_kinds_1 10 rfl
theorem dX12_kinds_124 : decode cX12_kinds 124 = .ok (.iload 9, 2) := okd_at mX12_kinds_1 11 rfl
theorem dX12_kinds_126 : decode cX12_kinds 126 = .ok (.goto 5, 3) := okd_at mX12_kinds_1 12 rfl
theorem dX12_kinds_129 : decode cX12_kinds 129 = .ok (.iload 6, 2) := okd_at mX12_kinds_1 13 rfl
theorem dX12_kinds_131 : decode cX12_kinds 131 = .ok (.iastore, 1) := okd_at mX12_kinds_1 14 rfl
theorem dX12_kinds_132 : decode cX12_kinds 132 = .ok (.aload_n 0, 1) := okd_at mX12_kinds_1 15 rfl
theorem dX12_kinds_133 : decode cX12_kinds 133 = .ok (.getfield 19, 3) := okd_at mX12_kinds_1 16 rfl
theorem dX12_kinds_136 : decode cX12_kinds 136 = .ok (.iconst 2, 1) := okd_at mX12_kinds_1 17 rfl
theorem dX12_kinds_137 : decode cX12_kinds 137 = .ok (.iload_n 2, 1) := okd_at mX12_kinds_1 18 rfl
theorem dX12_kinds_138 : decode cX12_kinds 138 = .ok (.imul, 1) := okd_at mX12_kinds_1 19 rfl
theorem dX12_kinds_139 : decode cX12_kinds 139 = .ok (.iconst 1, 1) := okd_at mX12_kinds_1 20 rfl
theorem dX12_kinds_140 : decode cX12_kinds 140 = .ok (.iadd, 1) := okd_at mX12_kinds_1 21 rfl
theorem dX12_kinds_141 : decode cX12_kinds 141 = .ok (.iload_n 3, 1) := okd_at mX12_kinds_1 22 rfl
theorem dX12_kinds_142 : decode cX12_kinds 142 = .ok (.iconst 2, 1) := okd_at mX12_kinds_1 23 rfl
theorem dX12_kinds_143 : decode cX12_kinds 143 = .ok (.if_icmp .ne 8, 3) := okd_at mX12_kinds_1 24 rfl
theorem dX12_kinds_146 : decode cX12_kinds 146 = .ok (.iload 9, 2) := okd_at mX12_kinds_1 25 rfl
theorem dX12_kinds_148 : decode cX12_kinds 148 = .ok (.goto 5, 3) := okd_at mX12_kinds_1 26 rfl
theorem dX12_kinds_151 : decode cX12_kinds 151 = .ok (.iload 7, 2) := okd_at mX12_kinds_1 27 rfl
theorem dX12_kinds_153 : decode cX12_kinds 153 = .ok (.iastore, 1) := okd_at mX12_kinds_1 28 rfl
theorem dX12_kinds_154 : decode cX12_kinds 154 = .ok (.iload 8, 2) := okd_at mX12_kinds_1 29 rfl
theorem dX12_kinds_156 : decode cX12_kinds 156 = .ok (.aload_n 0, 1) := okd_at mX12_kinds_1 30 rfl
theorem dX12_kinds_157 : decode cX12_kinds 157 = .ok (.iload_n 1, 1) := okd_at mX12_kinds_1 31 rfl
theorem dX12_kinds_158 : decode cX12_kinds 158 = .ok (.invokevirtual 256, 3) := okd_at mX12_kinds_1 32 rfl
theorem dX12_kinds_161 : decode cX12_kinds 161 = .ok (.iconst (-1), 1) := okd_at mX12_kinds_1 33 rfl
theorem dX12_kinds_162 : decode cX12_kinds 162 = .ok (.if_icmp .ne 10, 3) := okd_at mX12_kinds_1 34 rfl
theorem dX12_kinds_165 : decode cX12_kinds 165 = .ok (.iconst 1, 1) := okd_at mX12_kinds_1 35 rfl
theorem dX12_kinds_166 : decode cX12_kinds 166 = .ok (.iload 9, 2) := okd_at mX12_kinds_1 36 rfl
theorem dX12_kinds_168 : decode cX12_kinds 168 = .ok (.ishl, 1) := okd_at mX12_kinds_1 37 rfl
theorem dX12_kinds_169 : decode cX12_kinds 169 = .ok (.goto 4, 3) := okd_at mX12_kinds_1 38 rfl
theorem dX12_kinds_172 : decode cX12_kinds 172 = .ok (.iconst 0, 1) := okd_at mX12_kinds_1 39 rfl
theorem dX12_kinds_173 : decode cX12_kinds 173 = .ok (.ior, 1) := okd_at mX12_kinds_1 40 rfl
theorem dX12_kinds_174 : decode cX12_kinds 174 = .ok (.istore 8, 2) := okd_at mX12_kinds_1 41 rfl
theorem dX12_kinds_176 : decode cX12_kinds 176 = .ok (.iinc 9 1, 3) := okd_at mX12_kinds_1 42 rfl
theorem dX12_kinds_179 : decode cX12_kinds 179 = .ok (.goto (-107), 3) := okd_at mX12_kinds_1 43 rfl
theorem dX12_kinds_182 : decode cX12_kinds 182 = .ok (.aload_n 0, 1) := okd_at mX12_kinds_1 44 rfl
theorem dX12_kinds_183 : decode cX12_kinds 183 = .ok (.getfield 13, 3) := okd_at mX12_kinds_1 45 rfl
theorem dX12_kinds_186 : decode cX12_kinds 186 = .ok (.iload_n 2, 1) := okd_at mX12_kinds_1 46 rfl
theorem dX12_kinds_187 : decode cX12_kinds 187 = .ok (.iload 5, 2) := okd_at mX12_kinds_1 47 rfl
theorem dX12_kinds_189 : decode cX12_kinds 189 = .ok (.iastore, 1) := okd_at mX12_kinds_1 48 rfl
theorem dX12_kinds_190 : decode cX12_kinds 190 = .ok (.aload_n 0, 1) := okd_at mX12_kinds_1 49 rfl
theorem dX12_kinds_191 : decode cX12_kinds 191 = .ok (.getfield 16, 3) := okd_at mX12_kinds_1 50 rfl
theorem dX12_kinds_194 : decode cX12_kinds 194 = .ok (.iload_n 2, 1) := okd_at mX12_kinds_1 51 rfl
theorem dX12_kinds_195 : decode cX12_kinds 195 = .ok (.iload 6, 2) := okd_at mX12_kinds_1 52 rfl
theorem dX12_kinds_197 : decode cX12_kinds 197 = .ok (.iastore, 1) := okd_at mX12_kinds_1 53 rfl
theorem dX12_kinds_198 : decode cX12_kinds 198 = .ok (.aload_n 0, 1) := okd_at mX12_kinds_1 54 rfl
theorem dX12_kinds_199 : decode cX12_kinds 199 = .ok (.getfield 19, 3) := okd_at mX12_kinds_1 55 rfl
theorem dX12_kinds_202 : decode cX12_kinds 202 = .ok (.iconst 2, 1) := okd_at mX12_kinds_1 56 rfl
theorem dX12_kinds_203 : decode cX12_kinds 203 = .ok (.iload_n 2, 1) := okd_at mX12_kinds_1 57 rfl
theorem dX12_kinds_204 : decode cX12_kinds 204 = .ok (.imul, 1) := okd_at mX12_kinds_1 58 rfl
theorem dX12_kinds_205 : decode cX12_kinds 205 = .ok (.iconst 1, 1) := okd_at mX12_kinds_1 59 rfl
def lmX12_kinds_2 : List (Nat × Instr × Nat) := [(206, .iadd, 1), (207, .iload 7, 2), (209, .iastore, 1), (210, .iload 8, 2), (212, .ireturn, 1)]
theorem mX12_kinds_2 : okd cX12_kinds lmX12_kinds_2 = true := by decide +kernel
theorem dX12_kinds_206 : decode cX12_kinds 206 = .ok (.iadd, 1) := okd_at mX12_kinds_2 0 rfl
theorem dX12_kinds_207 : decode cX12_kinds 207 = .ok (.iload 7, 2) := okd_at mX12_kinds_2 1 rfl
theorem dX12_kinds_209 : decode cX12_kinds 209 = .ok (.iastore, 1) := okd_at mX12_kinds_2 2 rfl
theorem dX12_kinds_210 : decode cX12_kinds 210 = .ok (.iload 8, 2) := okd_at mX12_kinds_2 3 rfl
theorem dX12_kinds_212 : decode cX12_kinds 212 = .ok (.ireturn, 1) := okd_at mX12_kinds_2 4 rfl
def lmX12_laws_0 : List (Nat × Instr × Nat) := [(0, .aload_n 0, 1), (1, .iload_n 1, 1), (2, .invokevirtual 253, 3), (5, .istore_n 2, 1), (6, .iload_n 2, 1), (7, .ifCond .eq 5, 3), (10, .iload_n 2, 1), (11, .ireturn, 1), (12, .aload_n 0, 1), (13, .getfield 103, 3), (16, .istore_n 3, 1), (17, .iconst 0, 1), (18, .istore 4, 2), (20, .iconst 0, 1), (21, .istore 5, 2), (23, .iload 5, 2), (25, .aload_n 0, 1), (26, .getfield 100, 3), (29, .if_icmp .ge 37, 3), (32, .aload_n 0, 1), (33, .iload 5, 2), (35, .putfield 103, 3), (38, .iload 4, 2), (40, .aload_n 0, 1), (41, .iload_n 1, 1), (42, .invokevirtual 256, 3), (45, .iconst (-1), 1), (46, .if_icmp .ne 10, 3), (49, .iconst 1, 1), (50, .iload 5, 2), (52, .ishl, 1), (53, .goto 4, 3), (56, .iconst 0, 1), (57, .ior, 1), (58, .istore 4, 2), (60, .iinc 5 1, 3), (63, .goto (-40), 3), (66, .aload_n 0, 1), (67, .iload_n 3, 1), (68, .putfield 103, 3), (71, .iload 4, 2), (73, .ireturn, 1)]
theorem mX12_laws_0 : okd cX12_laws lmX12_laws_0 = true := by decide +kernel
theorem dX12_laws_0 : decode cX12_laws 0 = .ok (.aload_n 0, 1) := okd_at mX12_laws_0 0 rfl
theorem dX12_laws_1 : decode cX12_laws 1 = .ok (.iload_n 1, 1) := okd_at mX12_laws_0 1 rfl
theorem dX12_laws_2 : decode cX12_laws 2 = .ok (.invokevirtual 253, 3) := okd_at mX12_laws_0 2 rfl
theorem dX12_laws_5 : decode cX12_laws 5 = .ok (.istore_n 2, 1) := okd_at mX12_laws_0 3 rfl
theorem dX12_laws_6 : decode cX12_laws 6 = .ok (.iload_n 2, 1) := okd_at mX12_laws_0 4 rfl
theorem dX12_laws_7 : decode cX12_laws 7 = .ok (.ifCond .eq 5, 3) := okd_at mX12_laws_0 5 rfl
theorem dX12_laws_10 : decode cX12_laws 10 = .ok (.iload_n 2, 1) := okd_at mX12_laws_0 6 rfl
theorem dX12_laws_11 : decode cX12_laws 11 = .ok (.ireturn, 1) := okd_at mX12_laws_0 7 rfl
theorem dX12_laws_12 : decode cX12_laws 12 = .ok (.aload_n 0, 1) := okd_at mX12_laws_0 8 rfl
theorem dX12_laws_13 : decode cX12_laws 13 = .ok (.getfield 103, 3) := okd_at mX12_laws_0 9 rfl
theorem dX12_laws_16 : decode cX12_laws 16 = .ok (.istore_n 3, 1) := okd_at mX12_laws_0 10 rfl
theorem dX12_laws_17 : decode cX12_laws 17 = .ok (.iconst 0, 1) := okd_at mX12_laws_0 11 rfl
theorem dX12_laws_18 : decode cX12_laws 18 = .ok (.istore 4, 2) := okd_at mX12_laws_0 12 rfl
theorem dX12_laws_20 : decode cX12_laws 20 = .ok (.iconst 0, 1) := okd_at mX12_laws_0 13 rfl
theorem dX12_laws_21 : decode cX12_laws 21 = .ok (.istore 5, 2) := okd_at mX12_laws_0 14 rfl
theorem dX12_laws_23 : decode cX12_laws 23 = .ok (.iload 5, 2) := okd_at mX12_laws_0 15 rfl
theorem dX12_laws_25 : decode cX12_laws 25 = .ok (.aload_n 0, 1) := okd_at mX12_laws_0 16 rfl
theorem dX12_laws_26 : decode cX12_laws 26 = .ok (.getfield 100, 3) := okd_at mX12_laws_0 17 rfl
theorem dX12_laws_29 : decode cX12_laws 29 = .ok (.if_icmp .ge 37, 3) := okd_at mX12_laws_0 18 rfl
theorem dX12_laws_32 : decode cX12_laws 32 = .ok (.aload_n 0, 1) := okd_at mX12_laws_0 19 rfl
theorem dX12_laws_33 : decode cX12_laws 33 = .ok (.iload 5, 2) := okd_at mX12_laws_0 20 rfl
theorem dX12_laws_35 : decode cX12_laws 35 = .ok (.putfield 103, 3) := okd_at mX12_laws_0 21 rfl
theorem dX12_laws_38 : decode cX12_laws 38 = .ok (.iload 4, 2) := okd_at mX12_laws_0 22 rfl
theorem dX12_laws_40 : decode cX12_laws 40 = .ok (.aload_n 0, 1) := okd_at mX12_laws_0 23 rfl
theorem dX12_laws_41 : decode cX12_laws 41 = .ok (.iload_n 1, 1) := okd_at mX12_laws_0 24 rfl
theorem dX12_laws_42 : decode cX12_laws 42 = .ok (.invokevirtual 256, 3) := okd_at mX12_laws_0 25 rfl
theorem dX12_laws_45 : decode cX12_laws 45 = .ok (.iconst (-1), 1) := okd_at mX12_laws_0 26 rfl
theorem dX12_laws_46 : decode cX12_laws 46 = .ok (.if_icmp .ne 10, 3) := okd_at mX12_laws_0 27 rfl
theorem dX12_laws_49 : decode cX12_laws 49 = .ok (.iconst 1, 1) := okd_at mX12_laws_0 28 rfl
theorem dX12_laws_50 : decode cX12_laws 50 = .ok (.iload 5, 2) := okd_at mX12_laws_0 29 rfl
theorem dX12_laws_52 : decode cX12_laws 52 = .ok (.ishl, 1) := okd_at mX12_laws_0 30 rfl
theorem dX12_laws_53 : decode cX12_laws 53 = .ok (.goto 4, 3) := okd_at mX12_laws_0 31 rfl
theorem dX12_laws_56 : decode cX12_laws 56 = .ok (.iconst 0, 1) := okd_at mX12_laws_0 32 rfl
theorem dX12_laws_57 : decode cX12_laws 57 = .ok (.ior, 1) := okd_at mX12_laws_0 33 rfl
theorem dX12_laws_58 : decode cX12_laws 58 = .ok (.istore 4, 2) := okd_at mX12_laws_0 34 rfl
theorem dX12_laws_60 : decode cX12_laws 60 = .ok (.iinc 5 1, 3) := okd_at mX12_laws_0 35 rfl
theorem dX12_laws_63 : decode cX12_laws 63 = .ok (.goto (-40), 3) := okd_at mX12_laws_0 36 rfl
theorem dX12_laws_66 : decode cX12_laws 66 = .ok (.aload_n 0, 1) := okd_at mX12_laws_0 37 rfl
theorem dX12_laws_67 : decode cX12_laws 67 = .ok (.iload_n 3, 1) := okd_at mX12_laws_0 38 rfl
theorem dX12_laws_68 : decode cX12_laws 68 = .ok (.putfield 103, 3) := okd_at mX12_laws_0 39 rfl
theorem dX12_laws_71 : decode cX12_laws 71 = .ok (.iload 4, 2) := okd_at mX12_laws_0 40 rfl
theorem dX12_laws_73 : decode cX12_laws 73 = .ok (.ireturn, 1) := okd_at mX12_laws_0 41 rfl
def lmX12_let_0 : List (Nat × Instr × Nat) := [(0, .iload_n 1, 1), (1, .iconst 0, 1), (2, .iconst 2, 1), (3, .invokestatic 93, 3), (6, .ifCond .ne 7, 3), (9, .sipush (-1000), 3), (12, .ireturn, 1), (13, .aload_n 0, 1), (14, .iconst 1, 1), (15, .invokevirtual 240, 3), (18, .aload_n 0, 1), (19, .iload_n 1, 1), (20, .invokevirtual 244, 3), (23, .ireturn, 1)]
theorem mX12_let_0 : okd cX12_let lmX12_let_0 = true := by decide +kernel
theorem dX12_let_0 : decode cX12_let 0 = .ok (.iload_n 1, 1) := okd_at mX12_let_0 0 rfl
theorem dX12_let_1 : decode cX12_let 1 = .ok (.iconst 0, 1) := okd_at mX12_let_0 1 rfl
theorem dX12_let_2 : decode cX12_let 2 = .ok (.iconst 2, 1) := okd_at mX12_let_0 2 rfl
theorem dX12_let_3 : decode cX12_let 3 = .ok (.invokestatic 93, 3) := okd_at mX12_let_0 3 rfl
theorem dX12_let_6 : decode cX12_let 6 = .ok (.ifCond .ne 7, 3) := okd_at mX12_let_0 4 rfl
theorem dX12_let_9 : decode cX12_let 9 = .ok (.sipush (-1000), 3) := okd_at mX12_let_0 5 rfl
theorem dX12_let_12 : decode cX12_let 12 = .ok (.ireturn, 1) := okd_at mX12_let_0 6 rfl
theorem dX12_let_13 : decode cX12_let 13 = .ok (.aload_n 0, 1) := okd_at mX12_let_0 7 rfl
theorem dX12_let_14 : decode cX12_let 14 = .ok (.iconst 1, 1) := okd_at mX12_let_0 8 rfl
theorem dX12_let_15 : decode cX12_let 15 = .ok (.invokevirtual 240, 3) := okd_at mX12_let_0 9 rfl
theorem dX12_let_18 : decode cX12_let 18 = .ok (.aload_n 0, 1) := okd_at mX12_let_0 10 rfl
theorem dX12_let_19 : decode cX12_let 19 = .ok (.iload_n 1, 1) := okd_at mX12_let_0 11 rfl
theorem dX12_let_20 : decode cX12_let 20 = .ok (.invokevirtual 244, 3) := okd_at mX12_let_0 12 rfl
theorem dX12_let_23 : decode cX12_let 23 = .ok (.ireturn, 1) := okd_at mX12_let_0 13 rfl
def lmX12_lowest_0 : List (Nat × Instr × Nat) := [(0, .lload_n 0, 1), (1, .lconst 0, 1), (2, .lcmp, 1), (3, .ifCond .ne 7, 3), (6, .iload 4, 2), (8, .i2l, 1), (9, .lreturn, 1), (10, .lload_n 0, 1), (11, .lstore 5, 2), (13, .lload_n 2, 1), (14, .lstore 7, 2), (16, .lload 7, 2), (18, .lconst 0, 1), (19, .lcmp, 1), (20, .ifCond .eq 21, 3), (23, .lload 5, 2), (25, .lload 7, 2), (27, .lrem, 1), (28, .lstore 9, 2), (30, .lload 7, 2), (32, .lstore 5, 2), (34, .lload 9, 2), (36, .lstore 7, 2), (38, .goto (-22), 3), (41, .iload 4, 2), (43, .ifCond .ne 7, 3), (46, .lload_n 0, 1), (47, .goto 4, 3), (50, .lload_n 2, 1), (51, .lload 5, 2), (53, .ldiv, 1), (54, .lreturn, 1)]
theorem mX12_lowest_0 : okd cX12_lowest lmX12_lowest_0 = true := by decide +kernel
theorem dX12_lowest_0 : decode cX12_lowest 0 = .ok (.lload_n 0, 1) := okd_at mX12_lowest_0 0 rfl
theorem dX12_lowest_1 : decode cX12_lowest 1 = .ok (.lconst 0, 1) := okd_at mX12_lowest_0 1 rfl
theorem dX12_lowest_2 : decode cX12_lowest 2 = .ok (.lcmp, 1) := okd_at mX12_lowest_0 2 rfl
theorem dX12_lowest_3 : decode cX12_lowest 3 = .ok (.ifCond .ne 7, 3) := okd_at mX12_lowest_0 3 rfl
theorem dX12_lowest_6 : decode cX12_lowest 6 = .ok (.iload 4, 2) := okd_at mX12_lowest_0 4 rfl
theorem dX12_lowest_8 : decode cX12_lowest 8 = .ok (.i2l, 1) := okd_at mX12_lowest_0 5 rfl
theorem dX12_lowest_9 : decode cX12_lowest 9 = .ok (.lreturn, 1) := okd_at mX12_lowest_0 6 rfl
theorem dX12_lowest_10 : decode cX12_lowest 10 = .ok (.lload_n 0, 1) := okd_at mX12_lowest_0 7 rfl
theorem dX12_lowest_11 : decode cX12_lowest 11 = .ok (.lstore 5, 2) := okd_at mX12_lowest_0 8 rfl
theorem dX12_lowest_13 : decode cX12_lowest 13 = .ok (.lload_n 2, 1) := okd_at mX12_lowest_0 9 rfl
theorem dX12_lowest_14 : decode cX12_lowest 14 = .ok (.lstore 7, 2) := okd_at mX12_lowest_0 10 rfl
theorem dX12_lowest_16 : decode cX12_lowest 16 = .ok (.lload 7, 2) := okd_at mX12_lowest_0 11 rfl
theorem dX12_lowest_18 : decode cX12_lowest 18 = .ok (.lconst 0, 1) := okd_at mX12_lowest_0 12 rfl
theorem dX12_lowest_19 : decode cX12_lowest 19 = .ok (.lcmp, 1) := okd_at mX12_lowest_0 13 rfl
theorem dX12_lowest_20 : decode cX12_lowest 20 = .ok (.ifCond .eq 21, 3) := okd_at mX12_lowest_0 14 rfl
theorem dX12_lowest_23 : decode cX12_lowest 23 = .ok (.lload 5, 2) := okd_at mX12_lowest_0 15 rfl
theorem dX12_lowest_25 : decode cX12_lowest 25 = .ok (.lload 7, 2) := okd_at mX12_lowest_0 16 rfl
theorem dX12_lowest_27 : decode cX12_lowest 27 = .ok (.lrem, 1) := okd_at mX12_lowest_0 17 rfl
theorem dX12_lowest_28 : decode cX12_lowest 28 = .ok (.lstore 9, 2) := okd_at mX12_lowest_0 18 rfl
theorem dX12_lowest_30 : decode cX12_lowest 30 = .ok (.lload 7, 2) := okd_at mX12_lowest_0 19 rfl
theorem dX12_lowest_32 : decode cX12_lowest 32 = .ok (.lstore 5, 2) := okd_at mX12_lowest_0 20 rfl
theorem dX12_lowest_34 : decode cX12_lowest 34 = .ok (.lload 9, 2) := okd_at mX12_lowest_0 21 rfl
theorem dX12_lowest_36 : decode cX12_lowest 36 = .ok (.lstore 7, 2) := okd_at mX12_lowest_0 22 rfl
theorem dX12_lowest_38 : decode cX12_lowest 38 = .ok (.goto (-22), 3) := okd_at mX12_lowest_0 23 rfl
theorem dX12_lowest_41 : decode cX12_lowest 41 = .ok (.iload 4, 2) := okd_at mX12_lowest_0 24 rfl
theorem dX12_lowest_43 : decode cX12_lowest 43 = .ok (.ifCond .ne 7, 3) := okd_at mX12_lowest_0 25 rfl
theorem dX12_lowest_46 : decode cX12_lowest 46 = .ok (.lload_n 0, 1) := okd_at mX12_lowest_0 26 rfl
theorem dX12_lowest_47 : decode cX12_lowest 47 = .ok (.goto 4, 3) := okd_at mX12_lowest_0 27 rfl
theorem dX12_lowest_50 : decode cX12_lowest 50 = .ok (.lload_n 2, 1) := okd_at mX12_lowest_0 28 rfl
theorem dX12_lowest_51 : decode cX12_lowest 51 = .ok (.lload 5, 2) := okd_at mX12_lowest_0 29 rfl
theorem dX12_lowest_53 : decode cX12_lowest 53 = .ok (.ldiv, 1) := okd_at mX12_lowest_0 30 rfl
theorem dX12_lowest_54 : decode cX12_lowest 54 = .ok (.lreturn, 1) := okd_at mX12_lowest_0 31 rfl
def lmX12_needs_0 : List (Nat × Instr × Nat) := [(0, .aload_n 0, 1), (1, .iload_n 1, 1), (2, .invokevirtual 106, 3), (5, .ifCond .ne 6, 3), (8, .bipush (-5), 2), (10, .ireturn, 1), (11, .iload_n 2, 1), (12, .iconst 0, 1), (13, .bipush 6, 2), (15, .invokestatic 93, 3), (18, .ifCond .ne 6, 3), (21, .bipush (-7), 2), (23, .ireturn, 1), (24, .aload_n 0, 1), (25, .getfield 7, 3), (28, .iconst 3, 1), (29, .iload_n 1, 1), (30, .imul, 1), (31, .iconst 2, 1), (32, .iadd, 1), (33, .iaload, 1), (34, .istore_n 3, 1), (35, .iconst (-1), 1), (36, .istore 4, 2), (38, .iconst 0, 1), (39, .istore 5, 2), (41, .iload 5, 2), (43, .bipush 99, 2), (45, .if_icmp .gt 49, 3), (48, .iload 4, 2), (50, .iconst (-1), 1), (51, .if_icmp .ne 43, 3), (54, .aload_n 0, 1), (55, .getfield 7, 3), (58, .iconst 3, 1), (59, .iload_n 1, 1), (60, .imul, 1), (61, .iconst 2, 1), (62, .iadd, 1), (63, .iload 5, 2), (65, .iastore, 1), (66, .aload_n 0, 1), (67, .invokevirtual 219, 3), (70, .aload_n 0, 1), (71, .getfield 61, 3), (74, .iload_n 1, 1), (75, .iaload, 1), (76, .iload_n 2, 1), (77, .if_icmp .lt 8, 3), (80, .iload 5, 2), (82, .goto 4, 3), (85, .iconst (-1), 1), (86, .istore 4, 2), (88, .iinc 5 1, 3), (91, .goto (-50), 3), (94, .aload_n 0, 1), (95, .getfield 7, 3), (98, .iconst 3, 1), (99, .iload_n 1, 1), (100, .imul, 1)]
theorem mX12_needs_0 : okd cX12_needs lmX12_needs_0 = true := by decide +kernel
theorem dX12_needs_0 : decode cX12_needs 0 = .ok (.aload_n 0, 1) := okd_at mX12_needs_0 0 rfl
theorem dX12_needs_1 : decode cX12_needs 1 = .ok (.iload_n 1, 1) := okd_at mX12_needs_0 1 rfl
theorem dX12_needs_2 : decode cX12_needs 2 = .ok (.invokevirtual 106, 3) := okd_at mX12_needs_0 2 rfl
theorem dX12_needs_5 : decode cX12_needs 5 = .ok (.ifCond .ne 6, 3) := okd_at mX12_needs_0 3 rfl
theorem dX12_needs_8 : decode cX12_needs 8 = .ok (.bipush (-5), 2) := okd_at mX12_needs_0 4 rfl
theorem dX12_needs_10 : decode cX12_needs 10 = .ok (.ireturn, 1) := okd_at mX12_needs_0 5 rfl
theorem dX12_needs_11 : decode cX12_needs 11 = .ok (.iload_n 2, 1) := okd_at mX12_needs_0 6 rfl
theorem dX12_needs_12 : decode cX12_needs 12 = .ok (.iconst 0, 1) := okd_at mX12_needs_0 7 rfl
theorem dX12_needs_13 : decode cX12_needs 13 = .ok (.bipush 6, 2) := okd_at mX12_needs_0 8 rfl
theorem dX12_needs_15 : decode cX12_needs 15 = .ok (.invokestatic 93, 3) := okd_at mX12_needs_0 9 rfl
theorem dX12_needs_18 : decode cX12_needs 18 = .ok (.ifCond .ne 6, 3) := okd_at mX12_needs_0 10 rfl
theorem dX12_needs_21 : decode cX12_needs 21 = .ok (.bipush (-7), 2) := okd_at mX12_needs_0 11 rfl
theorem dX12_needs_23 : decode cX12_needs 23 = .ok (.ireturn, 1) := okd_at mX12_needs_0 12 rfl
theorem dX12_needs_24 : decode cX12_needs 24 = .ok (.aload_n 0, 1) := okd_at mX12_needs_0 13 rfl
theorem dX12_needs_25 : decode cX12_needs 25 = .ok (.getfield 7, 3) := okd_at mX12_needs_0 14 rfl
theorem dX12_needs_28 : decode cX12_needs 28 = .ok (.iconst 3, 1) := okd_at mX12_needs_0 15 rfl
theorem dX12_needs_29 : decode cX12_needs 29 = .ok (.iload_n 1, 1) := okd_at mX12_needs_0 16 rfl
theorem dX12_needs_30 : decode cX12_needs 30 = .ok (.imul, 1) := okd_at mX12_needs_0 17 rfl
theorem dX12_needs_31 : decode cX12_needs 31 = .ok (.iconst 2, 1) := okd_at mX12_needs_0 18 rfl
theorem dX12_needs_32 : decode cX12_needs 32 = .ok (.iadd, 1) := okd_at mX12_needs_0 19 rfl
theorem dX12_needs_33 : decode cX12_needs 33 = .ok (.iaload, 1) := okd_at mX12_needs_0 20 rfl
theorem dX12_needs_34 : decode cX12_needs 34 = .ok (.istore_n 3, 1) := okd_at mX12_needs_0 21 rfl
theorem dX12_needs_35 : decode cX12_needs 35 = .ok (.iconst (-1), 1) := okd_at mX12_needs_0 22 rfl
theorem dX12_needs_36 : decode cX12_needs 36 = .ok (.istore 4, 2) := okd_at mX12_needs_0 23 rfl
theorem dX12_needs_38 : decode cX12_needs 38 = .ok (.iconst 0, 1) := okd_at mX12_needs_0 24 rfl
theorem dX12_needs_39 : decode cX12_needs 39 = .ok (.istore 5, 2) := okd_at mX12_needs_0 25 rfl
theorem dX12_needs_41 : decode cX12_needs 41 = .ok (.iload 5, 2) := okd_at mX12_needs_0 26 rfl
theorem dX12_needs_43 : decode cX12_needs 43 = .ok (.bipush 99, 2) := okd_at mX12_needs_0 27 rfl
theorem dX12_needs_45 : decode cX12_needs 45 = .ok (.if_icmp .gt 49, 3) := okd_at mX12_needs_0 28 rfl
theorem dX12_needs_48 : decode cX12_needs 48 = .ok (.iload 4, 2) := okd_at mX12_needs_0 29 rfl
theorem dX12_needs_50 : decode cX12_needs 50 = .ok (.iconst (-1), 1) := okd_at mX12_needs_0 30 rfl
theorem dX12_needs_51 : decode cX12_needs 51 = .ok (.if_icmp .ne 43, 3) := okd_at mX12_needs_0 31 rfl
theorem dX12_needs_54 : decode cX12_needs 54 = .ok (.aload_n 0, 1) := okd_at mX12_needs_0 32 rfl
theorem dX12_needs_55 : decode cX12_needs 55 = .ok (.getfield 7, 3) := okd_at mX12_needs_0 33 rfl
theorem dX12_needs_58 : decode cX12_needs 58 = .ok (.iconst 3, 1) := okd_at mX12_needs_0 34 rfl
theorem dX12_needs_59 : decode cX12_needs 59 = .ok (.iload_n 1, 1) := okd_at mX12_needs_0 35 rfl
theorem dX12_needs_60 : decode cX12_needs 60 = .ok (.imul, 1) := okd_at mX12_needs_0 36 rfl
theorem dX12_needs_61 : decode cX12_needs 61 = .ok (.iconst 2, 1) := okd_at mX12_needs_0 37 rfl
theorem dX12_needs_62 : decode cX12_needs 62 = .ok (.iadd, 1) := okd_at mX12_needs_0 38 rfl
theorem dX12_needs_63 : decode cX12_needs 63 = .ok (.iload 5, 2) := okd_at mX12_needs_0 39 rfl
theorem dX12_needs_65 : decode cX12_needs 65 = .ok (.iastore, 1) := okd_at mX12_needs_0 40 rfl
theorem dX12_needs_66 : decode cX12_needs 66 = .ok (.aload_n 0, 1) := okd_at mX12_needs_0 41 rfl
theorem dX12_needs_67 : decode cX12_needs 67 = .ok (.invokevirtual 219, 3) := okd_at mX12_needs_0 42 rfl
theorem dX12_needs_70 : decode cX12_needs 70 = .ok (.aload_n 0, 1) := okd_at mX12_needs_0 43 rfl
theorem dX12_needs_71 : decode cX12_needs 71 = .ok (.getfield 61, 3) := okd_at mX12_needs_0 44 rfl
theorem dX12_needs_74 : decode cX12_needs 74 = .ok (.iload_n 1, 1) := okd_at mX12_needs_0 45 rfl
theorem dX12_needs_75 : decode cX12_needs 75 = .ok (.iaload, 1) := okd_at mX12_needs_0 46 rfl
theorem dX12_needs_76 : decode cX12_needs 76 = .ok (.iload_n 2, 1) := okd_at mX12_needs_0 47 rfl
theorem dX12_needs_77 : decode cX12_needs 77 = .ok (.if_icmp .lt 8, 3) := okd_at mX12_needs_0 48 rfl
theorem dX12_needs_80 : decode cX12_needs 80 = .ok (.iload 5, 2) := okd_at mX12_needs_0 49 rfl
theorem dX12_needs_82 : decode cX12_needs 82 = .ok (.goto 4, 3) := okd_at mX12_needs_0 50 rfl
theorem dX12_needs_85 : decode cX12_needs 85 = .ok (.iconst (-1), 1) := okd_at mX12_needs_0 51 rfl
theorem dX12_needs_86 : decode cX12_needs 86 = .ok (.istore 4, 2) := okd_at mX12_needs_0 52 rfl
theorem dX12_needs_88 : decode cX12_needs 88 = .ok (.iinc 5 1, 3) := okd_at mX12_needs_0 53 rfl
theorem dX12_needs_91 : decode cX12_needs 91 = .ok (.goto (-50), 3) := okd_at mX12_needs_0 54 rfl
theorem dX12_needs_94 : decode cX12_needs 94 = .ok (.aload_n 0, 1) := okd_at mX12_needs_0 55 rfl
theorem dX12_needs_95 : decode cX12_needs 95 = .ok (.getfield 7, 3) := okd_at mX12_needs_0 56 rfl
theorem dX12_needs_98 : decode cX12_needs 98 = .ok (.iconst 3, 1) := okd_at mX12_needs_0 57 rfl
theorem dX12_needs_99 : decode cX12_needs 99 = .ok (.iload_n 1, 1) := okd_at mX12_needs_0 58 rfl
theorem dX12_needs_100 : decode cX12_needs 100 = .ok (.imul, 1) := okd_at mX12_needs_0 59 rfl
def lmX12_needs_1 : List (Nat × Instr × Nat) := [(101, .iconst 2, 1), (102, .iadd, 1), (103, .iload_n 3, 1), (104, .iastore, 1), (105, .iload 4, 2), (107, .ireturn, 1)]
theorem mX12_needs_1 : okd cX12_needs lmX12_needs_1 = true := by decide +kernel
theorem dX12_needs_101 : decode cX12_needs 101 = .ok (.iconst 2, 1) := okd_at mX12_needs_1 0 rfl
theorem dX12_needs_102 : decode cX12_needs 102 = .ok (.iadd, 1) := okd_at mX12_needs_1 1 rfl
theorem dX12_needs_103 : decode cX12_needs 103 = .ok (.iload_n 3, 1) := okd_at mX12_needs_1 2 rfl
theorem dX12_needs_104 : decode cX12_needs 104 = .ok (.iastore, 1) := okd_at mX12_needs_1 3 rfl
theorem dX12_needs_105 : decode cX12_needs 105 = .ok (.iload 4, 2) := okd_at mX12_needs_1 4 rfl
theorem dX12_needs_107 : decode cX12_needs 107 = .ok (.ireturn, 1) := okd_at mX12_needs_1 5 rfl
def lmX12_next_0 : List (Nat × Instr × Nat) := [(0, .aload_n 0, 1), (1, .getfield 113, 3), (4, .aload_n 0, 1), (5, .getfield 83, 3), (8, .if_icmp .ge 44, 3), (11, .aload_n 0, 1), (12, .getfield 22, 3), (15, .aload_n 0, 1), (16, .getfield 113, 3), (19, .iaload, 1), (20, .bipush 32, 2), (22, .if_icmp .eq 17, 3), (25, .aload_n 0, 1), (26, .getfield 22, 3), (29, .aload_n 0, 1), (30, .getfield 113, 3), (33, .iaload, 1), (34, .bipush 10, 2), (36, .if_icmp .ne 16, 3), (39, .aload_n 0, 1), (40, .dup, 1), (41, .getfield 113, 3), (44, .iconst 1, 1), (45, .iadd, 1), (46, .putfield 113, 3), (49, .goto (-49), 3), (52, .aload_n 0, 1), (53, .aload_n 0, 1), (54, .getfield 113, 3), (57, .putfield 116, 3), (60, .aload_n 0, 1), (61, .iconst 0, 1), (62, .putfield 119, 3), (65, .aload_n 0, 1), (66, .iconst 0, 1), (67, .putfield 122, 3), (70, .aload_n 0, 1), (71, .getfield 113, 3), (74, .aload_n 0, 1), (75, .getfield 83, 3), (78, .if_icmp .ne 4, 3), (81, .return_, 1), (82, .aload_n 0, 1), (83, .getfield 22, 3), (86, .aload_n 0, 1), (87, .getfield 113, 3), (90, .iaload, 1), (91, .istore_n 1, 1), (92, .iload_n 1, 1), (93, .bipush 97, 2), (95, .bipush 122, 2), (97, .invokestatic 93, 3), (100, .ifCond .eq 117, 3), (103, .aload_n 0, 1), (104, .getfield 113, 3), (107, .aload_n 0, 1), (108, .getfield 83, 3), (111, .if_icmp .ge 35, 3), (114, .aload_n 0, 1), (115, .getfield 22, 3)]
theorem mX12_next_0 : okd cX12_next lmX12_next_0 = true := by decide +kernel
theorem dX12_next_0 : decode cX12_next 0 = .ok (.aload_n 0, 1) := okd_at mX12_next_0 0 rfl
theorem dX12_next_1 : decode cX12_next 1 = .ok (.getfield 113, 3) := okd_at mX12_next_0 1 rfl
theorem dX12_next_4 : decode cX12_next 4 = .ok (.aload_n 0, 1) := okd_at mX12_next_0 2 rfl
theorem dX12_next_5 : decode cX12_next 5 = .ok (.getfield 83, 3) := okd_at mX12_next_0 3 rfl
theorem dX12_next_8 : decode cX12_next 8 = .ok (.if_icmp .ge 44, 3) := okd_at mX12_next_0 4 rfl
theorem dX12_next_11 : decode cX12_next 11 = .ok (.aload_n 0, 1) := okd_at mX12_next_0 5 rfl
theorem dX12_next_12 : decode cX12_next 12 = .ok (.getfield 22, 3) := okd_at mX12_next_0 6 rfl
theorem dX12_next_15 : decode cX12_next 15 = .ok (.aload_n 0, 1) := okd_at mX12_next_0 7 rfl
theorem dX12_next_16 : decode cX12_next 16 = .ok (.getfield 113, 3) := okd_at mX12_next_0 8 rfl
theorem dX12_next_19 : decode cX12_next 19 = .ok (.iaload, 1) := okd_at mX12_next_0 9 rfl
theorem dX12_next_20 : decode cX12_next 20 = .ok (.bipush 32, 2) := okd_at mX12_next_0 10 rfl
theorem dX12_next_22 : decode cX12_next 22 = .ok (.if_icmp .eq 17, 3) := okd_at mX12_next_0 11 rfl
theorem dX12_next_25 : decode cX12_next 25 = .ok (.aload_n 0, 1) := okd_at mX12_next_0 12 rfl
theorem dX12_next_26 : decode cX12_next 26 = .ok (.getfield 22, 3) := okd_at mX12_next_0 13 rfl
theorem dX12_next_29 : decode cX12_next 29 = .ok (.aload_n 0, 1) := okd_at mX12_next_0 14 rfl
theorem dX12_next_30 : decode cX12_next 30 = .ok (.getfield 113, 3) := okd_at mX12_next_0 15 rfl
theorem dX12_next_33 : decode cX12_next 33 = .ok (.iaload, 1) := okd_at mX12_next_0 16 rfl
theorem dX12_next_34 : decode cX12_next 34 = .ok (.bipush 10, 2) := okd_at mX12_next_0 17 rfl
theorem dX12_next_36 : decode cX12_next 36 = .ok (.if_icmp .ne 16, 3) := okd_at mX12_next_0 18 rfl
theorem dX12_next_39 : decode cX12_next 39 = .ok (.aload_n 0, 1) := okd_at mX12_next_0 19 rfl
theorem dX12_next_40 : decode cX12_next 40 = .ok (.dup, 1) := okd_at mX12_next_0 20 rfl
theorem dX12_next_41 : decode cX12_next 41 = .ok (.getfield 113, 3) := okd_at mX12_next_0 21 rfl
theorem dX12_next_44 : decode cX12_next 44 = .ok (.iconst 1, 1) := okd_at mX12_next_0 22 rfl
theorem dX12_next_45 : decode cX12_next 45 = .ok (.iadd, 1) := okd_at mX12_next_0 23 rfl
theorem dX12_next_46 : decode cX12_next 46 = .ok (.putfield 113, 3) := okd_at mX12_next_0 24 rfl
theorem dX12_next_49 : decode cX12_next 49 = .ok (.goto (-49), 3) := okd_at mX12_next_0 25 rfl
theorem dX12_next_52 : decode cX12_next 52 = .ok (.aload_n 0, 1) := okd_at mX12_next_0 26 rfl
theorem dX12_next_53 : decode cX12_next 53 = .ok (.aload_n 0, 1) := okd_at mX12_next_0 27 rfl
theorem dX12_next_54 : decode cX12_next 54 = .ok (.getfield 113, 3) := okd_at mX12_next_0 28 rfl
theorem dX12_next_57 : decode cX12_next 57 = .ok (.putfield 116, 3) := okd_at mX12_next_0 29 rfl
theorem dX12_next_60 : decode cX12_next 60 = .ok (.aload_n 0, 1) := okd_at mX12_next_0 30 rfl
theorem dX12_next_61 : decode cX12_next 61 = .ok (.iconst 0, 1) := okd_at mX12_next_0 31 rfl
theorem dX12_next_62 : decode cX12_next 62 = .ok (.putfield 119, 3) := okd_at mX12_next_0 32 rfl
theorem dX12_next_65 : decode cX12_next 65 = .ok (.aload_n 0, 1) := okd_at mX12_next_0 33 rfl
theorem dX12_next_66 : decode cX12_next 66 = .ok (.iconst 0, 1) := okd_at mX12_next_0 34 rfl
theorem dX12_next_67 : decode cX12_next 67 = .ok (.putfield 122, 3) := okd_at mX12_next_0 35 rfl
theorem dX12_next_70 : decode cX12_next 70 = .ok (.aload_n 0, 1) := okd_at mX12_next_0 36 rfl
theorem dX12_next_71 : decode cX12_next 71 = .ok (.getfield 113, 3) := okd_at mX12_next_0 37 rfl
theorem dX12_next_74 : decode cX12_next 74 = .ok (.aload_n 0, 1) := okd_at mX12_next_0 38 rfl
theorem dX12_next_75 : decode cX12_next 75 = .ok (.getfield 83, 3) := okd_at mX12_next_0 39 rfl
theorem dX12_next_78 : decode cX12_next 78 = .ok (.if_icmp .ne 4, 3) := okd_at mX12_next_0 40 rfl
theorem dX12_next_81 : decode cX12_next 81 = .ok (.return_, 1) := okd_at mX12_next_0 41 rfl
theorem dX12_next_82 : decode cX12_next 82 = .ok (.aload_n 0, 1) := okd_at mX12_next_0 42 rfl
theorem dX12_next_83 : decode cX12_next 83 = .ok (.getfield 22, 3) := okd_at mX12_next_0 43 rfl
theorem dX12_next_86 : decode cX12_next 86 = .ok (.aload_n 0, 1) := okd_at mX12_next_0 44 rfl
theorem dX12_next_87 : decode cX12_next 87 = .ok (.getfield 113, 3) := okd_at mX12_next_0 45 rfl
theorem dX12_next_90 : decode cX12_next 90 = .ok (.iaload, 1) := okd_at mX12_next_0 46 rfl
theorem dX12_next_91 : decode cX12_next 91 = .ok (.istore_n 1, 1) := okd_at mX12_next_0 47 rfl
theorem dX12_next_92 : decode cX12_next 92 = .ok (.iload_n 1, 1) := okd_at mX12_next_0 48 rfl
theorem dX12_next_93 : decode cX12_next 93 = .ok (.bipush 97, 2) := okd_at mX12_next_0 49 rfl
theorem dX12_next_95 : decode cX12_next 95 = .ok (.bipush 122, 2) := okd_at mX12_next_0 50 rfl
theorem dX12_next_97 : decode cX12_next 97 = .ok (.invokestatic 93, 3) := okd_at mX12_next_0 51 rfl
theorem dX12_next_100 : decode cX12_next 100 = .ok (.ifCond .eq 117, 3) := okd_at mX12_next_0 52 rfl
theorem dX12_next_103 : decode cX12_next 103 = .ok (.aload_n 0, 1) := okd_at mX12_next_0 53 rfl
theorem dX12_next_104 : decode cX12_next 104 = .ok (.getfield 113, 3) := okd_at mX12_next_0 54 rfl
theorem dX12_next_107 : decode cX12_next 107 = .ok (.aload_n 0, 1) := okd_at mX12_next_0 55 rfl
theorem dX12_next_108 : decode cX12_next 108 = .ok (.getfield 83, 3) := okd_at mX12_next_0 56 rfl
theorem dX12_next_111 : decode cX12_next 111 = .ok (.if_icmp .ge 35, 3) := okd_at mX12_next_0 57 rfl
theorem dX12_next_114 : decode cX12_next 114 = .ok (.aload_n 0, 1) := okd_at mX12_next_0 58 rfl
theorem dX12_next_115 : decode cX12_next 115 = .ok (.getfield 22, 3) := okd_at mX12_next_0 59 rfl
def lmX12_next_1 : List (Nat × Instr × Nat) := [(118, .aload_n 0, 1), (119, .getfield 113, 3), (122, .iaload, 1), (123, .bipush 97, 2), (125, .bipush 122, 2), (127, .invokestatic 93, 3), (130, .ifCond .eq 16, 3), (133, .aload_n 0, 1), (134, .dup, 1), (135, .getfield 113, 3), (138, .iconst 1, 1), (139, .iadd, 1), (140, .putfield 113, 3), (143, .goto (-40), 3), (146, .aload_n 0, 1), (147, .aload_n 0, 1), (148, .getfield 116, 3), (151, .aload_n 0, 1), (152, .getfield 113, 3), (155, .invokevirtual 125, 3), (158, .istore_n 2, 1), (159, .aload_n 0, 1), (160, .iload_n 2, 1), (161, .iconst 3, 1), (162, .if_icmp .ge 7, 3), (165, .iconst 3, 1), (166, .goto 29, 3), (169, .iload_n 2, 1), (170, .bipush 9, 2), (172, .if_icmp .ge 7, 3), (175, .iconst 2, 1), (176, .goto 19, 3), (179, .iload_n 2, 1), (180, .bipush 12, 2), (182, .if_icmp .ne 7, 3), (185, .iconst (-1), 1), (186, .goto 9, 3), (189, .iconst 4, 1), (190, .iload_n 2, 1), (191, .iadd, 1), (192, .bipush 9, 2), (194, .isub, 1), (195, .putfield 119, 3), (198, .aload_n 0, 1), (199, .iload_n 2, 1), (200, .iconst 3, 1), (201, .if_icmp .ge 7, 3), (204, .iload_n 2, 1), (205, .goto 6, 3), (208, .iload_n 2, 1), (209, .iconst 3, 1), (210, .isub, 1), (211, .putfield 122, 3), (214, .goto 189, 3), (217, .iload_n 1, 1), (218, .bipush 48, 2), (220, .bipush 57, 2), (222, .invokestatic 93, 3), (225, .ifCond .eq 101, 3), (228, .iconst 0, 1)]
theorem mX12_next_1 : okd cX12_next lmX12_next_1 = true := by decide +kernel
theorem dX12_next_118 : decode cX12_next 118 = .ok (.aload_n 0, 1) := okd_at mX12_next_1 0 rfl
theorem dX12_next_119 : decode cX12_next 119 = .ok (.getfield 113, 3) := okd_at mX12_next_1 1 rfl
theorem dX12_next_122 : decode cX12_next 122 = .ok (.iaload, 1) := okd_at mX12_next_1 2 rfl
theorem dX12_next_123 : decode cX12_next 123 = .ok (.bipush 97, 2) := okd_at mX12_next_1 3 rfl
theorem dX12_next_125 : decode cX12_next 125 = .ok (.bipush 122, 2) := okd_at mX12_next_1 4 rfl
theorem dX12_next_127 : decode cX12_next 127 = .ok (.invokestatic 93, 3) := okd_at mX12_next_1 5 rfl
theorem dX12_next_130 : decode cX12_next 130 = .ok (.ifCond .eq 16, 3) := okd_at mX12_next_1 6 rfl
theorem dX12_next_133 : decode cX12_next 133 = .ok (.aload_n 0, 1) := okd_at mX12_next_1 7 rfl
theorem dX12_next_134 : decode cX12_next 134 = .ok (.dup, 1) := okd_at mX12_next_1 8 rfl
theorem dX12_next_135 : decode cX12_next 135 = .ok (.getfield 113, 3) := okd_at mX12_next_1 9 rfl
theorem dX12_next_138 : decode cX12_next 138 = .ok (.iconst 1, 1) := okd_at mX12_next_1 10 rfl
theorem dX12_next_139 : decode cX12_next 139 = .ok (.iadd, 1) := okd_at mX12_next_1 11 rfl
theorem dX12_next_140 : decode cX12_next 140 = .ok (.putfield 113, 3) := okd_at mX12_next_1 12 rfl
theorem dX12_next_143 : decode cX12_next 143 = .ok (.goto (-40), 3) := okd_at mX12_next_1 13 rfl
theorem dX12_next_146 : decode cX12_next 146 = .ok (.aload_n 0, 1) := okd_at mX12_next_1 14 rfl
theorem dX12_next_147 : decode cX12_next 147 = .ok (.aload_n 0, 1) := okd_at mX12_next_1 15 rfl
theorem dX12_next_148 : decode cX12_next 148 = .ok (.getfield 116, 3) := okd_at mX12_next_1 16 rfl
theorem dX12_next_151 : decode cX12_next 151 = .ok (.aload_n 0, 1) := okd_at mX12_next_1 17 rfl
theorem dX12_next_152 : decode cX12_next 152 = .ok (.getfield 113, 3) := okd_at mX12_next_1 18 rfl
theorem dX12_next_155 : decode cX12_next 155 = .ok (.invokevirtual 125, 3) := okd_at mX12_next_1 19 rfl
theorem dX12_next_158 : decode cX12_next 158 = .ok (.istore_n 2, 1) := okd_at mX12_next_1 20 rfl
theorem dX12_next_159 : decode cX12_next 159 = .ok (.aload_n 0, 1) := okd_at mX12_next_1 21 rfl
theorem dX12_next_160 : decode cX12_next 160 = .ok (.iload_n 2, 1) := okd_at mX12_next_1 22 rfl
theorem dX12_next_161 : decode cX12_next 161 = .ok (.iconst 3, 1) := okd_at mX12_next_1 23 rfl
theorem dX12_next_162 : decode cX12_next 162 = .ok (.if_icmp .ge 7, 3) := okd_at mX12_next_1 24 rfl
theorem dX12_next_165 : decode cX12_next 165 = .ok (.iconst 3, 1) := okd_at mX12_next_1 25 rfl
theorem dX12_next_166 : decode cX12_next 166 = .ok (.goto 29, 3) := okd_at mX12_next_1 26 rfl
theorem dX12_next_169 : decode cX12_next 169 = .ok (.iload_n 2, 1) := okd_at mX12_next_1 27 rfl
theorem dX12_next_170 : decode cX12_next 170 = .ok (.bipush 9, 2) := okd_at mX12_next_1 28 rfl
theorem dX12_next_172 : decode cX12_next 172 = .ok (.if_icmp .ge 7, 3) := okd_at mX12_next_1 29 rfl
theorem dX12_next_175 : decode cX12_next 175 = .ok (.iconst 2, 1) := okd_at mX12_next_1 30 rfl
theorem dX12_next_176 : decode cX12_next 176 = .ok (.goto 19, 3) := okd_at mX12_next_1 31 rfl
theorem dX12_next_179 : decode cX12_next 179 = .ok (.iload_n 2, 1) := okd_at mX12_next_1 32 rfl
theorem dX12_next_180 : decode cX12_next 180 = .ok (.bipush 12, 2) := okd_at mX12_next_1 33 rfl
theorem dX12_next_182 : decode cX12_next 182 = .ok (.if_icmp .ne 7, 3) := okd_at mX12_next_1 34 rfl
theorem dX12_next_185 : decode cX12_next 185 = .ok (.iconst (-1), 1) := okd_at mX12_next_1 35 rfl
theorem dX12_next_186 : decode cX12_next 186 = .ok (.goto 9, 3) := okd_at mX12_next_1 36 rfl
theorem dX12_next_189 : decode cX12_next 189 = .ok (.iconst 4, 1) := okd_at mX12_next_1 37 rfl
theorem dX12_next_190 : decode cX12_next 190 = .ok (.iload_n 2, 1) := okd_at mX12_next_1 38 rfl
theorem dX12_next_191 : decode cX12_next 191 = .ok (.iadd, 1) := okd_at mX12_next_1 39 rfl
theorem dX12_next_192 : decode cX12_next 192 = .ok (.bipush 9, 2) := okd_at mX12_next_1 40 rfl
theorem dX12_next_194 : decode cX12_next 194 = .ok (.isub, 1) := okd_at mX12_next_1 41 rfl
theorem dX12_next_195 : decode cX12_next 195 = .ok (.putfield 119, 3) := okd_at mX12_next_1 42 rfl
theorem dX12_next_198 : decode cX12_next 198 = .ok (.aload_n 0, 1) := okd_at mX12_next_1 43 rfl
theorem dX12_next_199 : decode cX12_next 199 = .ok (.iload_n 2, 1) := okd_at mX12_next_1 44 rfl
theorem dX12_next_200 : decode cX12_next 200 = .ok (.iconst 3, 1) := okd_at mX12_next_1 45 rfl
theorem dX12_next_201 : decode cX12_next 201 = .ok (.if_icmp .ge 7, 3) := okd_at mX12_next_1 46 rfl
theorem dX12_next_204 : decode cX12_next 204 = .ok (.iload_n 2, 1) := okd_at mX12_next_1 47 rfl
theorem dX12_next_205 : decode cX12_next 205 = .ok (.goto 6, 3) := okd_at mX12_next_1 48 rfl
theorem dX12_next_208 : decode cX12_next 208 = .ok (.iload_n 2, 1) := okd_at mX12_next_1 49 rfl
theorem dX12_next_209 : decode cX12_next 209 = .ok (.iconst 3, 1) := okd_at mX12_next_1 50 rfl
theorem dX12_next_210 : decode cX12_next 210 = .ok (.isub, 1) := okd_at mX12_next_1 51 rfl
theorem dX12_next_211 : decode cX12_next 211 = .ok (.putfield 122, 3) := okd_at mX12_next_1 52 rfl
theorem dX12_next_214 : decode cX12_next 214 = .ok (.goto 189, 3) := okd_at mX12_next_1 53 rfl
theorem dX12_next_217 : decode cX12_next 217 = .ok (.iload_n 1, 1) := okd_at mX12_next_1 54 rfl
theorem dX12_next_218 : decode cX12_next 218 = .ok (.bipush 48, 2) := okd_at mX12_next_1 55 rfl
theorem dX12_next_220 : decode cX12_next 220 = .ok (.bipush 57, 2) := okd_at mX12_next_1 56 rfl
theorem dX12_next_222 : decode cX12_next 222 = .ok (.invokestatic 93, 3) := okd_at mX12_next_1 57 rfl
theorem dX12_next_225 : decode cX12_next 225 = .ok (.ifCond .eq 101, 3) := okd_at mX12_next_1 58 rfl
theorem dX12_next_228 : decode cX12_next 228 = .ok (.iconst 0, 1) := okd_at mX12_next_1 59 rfl
def lmX12_next_2 : List (Nat × Instr × Nat) := [(229, .istore_n 2, 1), (230, .aload_n 0, 1), (231, .getfield 113, 3), (234, .aload_n 0, 1), (235, .getfield 83, 3), (238, .if_icmp .ge 71, 3), (241, .aload_n 0, 1), (242, .getfield 22, 3), (245, .aload_n 0, 1), (246, .getfield 113, 3), (249, .iaload, 1), (250, .bipush 48, 2), (252, .bipush 57, 2), (254, .invokestatic 93, 3), (257, .ifCond .eq 52, 3), (260, .aload_n 0, 1), (261, .iload_n 2, 1), (262, .iconst 4, 1), (263, .if_icmp .ge 26, 3), (266, .bipush 10, 2), (268, .aload_n 0, 1), (269, .getfield 122, 3), (272, .imul, 1), (273, .aload_n 0, 1), (274, .getfield 22, 3), (277, .aload_n 0, 1), (278, .getfield 113, 3), (281, .iaload, 1), (282, .iadd, 1), (283, .bipush 48, 2), (285, .isub, 1), (286, .goto 4, 3), (289, .iconst 0, 1), (290, .putfield 122, 3), (293, .iinc 2 1, 3), (296, .aload_n 0, 1), (297, .dup, 1), (298, .getfield 113, 3), (301, .iconst 1, 1), (302, .iadd, 1), (303, .putfield 113, 3), (306, .goto (-76), 3), (309, .aload_n 0, 1), (310, .iload_n 2, 1), (311, .iconst 4, 1), (312, .if_icmp .le 7, 3), (315, .iconst (-1), 1), (316, .goto 4, 3), (319, .iconst 1, 1), (320, .putfield 119, 3), (323, .goto 80, 3), (326, .iload_n 1, 1), (327, .bipush 40, 2), (329, .if_icmp .eq 45, 3), (332, .iload_n 1, 1), (333, .bipush 41, 2), (335, .if_icmp .eq 39, 3), (338, .iload_n 1, 1), (339, .bipush 59, 2), (341, .if_icmp .eq 33, 3)]
theorem mX12_next_2 : okd cX12_next lmX12_next_2 = true := by decide +kernel
theorem dX12_next_229 : decode cX12_next 229 = .ok (.istore_n 2, 1) := okd_at mX12_next_2 0 rfl
theorem dX12_next_230 : decode cX12_next 230 = .ok (.aload_n 0, 1) := okd_at mX12_next_2 1 rfl
theorem dX12_next_231 : decode cX12_next 231 = .ok (.getfield 113, 3) := okd_at mX12_next_2 2 rfl
theorem dX12_next_234 : decode cX12_next 234 = .ok (.aload_n 0, 1) := okd_at mX12_next_2 3 rfl
theorem dX12_next_235 : decode cX12_next 235 = .ok (.getfield 83, 3) := okd_at mX12_next_2 4 rfl
theorem dX12_next_238 : decode cX12_next 238 = .ok (.if_icmp .ge 71, 3) := okd_at mX12_next_2 5 rfl
theorem dX12_next_241 : decode cX12_next 241 = .ok (.aload_n 0, 1) := okd_at mX12_next_2 6 rfl
theorem dX12_next_242 : decode cX12_next 242 = .ok (.getfield 22, 3) := okd_at mX12_next_2 7 rfl
theorem dX12_next_245 : decode cX12_next 245 = .ok (.aload_n 0, 1) := okd_at mX12_next_2 8 rfl
theorem dX12_next_246 : decode cX12_next 246 = .ok (.getfield 113, 3) := okd_at mX12_next_2 9 rfl
theorem dX12_next_249 : decode cX12_next 249 = .ok (.iaload, 1) := okd_at mX12_next_2 10 rfl
theorem dX12_next_250 : decode cX12_next 250 = .ok (.bipush 48, 2) := okd_at mX12_next_2 11 rfl
theorem dX12_next_252 : decode cX12_next 252 = .ok (.bipush 57, 2) := okd_at mX12_next_2 12 rfl
theorem dX12_next_254 : decode cX12_next 254 = .ok (.invokestatic 93, 3) := okd_at mX12_next_2 13 rfl
theorem dX12_next_257 : decode cX12_next 257 = .ok (.ifCond .eq 52, 3) := okd_at mX12_next_2 14 rfl
theorem dX12_next_260 : decode cX12_next 260 = .ok (.aload_n 0, 1) := okd_at mX12_next_2 15 rfl
theorem dX12_next_261 : decode cX12_next 261 = .ok (.iload_n 2, 1) := okd_at mX12_next_2 16 rfl
theorem dX12_next_262 : decode cX12_next 262 = .ok (.iconst 4, 1) := okd_at mX12_next_2 17 rfl
theorem dX12_next_263 : decode cX12_next 263 = .ok (.if_icmp .ge 26, 3) := okd_at mX12_next_2 18 rfl
theorem dX12_next_266 : decode cX12_next 266 = .ok (.bipush 10, 2) := okd_at mX12_next_2 19 rfl
theorem dX12_next_268 : decode cX12_next 268 = .ok (.aload_n 0, 1) := okd_at mX12_next_2 20 rfl
theorem dX12_next_269 : decode cX12_next 269 = .ok (.getfield 122, 3) := okd_at mX12_next_2 21 rfl
theorem dX12_next_272 : decode cX12_next 272 = .ok (.imul, 1) := okd_at mX12_next_2 22 rfl
theorem dX12_next_273 : decode cX12_next 273 = .ok (.aload_n 0, 1) := okd_at mX12_next_2 23 rfl
theorem dX12_next_274 : decode cX12_next 274 = .ok (.getfield 22, 3) := okd_at mX12_next_2 24 rfl
theorem dX12_next_277 : decode cX12_next 277 = .ok (.aload_n 0, 1) := okd_at mX12_next_2 25 rfl
theorem dX12_next_278 : decode cX12_next 278 = .ok (.getfield 113, 3) := okd_at mX12_next_2 26 rfl
theorem dX12_next_281 : decode cX12_next 281 = .ok (.iaload, 1) := okd_at mX12_next_2 27 rfl
theorem dX12_next_282 : decode cX12_next 282 = .ok (.iadd, 1) := okd_at mX12_next_2 28 rfl
theorem dX12_next_283 : decode cX12_next 283 = .ok (.bipush 48, 2) := okd_at mX12_next_2 29 rfl
theorem dX12_next_285 : decode cX12_next 285 = .ok (.isub, 1) := okd_at mX12_next_2 30 rfl
theorem dX12_next_286 : decode cX12_next 286 = .ok (.goto 4, 3) := okd_at mX12_next_2 31 rfl
theorem dX12_next_289 : decode cX12_next 289 = .ok (.iconst 0, 1) := okd_at mX12_next_2 32 rfl
theorem dX12_next_290 : decode cX12_next 290 = .ok (.putfield 122, 3) := okd_at mX12_next_2 33 rfl
theorem dX12_next_293 : decode cX12_next 293 = .ok (.iinc 2 1, 3) := okd_at mX12_next_2 34 rfl
theorem dX12_next_296 : decode cX12_next 296 = .ok (.aload_n 0, 1) := okd_at mX12_next_2 35 rfl
theorem dX12_next_297 : decode cX12_next 297 = .ok (.dup, 1) := okd_at mX12_next_2 36 rfl
theorem dX12_next_298 : decode cX12_next 298 = .ok (.getfield 113, 3) := okd_at mX12_next_2 37 rfl
theorem dX12_next_301 : decode cX12_next 301 = .ok (.iconst 1, 1) := okd_at mX12_next_2 38 rfl
theorem dX12_next_302 : decode cX12_next 302 = .ok (.iadd, 1) := okd_at mX12_next_2 39 rfl
theorem dX12_next_303 : decode cX12_next 303 = .ok (.putfield 113, 3) := okd_at mX12_next_2 40 rfl
theorem dX12_next_306 : decode cX12_next 306 = .ok (.goto (-76), 3) := okd_at mX12_next_2 41 rfl
theorem dX12_next_309 : decode cX12_next 309 = .ok (.aload_n 0, 1) := okd_at mX12_next_2 42 rfl
theorem dX12_next_310 : decode cX12_next 310 = .ok (.iload_n 2, 1) := okd_at mX12_next_2 43 rfl
theorem dX12_next_311 : decode cX12_next 311 = .ok (.iconst 4, 1) := okd_at mX12_next_2 44 rfl
theorem dX12_next_312 : decode cX12_next 312 = .ok (.if_icmp .le 7, 3) := okd_at mX12_next_2 45 rfl
theorem dX12_next_315 : decode cX12_next 315 = .ok (.iconst (-1), 1) := okd_at mX12_next_2 46 rfl
theorem dX12_next_316 : decode cX12_next 316 = .ok (.goto 4, 3) := okd_at mX12_next_2 47 rfl
theorem dX12_next_319 : decode cX12_next 319 = .ok (.iconst 1, 1) := okd_at mX12_next_2 48 rfl
theorem dX12_next_320 : decode cX12_next 320 = .ok (.putfield 119, 3) := okd_at mX12_next_2 49 rfl
theorem dX12_next_323 : decode cX12_next 323 = .ok (.goto 80, 3) := okd_at mX12_next_2 50 rfl
theorem dX12_next_326 : decode cX12_next 326 = .ok (.iload_n 1, 1) := okd_at mX12_next_2 51 rfl
theorem dX12_next_327 : decode cX12_next 327 = .ok (.bipush 40, 2) := okd_at mX12_next_2 52 rfl
theorem dX12_next_329 : decode cX12_next 329 = .ok (.if_icmp .eq 45, 3) := okd_at mX12_next_2 53 rfl
theorem dX12_next_332 : decode cX12_next 332 = .ok (.iload_n 1, 1) := okd_at mX12_next_2 54 rfl
theorem dX12_next_333 : decode cX12_next 333 = .ok (.bipush 41, 2) := okd_at mX12_next_2 55 rfl
theorem dX12_next_335 : decode cX12_next 335 = .ok (.if_icmp .eq 39, 3) := okd_at mX12_next_2 56 rfl
theorem dX12_next_338 : decode cX12_next 338 = .ok (.iload_n 1, 1) := okd_at mX12_next_2 57 rfl
theorem dX12_next_339 : decode cX12_next 339 = .ok (.bipush 59, 2) := okd_at mX12_next_2 58 rfl
theorem dX12_next_341 : decode cX12_next 341 = .ok (.if_icmp .eq 33, 3) := okd_at mX12_next_2 59 rfl
def lmX12_next_3 : List (Nat × Instr × Nat) := [(344, .iload_n 1, 1), (345, .bipush 43, 2), (347, .if_icmp .eq 27, 3), (350, .iload_n 1, 1), (351, .bipush 45, 2), (353, .if_icmp .eq 21, 3), (356, .iload_n 1, 1), (357, .bipush 42, 2), (359, .if_icmp .eq 15, 3), (362, .iload_n 1, 1), (363, .bipush 60, 2), (365, .if_icmp .eq 9, 3), (368, .iload_n 1, 1), (369, .bipush 61, 2), (371, .if_icmp .ne 7, 3), (374, .iconst 1, 1), (375, .goto 4, 3), (378, .iconst 0, 1), (379, .istore_n 2, 1), (380, .aload_n 0, 1), (381, .iload_n 2, 1), (382, .ifCond .eq 7, 3), (385, .iload_n 1, 1), (386, .goto 4, 3), (389, .iconst (-1), 1), (390, .putfield 119, 3), (393, .aload_n 0, 1), (394, .dup, 1), (395, .getfield 113, 3), (398, .iconst 1, 1), (399, .iadd, 1), (400, .putfield 113, 3), (403, .return_, 1)]
theorem mX12_next_3 : okd cX12_next lmX12_next_3 = true := by decide +kernel
theorem dX12_next_344 : decode cX12_next 344 = .ok (.iload_n 1, 1) := okd_at mX12_next_3 0 rfl
theorem dX12_next_345 : decode cX12_next 345 = .ok (.bipush 43, 2) := okd_at mX12_next_3 1 rfl
theorem dX12_next_347 : decode cX12_next 347 = .ok (.if_icmp .eq 27, 3) := okd_at mX12_next_3 2 rfl
theorem dX12_next_350 : decode cX12_next 350 = .ok (.iload_n 1, 1) := okd_at mX12_next_3 3 rfl
theorem dX12_next_351 : decode cX12_next 351 = .ok (.bipush 45, 2) := okd_at mX12_next_3 4 rfl
theorem dX12_next_353 : decode cX12_next 353 = .ok (.if_icmp .eq 21, 3) := okd_at mX12_next_3 5 rfl
theorem dX12_next_356 : decode cX12_next 356 = .ok (.iload_n 1, 1) := okd_at mX12_next_3 6 rfl
theorem dX12_next_357 : decode cX12_next 357 = .ok (.bipush 42, 2) := okd_at mX12_next_3 7 rfl
theorem dX12_next_359 : decode cX12_next 359 = .ok (.if_icmp .eq 15, 3) := okd_at mX12_next_3 8 rfl
theorem dX12_next_362 : decode cX12_next 362 = .ok (.iload_n 1, 1) := okd_at mX12_next_3 9 rfl
theorem dX12_next_363 : decode cX12_next 363 = .ok (.bipush 60, 2) := okd_at mX12_next_3 10 rfl
theorem dX12_next_365 : decode cX12_next 365 = .ok (.if_icmp .eq 9, 3) := okd_at mX12_next_3 11 rfl
theorem dX12_next_368 : decode cX12_next 368 = .ok (.iload_n 1, 1) := okd_at mX12_next_3 12 rfl
theorem dX12_next_369 : decode cX12_next 369 = .ok (.bipush 61, 2) := okd_at mX12_next_3 13 rfl
theorem dX12_next_371 : decode cX12_next 371 = .ok (.if_icmp .ne 7, 3) := okd_at mX12_next_3 14 rfl
theorem dX12_next_374 : decode cX12_next 374 = .ok (.iconst 1, 1) := okd_at mX12_next_3 15 rfl
theorem dX12_next_375 : decode cX12_next 375 = .ok (.goto 4, 3) := okd_at mX12_next_3 16 rfl
theorem dX12_next_378 : decode cX12_next 378 = .ok (.iconst 0, 1) := okd_at mX12_next_3 17 rfl
theorem dX12_next_379 : decode cX12_next 379 = .ok (.istore_n 2, 1) := okd_at mX12_next_3 18 rfl
theorem dX12_next_380 : decode cX12_next 380 = .ok (.aload_n 0, 1) := okd_at mX12_next_3 19 rfl
theorem dX12_next_381 : decode cX12_next 381 = .ok (.iload_n 2, 1) := okd_at mX12_next_3 20 rfl
theorem dX12_next_382 : decode cX12_next 382 = .ok (.ifCond .eq 7, 3) := okd_at mX12_next_3 21 rfl
theorem dX12_next_385 : decode cX12_next 385 = .ok (.iload_n 1, 1) := okd_at mX12_next_3 22 rfl
theorem dX12_next_386 : decode cX12_next 386 = .ok (.goto 4, 3) := okd_at mX12_next_3 23 rfl
theorem dX12_next_389 : decode cX12_next 389 = .ok (.iconst (-1), 1) := okd_at mX12_next_3 24 rfl
theorem dX12_next_390 : decode cX12_next 390 = .ok (.putfield 119, 3) := okd_at mX12_next_3 25 rfl
theorem dX12_next_393 : decode cX12_next 393 = .ok (.aload_n 0, 1) := okd_at mX12_next_3 26 rfl
theorem dX12_next_394 : decode cX12_next 394 = .ok (.dup, 1) := okd_at mX12_next_3 27 rfl
theorem dX12_next_395 : decode cX12_next 395 = .ok (.getfield 113, 3) := okd_at mX12_next_3 28 rfl
theorem dX12_next_398 : decode cX12_next 398 = .ok (.iconst 1, 1) := okd_at mX12_next_3 29 rfl
theorem dX12_next_399 : decode cX12_next 399 = .ok (.iadd, 1) := okd_at mX12_next_3 30 rfl
theorem dX12_next_400 : decode cX12_next 400 = .ok (.putfield 113, 3) := okd_at mX12_next_3 31 rfl
theorem dX12_next_403 : decode cX12_next 403 = .ok (.return_, 1) := okd_at mX12_next_3 32 rfl
def lmX12_noneWon_0 : List (Nat × Instr × Nat) := [(0, .iconst 0, 1), (1, .istore_n 1, 1), (2, .iconst 0, 1), (3, .istore_n 2, 1), (4, .iload_n 2, 1), (5, .aload_n 0, 1), (6, .getfield 90, 3), (9, .if_icmp .ge 28, 3), (12, .iload_n 1, 1), (13, .aload_n 0, 1), (14, .getfield 61, 3), (17, .iload_n 2, 1), (18, .iaload, 1), (19, .ifCond .ne 9, 3), (22, .iconst 1, 1), (23, .iload_n 2, 1), (24, .ishl, 1), (25, .goto 4, 3), (28, .iconst 0, 1), (29, .ior, 1), (30, .istore_n 1, 1), (31, .iinc 2 1, 3), (34, .goto (-30), 3), (37, .iload_n 1, 1), (38, .ireturn, 1)]
theorem mX12_noneWon_0 : okd cX12_noneWon lmX12_noneWon_0 = true := by decide +kernel
theorem dX12_noneWon_0 : decode cX12_noneWon 0 = .ok (.iconst 0, 1) := okd_at mX12_noneWon_0 0 rfl
theorem dX12_noneWon_1 : decode cX12_noneWon 1 = .ok (.istore_n 1, 1) := okd_at mX12_noneWon_0 1 rfl
theorem dX12_noneWon_2 : decode cX12_noneWon 2 = .ok (.iconst 0, 1) := okd_at mX12_noneWon_0 2 rfl
theorem dX12_noneWon_3 : decode cX12_noneWon 3 = .ok (.istore_n 2, 1) := okd_at mX12_noneWon_0 3 rfl
theorem dX12_noneWon_4 : decode cX12_noneWon 4 = .ok (.iload_n 2, 1) := okd_at mX12_noneWon_0 4 rfl
theorem dX12_noneWon_5 : decode cX12_noneWon 5 = .ok (.aload_n 0, 1) := okd_at mX12_noneWon_0 5 rfl
theorem dX12_noneWon_6 : decode cX12_noneWon 6 = .ok (.getfield 90, 3) := okd_at mX12_noneWon_0 6 rfl
theorem dX12_noneWon_9 : decode cX12_noneWon 9 = .ok (.if_icmp .ge 28, 3) := okd_at mX12_noneWon_0 7 rfl
theorem dX12_noneWon_12 : decode cX12_noneWon 12 = .ok (.iload_n 1, 1) := okd_at mX12_noneWon_0 8 rfl
theorem dX12_noneWon_13 : decode cX12_noneWon 13 = .ok (.aload_n 0, 1) := okd_at mX12_noneWon_0 9 rfl
theorem dX12_noneWon_14 : decode cX12_noneWon 14 = .ok (.getfield 61, 3) := okd_at mX12_noneWon_0 10 rfl
theorem dX12_noneWon_17 : decode cX12_noneWon 17 = .ok (.iload_n 2, 1) := okd_at mX12_noneWon_0 11 rfl
theorem dX12_noneWon_18 : decode cX12_noneWon 18 = .ok (.iaload, 1) := okd_at mX12_noneWon_0 12 rfl
theorem dX12_noneWon_19 : decode cX12_noneWon 19 = .ok (.ifCond .ne 9, 3) := okd_at mX12_noneWon_0 13 rfl
theorem dX12_noneWon_22 : decode cX12_noneWon 22 = .ok (.iconst 1, 1) := okd_at mX12_noneWon_0 14 rfl
theorem dX12_noneWon_23 : decode cX12_noneWon 23 = .ok (.iload_n 2, 1) := okd_at mX12_noneWon_0 15 rfl
theorem dX12_noneWon_24 : decode cX12_noneWon 24 = .ok (.ishl, 1) := okd_at mX12_noneWon_0 16 rfl
theorem dX12_noneWon_25 : decode cX12_noneWon 25 = .ok (.goto 4, 3) := okd_at mX12_noneWon_0 17 rfl
theorem dX12_noneWon_28 : decode cX12_noneWon 28 = .ok (.iconst 0, 1) := okd_at mX12_noneWon_0 18 rfl
theorem dX12_noneWon_29 : decode cX12_noneWon 29 = .ok (.ior, 1) := okd_at mX12_noneWon_0 19 rfl
theorem dX12_noneWon_30 : decode cX12_noneWon 30 = .ok (.istore_n 1, 1) := okd_at mX12_noneWon_0 20 rfl
theorem dX12_noneWon_31 : decode cX12_noneWon 31 = .ok (.iinc 2 1, 3) := okd_at mX12_noneWon_0 21 rfl
theorem dX12_noneWon_34 : decode cX12_noneWon 34 = .ok (.goto (-30), 3) := okd_at mX12_noneWon_0 22 rfl
theorem dX12_noneWon_37 : decode cX12_noneWon 37 = .ok (.iload_n 1, 1) := okd_at mX12_noneWon_0 23 rfl
theorem dX12_noneWon_38 : decode cX12_noneWon 38 = .ok (.ireturn, 1) := okd_at mX12_noneWon_0 24 rfl
def lmX12_odds_0 : List (Nat × Instr × Nat) := [(0, .iload_n 1, 1), (1, .iconst 0, 1), (2, .ldc_w 265, 3), (5, .invokestatic 93, 3), (8, .ifCond .eq 33, 3), (11, .iload_n 2, 1), (12, .iconst 1, 1), (13, .bipush 60, 2), (15, .invokestatic 93, 3), (18, .ifCond .eq 23, 3), (21, .iload_n 3, 1), (22, .iconst 0, 1), (23, .bipush 8, 2), (25, .invokestatic 93, 3), (28, .ifCond .eq 13, 3), (31, .iload 4, 2), (33, .iconst 0, 1), (34, .iconst 1, 1), (35, .invokestatic 93, 3), (38, .ifCond .ne 7, 3), (41, .ldc2_w 269, 3), (44, .lreturn, 1), (45, .lconst 0, 1), (46, .lstore 5, 2), (48, .iconst 0, 1), (49, .istore 7, 2), (51, .iload 7, 2), (53, .iload_n 2, 1), (54, .if_icmp .ge 35, 3), (57, .aload_n 0, 1), (58, .iload_n 1, 1), (59, .iload 7, 2), (61, .iadd, 1), (62, .invokevirtual 266, 3), (65, .lload 5, 2), (67, .aload_n 0, 1), (68, .getfield 213, 3), (71, .iload_n 3, 1), (72, .if_icmp .gt 7, 3), (75, .lconst 1, 1), (76, .goto 4, 3), (79, .lconst 0, 1), (80, .ladd, 1), (81, .lstore 5, 2), (83, .iinc 7 1, 3), (86, .goto (-35), 3), (89, .lload 5, 2), (91, .iload_n 2, 1), (92, .i2l, 1), (93, .iload 4, 2), (95, .invokestatic 271, 3), (98, .lreturn, 1)]
theorem mX12_odds_0 : okd cX12_odds lmX12_odds_0 = true := by decide +kernel
theorem dX12_odds_0 : decode cX12_odds 0 = .ok (.iload_n 1, 1) := okd_at mX12_odds_0 0 rfl
theorem dX12_odds_1 : decode cX12_odds 1 = .ok (.iconst 0, 1) := okd_at mX12_odds_0 1 rfl
theorem dX12_odds_2 : decode cX12_odds 2 = .ok (.ldc_w 265, 3) := okd_at mX12_odds_0 2 rfl
theorem dX12_odds_5 : decode cX12_odds 5 = .ok (.invokestatic 93, 3) := okd_at mX12_odds_0 3 rfl
theorem dX12_odds_8 : decode cX12_odds 8 = .ok (.ifCond .eq 33, 3) := okd_at mX12_odds_0 4 rfl
theorem dX12_odds_11 : decode cX12_odds 11 = .ok (.iload_n 2, 1) := okd_at mX12_odds_0 5 rfl
theorem dX12_odds_12 : decode cX12_odds 12 = .ok (.iconst 1, 1) := okd_at mX12_odds_0 6 rfl
theorem dX12_odds_13 : decode cX12_odds 13 = .ok (.bipush 60, 2) := okd_at mX12_odds_0 7 rfl
theorem dX12_odds_15 : decode cX12_odds 15 = .ok (.invokestatic 93, 3) := okd_at mX12_odds_0 8 rfl
theorem dX12_odds_18 : decode cX12_odds 18 = .ok (.ifCond .eq 23, 3) := okd_at mX12_odds_0 9 rfl
theorem dX12_odds_21 : decode cX12_odds 21 = .ok (.iload_n 3, 1) := okd_at mX12_odds_0 10 rfl
theorem dX12_odds_22 : decode cX12_odds 22 = .ok (.iconst 0, 1) := okd_at mX12_odds_0 11 rfl
theorem dX12_odds_23 : decode cX12_odds 23 = .ok (.bipush 8, 2) := okd_at mX12_odds_0 12 rfl
theorem dX12_odds_25 : decode cX12_odds 25 = .ok (.invokestatic 93, 3) := okd_at mX12_odds_0 13 rfl
theorem dX12_odds_28 : decode cX12_odds 28 = .ok (.ifCond .eq 13, 3) := okd_at mX12_odds_0 14 rfl
theorem dX12_odds_31 : decode cX12_odds 31 = .ok (.iload 4, 2) := okd_at mX12_odds_0 15 rfl
theorem dX12_odds_33 : decode cX12_odds 33 = .ok (.iconst 0, 1) := okd_at mX12_odds_0 16 rfl
theorem dX12_odds_34 : decode cX12_odds 34 = .ok (.iconst 1, 1) := okd_at mX12_odds_0 17 rfl
theorem dX12_odds_35 : decode cX12_odds 35 = .ok (.invokestatic 93, 3) := okd_at mX12_odds_0 18 rfl
theorem dX12_odds_38 : decode cX12_odds 38 = .ok (.ifCond .ne 7, 3) := okd_at mX12_odds_0 19 rfl
theorem dX12_odds_41 : decode cX12_odds 41 = .ok (.ldc2_w 269, 3) := okd_at mX12_odds_0 20 rfl
theorem dX12_odds_44 : decode cX12_odds 44 = .ok (.lreturn, 1) := okd_at mX12_odds_0 21 rfl
theorem dX12_odds_45 : decode cX12_odds 45 = .ok (.lconst 0, 1) := okd_at mX12_odds_0 22 rfl
theorem dX12_odds_46 : decode cX12_odds 46 = .ok (.lstore 5, 2) := okd_at mX12_odds_0 23 rfl
theorem dX12_odds_48 : decode cX12_odds 48 = .ok (.iconst 0, 1) := okd_at mX12_odds_0 24 rfl
theorem dX12_odds_49 : decode cX12_odds 49 = .ok (.istore 7, 2) := okd_at mX12_odds_0 25 rfl
theorem dX12_odds_51 : decode cX12_odds 51 = .ok (.iload 7, 2) := okd_at mX12_odds_0 26 rfl
theorem dX12_odds_53 : decode cX12_odds 53 = .ok (.iload_n 2, 1) := okd_at mX12_odds_0 27 rfl
theorem dX12_odds_54 : decode cX12_odds 54 = .ok (.if_icmp .ge 35, 3) := okd_at mX12_odds_0 28 rfl
theorem dX12_odds_57 : decode cX12_odds 57 = .ok (.aload_n 0, 1) := okd_at mX12_odds_0 29 rfl
theorem dX12_odds_58 : decode cX12_odds 58 = .ok (.iload_n 1, 1) := okd_at mX12_odds_0 30 rfl
theorem dX12_odds_59 : decode cX12_odds 59 = .ok (.iload 7, 2) := okd_at mX12_odds_0 31 rfl
theorem dX12_odds_61 : decode cX12_odds 61 = .ok (.iadd, 1) := okd_at mX12_odds_0 32 rfl
theorem dX12_odds_62 : decode cX12_odds 62 = .ok (.invokevirtual 266, 3) := okd_at mX12_odds_0 33 rfl
theorem dX12_odds_65 : decode cX12_odds 65 = .ok (.lload 5, 2) := okd_at mX12_odds_0 34 rfl
theorem dX12_odds_67 : decode cX12_odds 67 = .ok (.aload_n 0, 1) := okd_at mX12_odds_0 35 rfl
theorem dX12_odds_68 : decode cX12_odds 68 = .ok (.getfield 213, 3) := okd_at mX12_odds_0 36 rfl
theorem dX12_odds_71 : decode cX12_odds 71 = .ok (.iload_n 3, 1) := okd_at mX12_odds_0 37 rfl
theorem dX12_odds_72 : decode cX12_odds 72 = .ok (.if_icmp .gt 7, 3) := okd_at mX12_odds_0 38 rfl
theorem dX12_odds_75 : decode cX12_odds 75 = .ok (.lconst 1, 1) := okd_at mX12_odds_0 39 rfl
theorem dX12_odds_76 : decode cX12_odds 76 = .ok (.goto 4, 3) := okd_at mX12_odds_0 40 rfl
theorem dX12_odds_79 : decode cX12_odds 79 = .ok (.lconst 0, 1) := okd_at mX12_odds_0 41 rfl
theorem dX12_odds_80 : decode cX12_odds 80 = .ok (.ladd, 1) := okd_at mX12_odds_0 42 rfl
theorem dX12_odds_81 : decode cX12_odds 81 = .ok (.lstore 5, 2) := okd_at mX12_odds_0 43 rfl
theorem dX12_odds_83 : decode cX12_odds 83 = .ok (.iinc 7 1, 3) := okd_at mX12_odds_0 44 rfl
theorem dX12_odds_86 : decode cX12_odds 86 = .ok (.goto (-35), 3) := okd_at mX12_odds_0 45 rfl
theorem dX12_odds_89 : decode cX12_odds 89 = .ok (.lload 5, 2) := okd_at mX12_odds_0 46 rfl
theorem dX12_odds_91 : decode cX12_odds 91 = .ok (.iload_n 2, 1) := okd_at mX12_odds_0 47 rfl
theorem dX12_odds_92 : decode cX12_odds 92 = .ok (.i2l, 1) := okd_at mX12_odds_0 48 rfl
theorem dX12_odds_93 : decode cX12_odds 93 = .ok (.iload 4, 2) := okd_at mX12_odds_0 49 rfl
theorem dX12_odds_95 : decode cX12_odds 95 = .ok (.invokestatic 271, 3) := okd_at mX12_odds_0 50 rfl
theorem dX12_odds_98 : decode cX12_odds 98 = .ok (.lreturn, 1) := okd_at mX12_odds_0 51 rfl
def lmX12_ones_0 : List (Nat × Instr × Nat) := [(0, .iconst 0, 1), (1, .istore_n 1, 1), (2, .iconst 0, 1), (3, .istore_n 2, 1), (4, .iload_n 2, 1), (5, .bipush 8, 2), (7, .if_icmp .ge 17, 3), (10, .iload_n 1, 1), (11, .iload_n 0, 1), (12, .iload_n 2, 1), (13, .ishr, 1), (14, .iconst 1, 1), (15, .iand, 1), (16, .iadd, 1), (17, .istore_n 1, 1), (18, .iinc 2 1, 3), (21, .goto (-17), 3), (24, .iload_n 1, 1), (25, .ireturn, 1)]
theorem mX12_ones_0 : okd cX12_ones lmX12_ones_0 = true := by decide +kernel
theorem dX12_ones_0 : decode cX12_ones 0 = .ok (.iconst 0, 1) := okd_at mX12_ones_0 0 rfl
theorem dX12_ones_1 : decode cX12_ones 1 = .ok (.istore_n 1, 1) := okd_at mX12_ones_0 1 rfl
theorem dX12_ones_2 : decode cX12_ones 2 = .ok (.iconst 0, 1) := okd_at mX12_ones_0 2 rfl
theorem dX12_ones_3 : decode cX12_ones 3 = .ok (.istore_n 2, 1) := okd_at mX12_ones_0 3 rfl
theorem dX12_ones_4 : decode cX12_ones 4 = .ok (.iload_n 2, 1) := okd_at mX12_ones_0 4 rfl
theorem dX12_ones_5 : decode cX12_ones 5 = .ok (.bipush 8, 2) := okd_at mX12_ones_0 5 rfl
theorem dX12_ones_7 : decode cX12_ones 7 = .ok (.if_icmp .ge 17, 3) := okd_at mX12_ones_0 6 rfl
theorem dX12_ones_10 : decode cX12_ones 10 = .ok (.iload_n 1, 1) := okd_at mX12_ones_0 7 rfl
theorem dX12_ones_11 : decode cX12_ones 11 = .ok (.iload_n 0, 1) := okd_at mX12_ones_0 8 rfl
theorem dX12_ones_12 : decode cX12_ones 12 = .ok (.iload_n 2, 1) := okd_at mX12_ones_0 9 rfl
theorem dX12_ones_13 : decode cX12_ones 13 = .ok (.ishr, 1) := okd_at mX12_ones_0 10 rfl
theorem dX12_ones_14 : decode cX12_ones 14 = .ok (.iconst 1, 1) := okd_at mX12_ones_0 11 rfl
theorem dX12_ones_15 : decode cX12_ones 15 = .ok (.iand, 1) := okd_at mX12_ones_0 12 rfl
theorem dX12_ones_16 : decode cX12_ones 16 = .ok (.iadd, 1) := okd_at mX12_ones_0 13 rfl
theorem dX12_ones_17 : decode cX12_ones 17 = .ok (.istore_n 1, 1) := okd_at mX12_ones_0 14 rfl
theorem dX12_ones_18 : decode cX12_ones 18 = .ok (.iinc 2 1, 3) := okd_at mX12_ones_0 15 rfl
theorem dX12_ones_21 : decode cX12_ones 21 = .ok (.goto (-17), 3) := okd_at mX12_ones_0 16 rfl
theorem dX12_ones_24 : decode cX12_ones 24 = .ok (.iload_n 1, 1) := okd_at mX12_ones_0 17 rfl
theorem dX12_ones_25 : decode cX12_ones 25 = .ok (.ireturn, 1) := okd_at mX12_ones_0 18 rfl
def lmX12_opensOne_0 : List (Nat × Instr × Nat) := [(0, .aload_n 0, 1), (1, .getfield 139, 3), (4, .iconst 5, 1), (5, .if_icmp .ne 5, 3), (8, .iconst 0, 1), (9, .ireturn, 1), (10, .aload_n 0, 1), (11, .dup, 1), (12, .getfield 139, 3), (15, .iconst 1, 1), (16, .iadd, 1), (17, .putfield 139, 3), (20, .aload_n 0, 1), (21, .iload_n 1, 1), (22, .invokevirtual 146, 3), (25, .iconst 1, 1), (26, .ireturn, 1)]
theorem mX12_opensOne_0 : okd cX12_opensOne lmX12_opensOne_0 = true := by decide +kernel
theorem dX12_opensOne_0 : decode cX12_opensOne 0 = .ok (.aload_n 0, 1) := okd_at mX12_opensOne_0 0 rfl
theorem dX12_opensOne_1 : decode cX12_opensOne 1 = .ok (.getfield 139, 3) := okd_at mX12_opensOne_0 1 rfl
theorem dX12_opensOne_4 : decode cX12_opensOne 4 = .ok (.iconst 5, 1) := okd_at mX12_opensOne_0 2 rfl
theorem dX12_opensOne_5 : decode cX12_opensOne 5 = .ok (.if_icmp .ne 5, 3) := okd_at mX12_opensOne_0 3 rfl
theorem dX12_opensOne_8 : decode cX12_opensOne 8 = .ok (.iconst 0, 1) := okd_at mX12_opensOne_0 4 rfl
theorem dX12_opensOne_9 : decode cX12_opensOne 9 = .ok (.ireturn, 1) := okd_at mX12_opensOne_0 5 rfl
theorem dX12_opensOne_10 : decode cX12_opensOne 10 = .ok (.aload_n 0, 1) := okd_at mX12_opensOne_0 6 rfl
theorem dX12_opensOne_11 : decode cX12_opensOne 11 = .ok (.dup, 1) := okd_at mX12_opensOne_0 7 rfl
theorem dX12_opensOne_12 : decode cX12_opensOne 12 = .ok (.getfield 139, 3) := okd_at mX12_opensOne_0 8 rfl
theorem dX12_opensOne_15 : decode cX12_opensOne 15 = .ok (.iconst 1, 1) := okd_at mX12_opensOne_0 9 rfl
theorem dX12_opensOne_16 : decode cX12_opensOne 16 = .ok (.iadd, 1) := okd_at mX12_opensOne_0 10 rfl
theorem dX12_opensOne_17 : decode cX12_opensOne 17 = .ok (.putfield 139, 3) := okd_at mX12_opensOne_0 11 rfl
theorem dX12_opensOne_20 : decode cX12_opensOne 20 = .ok (.aload_n 0, 1) := okd_at mX12_opensOne_0 12 rfl
theorem dX12_opensOne_21 : decode cX12_opensOne 21 = .ok (.iload_n 1, 1) := okd_at mX12_opensOne_0 13 rfl
theorem dX12_opensOne_22 : decode cX12_opensOne 22 = .ok (.invokevirtual 146, 3) := okd_at mX12_opensOne_0 14 rfl
theorem dX12_opensOne_25 : decode cX12_opensOne 25 = .ok (.iconst 1, 1) := okd_at mX12_opensOne_0 15 rfl
theorem dX12_opensOne_26 : decode cX12_opensOne 26 = .ok (.ireturn, 1) := okd_at mX12_opensOne_0 16 rfl
def lmX12_order_0 : List (Nat × Instr × Nat) := [(0, .iload_n 1, 1), (1, .iconst 0, 1), (2, .iconst 2, 1), (3, .invokestatic 93, 3), (6, .ifCond .ne 7, 3), (9, .sipush (-1000), 3), (12, .ireturn, 1), (13, .aload_n 0, 1), (14, .invokevirtual 234, 3), (17, .aload_n 0, 1), (18, .getfield 97, 3), (21, .ifCond .ne 7, 3), (24, .iconst 0, 1), (25, .goto 4, 3), (28, .iconst 1, 1), (29, .istore_n 2, 1), (30, .iconst 0, 1), (31, .istore_n 3, 1), (32, .iload_n 3, 1), (33, .aload_n 0, 1), (34, .getfield 97, 3), (37, .if_icmp .ge 16, 3), (40, .iload_n 2, 1), (41, .aload_n 0, 1), (42, .getfield 97, 3), (45, .imul, 1), (46, .istore_n 2, 1), (47, .iinc 3 1, 3), (50, .goto (-18), 3), (53, .iconst 0, 1), (54, .istore_n 3, 1), (55, .iload_n 3, 1), (56, .iload_n 2, 1), (57, .if_icmp .ge 25, 3), (60, .aload_n 0, 1), (61, .iload_n 3, 1), (62, .invokevirtual 250, 3), (65, .ifCond .eq 11, 3), (68, .aload_n 0, 1), (69, .aload_n 0, 1), (70, .getfield 247, 3), (73, .invokevirtual 237, 3), (76, .iinc 3 1, 3), (79, .goto (-24), 3), (82, .iconst 0, 1), (83, .istore_n 3, 1), (84, .iload_n 3, 1), (85, .bipush 6, 2), (87, .if_icmp .ge 16, 3), (90, .aload_n 0, 1), (91, .getfield 73, 3), (94, .iload_n 3, 1), (95, .iload_n 3, 1), (96, .iastore, 1), (97, .iinc 3 1, 3), (100, .goto (-16), 3), (103, .aload_n 0, 1), (104, .iload_n 1, 1), (105, .invokevirtual 244, 3), (108, .ireturn, 1)]
theorem mX12_order_0 : okd cX12_order lmX12_order_0 = true := by decide +kernel
theorem dX12_order_0 : decode cX12_order 0 = .ok (.iload_n 1, 1) := okd_at mX12_order_0 0 rfl
theorem dX12_order_1 : decode cX12_order 1 = .ok (.iconst 0, 1) := okd_at mX12_order_0 1 rfl
theorem dX12_order_2 : decode cX12_order 2 = .ok (.iconst 2, 1) := okd_at mX12_order_0 2 rfl
theorem dX12_order_3 : decode cX12_order 3 = .ok (.invokestatic 93, 3) := okd_at mX12_order_0 3 rfl
theorem dX12_order_6 : decode cX12_order 6 = .ok (.ifCond .ne 7, 3) := okd_at mX12_order_0 4 rfl
theorem dX12_order_9 : decode cX12_order 9 = .ok (.sipush (-1000), 3) := okd_at mX12_order_0 5 rfl
theorem dX12_order_12 : decode cX12_order 12 = .ok (.ireturn, 1) := okd_at mX12_order_0 6 rfl
theorem dX12_order_13 : decode cX12_order 13 = .ok (.aload_n 0, 1) := okd_at mX12_order_0 7 rfl
theorem dX12_order_14 : decode cX12_order 14 = .ok (.invokevirtual 234, 3) := okd_at mX12_order_0 8 rfl
theorem dX12_order_17 : decode cX12_order 17 = .ok (.aload_n 0, 1) := okd_at mX12_order_0 9 rfl
theorem dX12_order_18 : decode cX12_order 18 = .ok (.getfield 97, 3) := okd_at mX12_order_0 10 rfl
theorem dX12_order_21 : decode cX12_order 21 = .ok (.ifCond .ne 7, 3) := okd_at mX12_order_0 11 rfl
theorem dX12_order_24 : decode cX12_order 24 = .ok (.iconst 0, 1) := okd_at mX12_order_0 12 rfl
theorem dX12_order_25 : decode cX12_order 25 = .ok (.goto 4, 3) := okd_at mX12_order_0 13 rfl
theorem dX12_order_28 : decode cX12_order 28 = .ok (.iconst 1, 1) := okd_at mX12_order_0 14 rfl
theorem dX12_order_29 : decode cX12_order 29 = .ok (.istore_n 2, 1) := okd_at mX12_order_0 15 rfl
theorem dX12_order_30 : decode cX12_order 30 = .ok (.iconst 0, 1) := okd_at mX12_order_0 16 rfl
theorem dX12_order_31 : decode cX12_order 31 = .ok (.istore_n 3, 1) := okd_at mX12_order_0 17 rfl
theorem dX12_order_32 : decode cX12_order 32 = .ok (.iload_n 3, 1) := okd_at mX12_order_0 18 rfl
theorem dX12_order_33 : decode cX12_order 33 = .ok (.aload_n 0, 1) := okd_at mX12_order_0 19 rfl
theorem dX12_order_34 : decode cX12_order 34 = .ok (.getfield 97, 3) := okd_at mX12_order_0 20 rfl
theorem dX12_order_37 : decode cX12_order 37 = .ok (.if_icmp .ge 16, 3) := okd_at mX12_order_0 21 rfl
theorem dX12_order_40 : decode cX12_order 40 = .ok (.iload_n 2, 1) := okd_at mX12_order_0 22 rfl
theorem dX12_order_41 : decode cX12_order 41 = .ok (.aload_n 0, 1) := okd_at mX12_order_0 23 rfl
theorem dX12_order_42 : decode cX12_order 42 = .ok (.getfield 97, 3) := okd_at mX12_order_0 24 rfl
theorem dX12_order_45 : decode cX12_order 45 = .ok (.imul, 1) := okd_at mX12_order_0 25 rfl
theorem dX12_order_46 : decode cX12_order 46 = .ok (.istore_n 2, 1) := okd_at mX12_order_0 26 rfl
theorem dX12_order_47 : decode cX12_order 47 = .ok (.iinc 3 1, 3) := okd_at mX12_order_0 27 rfl
theorem dX12_order_50 : decode cX12_order 50 = .ok (.goto (-18), 3) := okd_at mX12_order_0 28 rfl
theorem dX12_order_53 : decode cX12_order 53 = .ok (.iconst 0, 1) := okd_at mX12_order_0 29 rfl
theorem dX12_order_54 : decode cX12_order 54 = .ok (.istore_n 3, 1) := okd_at mX12_order_0 30 rfl
theorem dX12_order_55 : decode cX12_order 55 = .ok (.iload_n 3, 1) := okd_at mX12_order_0 31 rfl
theorem dX12_order_56 : decode cX12_order 56 = .ok (.iload_n 2, 1) := okd_at mX12_order_0 32 rfl
theorem dX12_order_57 : decode cX12_order 57 = .ok (.if_icmp .ge 25, 3) := okd_at mX12_order_0 33 rfl
theorem dX12_order_60 : decode cX12_order 60 = .ok (.aload_n 0, 1) := okd_at mX12_order_0 34 rfl
theorem dX12_order_61 : decode cX12_order 61 = .ok (.iload_n 3, 1) := okd_at mX12_order_0 35 rfl
theorem dX12_order_62 : decode cX12_order 62 = .ok (.invokevirtual 250, 3) := okd_at mX12_order_0 36 rfl
theorem dX12_order_65 : decode cX12_order 65 = .ok (.ifCond .eq 11, 3) := okd_at mX12_order_0 37 rfl
theorem dX12_order_68 : decode cX12_order 68 = .ok (.aload_n 0, 1) := okd_at mX12_order_0 38 rfl
theorem dX12_order_69 : decode cX12_order 69 = .ok (.aload_n 0, 1) := okd_at mX12_order_0 39 rfl
theorem dX12_order_70 : decode cX12_order 70 = .ok (.getfield 247, 3) := okd_at mX12_order_0 40 rfl
theorem dX12_order_73 : decode cX12_order 73 = .ok (.invokevirtual 237, 3) := okd_at mX12_order_0 41 rfl
theorem dX12_order_76 : decode cX12_order 76 = .ok (.iinc 3 1, 3) := okd_at mX12_order_0 42 rfl
theorem dX12_order_79 : decode cX12_order 79 = .ok (.goto (-24), 3) := okd_at mX12_order_0 43 rfl
theorem dX12_order_82 : decode cX12_order 82 = .ok (.iconst 0, 1) := okd_at mX12_order_0 44 rfl
theorem dX12_order_83 : decode cX12_order 83 = .ok (.istore_n 3, 1) := okd_at mX12_order_0 45 rfl
theorem dX12_order_84 : decode cX12_order 84 = .ok (.iload_n 3, 1) := okd_at mX12_order_0 46 rfl
theorem dX12_order_85 : decode cX12_order 85 = .ok (.bipush 6, 2) := okd_at mX12_order_0 47 rfl
theorem dX12_order_87 : decode cX12_order 87 = .ok (.if_icmp .ge 16, 3) := okd_at mX12_order_0 48 rfl
theorem dX12_order_90 : decode cX12_order 90 = .ok (.aload_n 0, 1) := okd_at mX12_order_0 49 rfl
theorem dX12_order_91 : decode cX12_order 91 = .ok (.getfield 73, 3) := okd_at mX12_order_0 50 rfl
theorem dX12_order_94 : decode cX12_order 94 = .ok (.iload_n 3, 1) := okd_at mX12_order_0 51 rfl
theorem dX12_order_95 : decode cX12_order 95 = .ok (.iload_n 3, 1) := okd_at mX12_order_0 52 rfl
theorem dX12_order_96 : decode cX12_order 96 = .ok (.iastore, 1) := okd_at mX12_order_0 53 rfl
theorem dX12_order_97 : decode cX12_order 97 = .ok (.iinc 3 1, 3) := okd_at mX12_order_0 54 rfl
theorem dX12_order_100 : decode cX12_order 100 = .ok (.goto (-16), 3) := okd_at mX12_order_0 55 rfl
theorem dX12_order_103 : decode cX12_order 103 = .ok (.aload_n 0, 1) := okd_at mX12_order_0 56 rfl
theorem dX12_order_104 : decode cX12_order 104 = .ok (.iload_n 1, 1) := okd_at mX12_order_0 57 rfl
theorem dX12_order_105 : decode cX12_order 105 = .ok (.invokevirtual 244, 3) := okd_at mX12_order_0 58 rfl
theorem dX12_order_108 : decode cX12_order 108 = .ok (.ireturn, 1) := okd_at mX12_order_0 59 rfl
def lmX12_put_0 : List (Nat × Instr × Nat) := [(0, .aload_n 0, 1), (1, .iload_n 1, 1), (2, .invokevirtual 106, 3), (5, .ifCond .ne 6, 3), (8, .bipush (-5), 2), (10, .ireturn, 1), (11, .iload_n 2, 1), (12, .iconst 0, 1), (13, .iconst 2, 1), (14, .invokestatic 93, 3), (17, .ifCond .eq 13, 3), (20, .iload_n 3, 1), (21, .iconst 0, 1), (22, .bipush 99, 2), (24, .invokestatic 93, 3), (27, .ifCond .ne 6, 3), (30, .bipush (-7), 2), (32, .ireturn, 1), (33, .aload_n 0, 1), (34, .getfield 7, 3), (37, .iconst 3, 1), (38, .iload_n 1, 1), (39, .imul, 1), (40, .iload_n 2, 1), (41, .iadd, 1), (42, .iaload, 1), (43, .istore 4, 2), (45, .aload_n 0, 1), (46, .getfield 7, 3), (49, .iconst 3, 1), (50, .iload_n 1, 1), (51, .imul, 1), (52, .iload_n 2, 1), (53, .iadd, 1), (54, .iload_n 3, 1), (55, .iastore, 1), (56, .iload 4, 2), (58, .ireturn, 1)]
theorem mX12_put_0 : okd cX12_put lmX12_put_0 = true := by decide +kernel
theorem dX12_put_0 : decode cX12_put 0 = .ok (.aload_n 0, 1) := okd_at mX12_put_0 0 rfl
theorem dX12_put_1 : decode cX12_put 1 = .ok (.iload_n 1, 1) := okd_at mX12_put_0 1 rfl
theorem dX12_put_2 : decode cX12_put 2 = .ok (.invokevirtual 106, 3) := okd_at mX12_put_0 2 rfl
theorem dX12_put_5 : decode cX12_put 5 = .ok (.ifCond .ne 6, 3) := okd_at mX12_put_0 3 rfl
theorem dX12_put_8 : decode cX12_put 8 = .ok (.bipush (-5), 2) := okd_at mX12_put_0 4 rfl
theorem dX12_put_10 : decode cX12_put 10 = .ok (.ireturn, 1) := okd_at mX12_put_0 5 rfl
theorem dX12_put_11 : decode cX12_put 11 = .ok (.iload_n 2, 1) := okd_at mX12_put_0 6 rfl
theorem dX12_put_12 : decode cX12_put 12 = .ok (.iconst 0, 1) := okd_at mX12_put_0 7 rfl
theorem dX12_put_13 : decode cX12_put 13 = .ok (.iconst 2, 1) := okd_at mX12_put_0 8 rfl
theorem dX12_put_14 : decode cX12_put 14 = .ok (.invokestatic 93, 3) := okd_at mX12_put_0 9 rfl
theorem dX12_put_17 : decode cX12_put 17 = .ok (.ifCond .eq 13, 3) := okd_at mX12_put_0 10 rfl
theorem dX12_put_20 : decode cX12_put 20 = .ok (.iload_n 3, 1) := okd_at mX12_put_0 11 rfl
theorem dX12_put_21 : decode cX12_put 21 = .ok (.iconst 0, 1) := okd_at mX12_put_0 12 rfl
theorem dX12_put_22 : decode cX12_put 22 = .ok (.bipush 99, 2) := okd_at mX12_put_0 13 rfl
theorem dX12_put_24 : decode cX12_put 24 = .ok (.invokestatic 93, 3) := okd_at mX12_put_0 14 rfl
theorem dX12_put_27 : decode cX12_put 27 = .ok (.ifCond .ne 6, 3) := okd_at mX12_put_0 15 rfl
theorem dX12_put_30 : decode cX12_put 30 = .ok (.bipush (-7), 2) := okd_at mX12_put_0 16 rfl
theorem dX12_put_32 : decode cX12_put 32 = .ok (.ireturn, 1) := okd_at mX12_put_0 17 rfl
theorem dX12_put_33 : decode cX12_put 33 = .ok (.aload_n 0, 1) := okd_at mX12_put_0 18 rfl
theorem dX12_put_34 : decode cX12_put 34 = .ok (.getfield 7, 3) := okd_at mX12_put_0 19 rfl
theorem dX12_put_37 : decode cX12_put 37 = .ok (.iconst 3, 1) := okd_at mX12_put_0 20 rfl
theorem dX12_put_38 : decode cX12_put 38 = .ok (.iload_n 1, 1) := okd_at mX12_put_0 21 rfl
theorem dX12_put_39 : decode cX12_put 39 = .ok (.imul, 1) := okd_at mX12_put_0 22 rfl
theorem dX12_put_40 : decode cX12_put 40 = .ok (.iload_n 2, 1) := okd_at mX12_put_0 23 rfl
theorem dX12_put_41 : decode cX12_put 41 = .ok (.iadd, 1) := okd_at mX12_put_0 24 rfl
theorem dX12_put_42 : decode cX12_put 42 = .ok (.iaload, 1) := okd_at mX12_put_0 25 rfl
theorem dX12_put_43 : decode cX12_put 43 = .ok (.istore 4, 2) := okd_at mX12_put_0 26 rfl
theorem dX12_put_45 : decode cX12_put 45 = .ok (.aload_n 0, 1) := okd_at mX12_put_0 27 rfl
theorem dX12_put_46 : decode cX12_put 46 = .ok (.getfield 7, 3) := okd_at mX12_put_0 28 rfl
theorem dX12_put_49 : decode cX12_put 49 = .ok (.iconst 3, 1) := okd_at mX12_put_0 29 rfl
theorem dX12_put_50 : decode cX12_put 50 = .ok (.iload_n 1, 1) := okd_at mX12_put_0 30 rfl
theorem dX12_put_51 : decode cX12_put 51 = .ok (.imul, 1) := okd_at mX12_put_0 31 rfl
theorem dX12_put_52 : decode cX12_put 52 = .ok (.iload_n 2, 1) := okd_at mX12_put_0 32 rfl
theorem dX12_put_53 : decode cX12_put 53 = .ok (.iadd, 1) := okd_at mX12_put_0 33 rfl
theorem dX12_put_54 : decode cX12_put 54 = .ok (.iload_n 3, 1) := okd_at mX12_put_0 34 rfl
theorem dX12_put_55 : decode cX12_put 55 = .ok (.iastore, 1) := okd_at mX12_put_0 35 rfl
theorem dX12_put_56 : decode cX12_put 56 = .ok (.iload 4, 2) := okd_at mX12_put_0 36 rfl
theorem dX12_put_58 : decode cX12_put 58 = .ok (.ireturn, 1) := okd_at mX12_put_0 37 rfl
def lmX12_puts_0 : List (Nat × Instr × Nat) := [(0, .aload_n 0, 1), (1, .getfield 25, 3), (4, .sipush 200, 3), (7, .aload_n 0, 1), (8, .getfield 100, 3), (11, .imul, 1), (12, .aload_n 0, 1), (13, .getfield 129, 3), (16, .iadd, 1), (17, .iload_n 1, 1), (18, .iastore, 1), (19, .aload_n 0, 1), (20, .dup, 1), (21, .getfield 129, 3), (24, .iconst 1, 1), (25, .iadd, 1), (26, .putfield 129, 3), (29, .return_, 1)]
theorem mX12_puts_0 : okd cX12_puts lmX12_puts_0 = true := by decide +kernel
theorem dX12_puts_0 : decode cX12_puts 0 = .ok (.aload_n 0, 1) := okd_at mX12_puts_0 0 rfl
theorem dX12_puts_1 : decode cX12_puts 1 = .ok (.getfield 25, 3) := okd_at mX12_puts_0 1 rfl
theorem dX12_puts_4 : decode cX12_puts 4 = .ok (.sipush 200, 3) := okd_at mX12_puts_0 2 rfl
theorem dX12_puts_7 : decode cX12_puts 7 = .ok (.aload_n 0, 1) := okd_at mX12_puts_0 3 rfl
theorem dX12_puts_8 : decode cX12_puts 8 = .ok (.getfield 100, 3) := okd_at mX12_puts_0 4 rfl
theorem dX12_puts_11 : decode cX12_puts 11 = .ok (.imul, 1) := okd_at mX12_puts_0 5 rfl
theorem dX12_puts_12 : decode cX12_puts 12 = .ok (.aload_n 0, 1) := okd_at mX12_puts_0 6 rfl
theorem dX12_puts_13 : decode cX12_puts 13 = .ok (.getfield 129, 3) := okd_at mX12_puts_0 7 rfl
theorem dX12_puts_16 : decode cX12_puts 16 = .ok (.iadd, 1) := okd_at mX12_puts_0 8 rfl
theorem dX12_puts_17 : decode cX12_puts 17 = .ok (.iload_n 1, 1) := okd_at mX12_puts_0 9 rfl
theorem dX12_puts_18 : decode cX12_puts 18 = .ok (.iastore, 1) := okd_at mX12_puts_0 10 rfl
theorem dX12_puts_19 : decode cX12_puts 19 = .ok (.aload_n 0, 1) := okd_at mX12_puts_0 11 rfl
theorem dX12_puts_20 : decode cX12_puts 20 = .ok (.dup, 1) := okd_at mX12_puts_0 12 rfl
theorem dX12_puts_21 : decode cX12_puts 21 = .ok (.getfield 129, 3) := okd_at mX12_puts_0 13 rfl
theorem dX12_puts_24 : decode cX12_puts 24 = .ok (.iconst 1, 1) := okd_at mX12_puts_0 14 rfl
theorem dX12_puts_25 : decode cX12_puts 25 = .ok (.iadd, 1) := okd_at mX12_puts_0 15 rfl
theorem dX12_puts_26 : decode cX12_puts 26 = .ok (.putfield 129, 3) := okd_at mX12_puts_0 16 rfl
theorem dX12_puts_29 : decode cX12_puts 29 = .ok (.return_, 1) := okd_at mX12_puts_0 17 rfl
def lmX12_quick_0 : List (Nat × Instr × Nat) := [(0, .aload_n 0, 1), (1, .iload_n 1, 1), (2, .invokevirtual 253, 3), (5, .istore 4, 2), (7, .iload 4, 2), (9, .ifCond .eq 6, 3), (12, .iload 4, 2), (14, .ireturn, 1), (15, .aload_n 0, 1), (16, .iload_n 2, 1), (17, .invokevirtual 106, 3), (20, .ifCond .ne 6, 3), (23, .bipush (-5), 2), (25, .ireturn, 1), (26, .iload_n 3, 1), (27, .iconst 0, 1), (28, .bipush 21, 2), (30, .invokestatic 93, 3), (33, .ifCond .eq 11, 3), (36, .iload_n 3, 1), (37, .bipush 10, 2), (39, .irem, 1), (40, .iconst 1, 1), (41, .if_icmp .le 6, 3), (44, .bipush (-7), 2), (46, .ireturn, 1), (47, .iconst 3, 1), (48, .iload_n 2, 1), (49, .imul, 1), (50, .iload_n 3, 1), (51, .bipush 10, 2), (53, .idiv, 1), (54, .iadd, 1), (55, .istore 5, 2), (57, .aload_n 0, 1), (58, .getfield 7, 3), (61, .iload 5, 2), (63, .iaload, 1), (64, .istore 6, 2), (66, .iconst 0, 1), (67, .istore 7, 2), (69, .iconst (-1), 1), (70, .istore 8, 2), (72, .iconst 0, 1), (73, .istore 9, 2), (75, .iload 9, 2), (77, .bipush 99, 2), (79, .if_icmp .gt 69, 3), (82, .aload_n 0, 1), (83, .getfield 7, 3), (86, .iload 5, 2), (88, .iload 9, 2), (90, .iastore, 1), (91, .aload_n 0, 1), (92, .iload_n 1, 1), (93, .invokevirtual 256, 3), (96, .iconst (-1), 1), (97, .if_icmp .ne 7, 3), (100, .iconst 1, 1), (101, .goto 4, 3)]
theorem mX12_quick_0 : okd cX12_quick lmX12_quick_0 = true := by decide +kernel
theorem dX12_quick_0 : decode cX12_quick 0 = .ok (.aload_n 0, 1) := okd_at mX12_quick_0 0 rfl
theorem dX12_quick_1 : decode cX12_quick 1 = .ok (.iload_n 1, 1) := okd_at mX12_quick_0 1 rfl
theorem dX12_quick_2 : decode cX12_quick 2 = .ok (.invokevirtual 253, 3) := okd_at mX12_quick_0 2 rfl
theorem dX12_quick_5 : decode cX12_quick 5 = .ok (.istore 4, 2) := okd_at mX12_quick_0 3 rfl
theorem dX12_quick_7 : decode cX12_quick 7 = .ok (.iload 4, 2) := okd_at mX12_quick_0 4 rfl
theorem dX12_quick_9 : decode cX12_quick 9 = .ok (.ifCond .eq 6, 3) := okd_at mX12_quick_0 5 rfl
theorem dX12_quick_12 : decode cX12_quick 12 = .ok (.iload 4, 2) := okd_at mX12_quick_0 6 rfl
theorem dX12_quick_14 : decode cX12_quick 14 = .ok (.ireturn, 1) := okd_at mX12_quick_0 7 rfl
theorem dX12_quick_15 : decode cX12_quick 15 = .ok (.aload_n 0, 1) := okd_at mX12_quick_0 8 rfl
theorem dX12_quick_16 : decode cX12_quick 16 = .ok (.iload_n 2, 1) := okd_at mX12_quick_0 9 rfl
theorem dX12_quick_17 : decode cX12_quick 17 = .ok (.invokevirtual 106, 3) := okd_at mX12_quick_0 10 rfl
theorem dX12_quick_20 : decode cX12_quick 20 = .ok (.ifCond .ne 6, 3) := okd_at mX12_quick_0 11 rfl
theorem dX12_quick_23 : decode cX12_quick 23 = .ok (.bipush (-5), 2) := okd_at mX12_quick_0 12 rfl
theorem dX12_quick_25 : decode cX12_quick 25 = .ok (.ireturn, 1) := okd_at mX12_quick_0 13 rfl
theorem dX12_quick_26 : decode cX12_quick 26 = .ok (.iload_n 3, 1) := okd_at mX12_quick_0 14 rfl
theorem dX12_quick_27 : decode cX12_quick 27 = .ok (.iconst 0, 1) := okd_at mX12_quick_0 15 rfl
theorem dX12_quick_28 : decode cX12_quick 28 = .ok (.bipush 21, 2) := okd_at mX12_quick_0 16 rfl
theorem dX12_quick_30 : decode cX12_quick 30 = .ok (.invokestatic 93, 3) := okd_at mX12_quick_0 17 rfl
theorem dX12_quick_33 : decode cX12_quick 33 = .ok (.ifCond .eq 11, 3) := okd_at mX12_quick_0 18 rfl
theorem dX12_quick_36 : decode cX12_quick 36 = .ok (.iload_n 3, 1) := okd_at mX12_quick_0 19 rfl
theorem dX12_quick_37 : decode cX12_quick 37 = .ok (.bipush 10, 2) := okd_at mX12_quick_0 20 rfl
theorem dX12_quick_39 : decode cX12_quick 39 = .ok (.irem, 1) := okd_at mX12_quick_0 21 rfl
theorem dX12_quick_40 : decode cX12_quick 40 = .ok (.iconst 1, 1) := okd_at mX12_quick_0 22 rfl
theorem dX12_quick_41 : decode cX12_quick 41 = .ok (.if_icmp .le 6, 3) := okd_at mX12_quick_0 23 rfl
theorem dX12_quick_44 : decode cX12_quick 44 = .ok (.bipush (-7), 2) := okd_at mX12_quick_0 24 rfl
theorem dX12_quick_46 : decode cX12_quick 46 = .ok (.ireturn, 1) := okd_at mX12_quick_0 25 rfl
theorem dX12_quick_47 : decode cX12_quick 47 = .ok (.iconst 3, 1) := okd_at mX12_quick_0 26 rfl
theorem dX12_quick_48 : decode cX12_quick 48 = .ok (.iload_n 2, 1) := okd_at mX12_quick_0 27 rfl
theorem dX12_quick_49 : decode cX12_quick 49 = .ok (.imul, 1) := okd_at mX12_quick_0 28 rfl
theorem dX12_quick_50 : decode cX12_quick 50 = .ok (.iload_n 3, 1) := okd_at mX12_quick_0 29 rfl
theorem dX12_quick_51 : decode cX12_quick 51 = .ok (.bipush 10, 2) := okd_at mX12_quick_0 30 rfl
theorem dX12_quick_53 : decode cX12_quick 53 = .ok (.idiv, 1) := okd_at mX12_quick_0 31 rfl
theorem dX12_quick_54 : decode cX12_quick 54 = .ok (.iadd, 1) := okd_at mX12_quick_0 32 rfl
theorem dX12_quick_55 : decode cX12_quick 55 = .ok (.istore 5, 2) := okd_at mX12_quick_0 33 rfl
theorem dX12_quick_57 : decode cX12_quick 57 = .ok (.aload_n 0, 1) := okd_at mX12_quick_0 34 rfl
theorem dX12_quick_58 : decode cX12_quick 58 = .ok (.getfield 7, 3) := okd_at mX12_quick_0 35 rfl
theorem dX12_quick_61 : decode cX12_quick 61 = .ok (.iload 5, 2) := okd_at mX12_quick_0 36 rfl
theorem dX12_quick_63 : decode cX12_quick 63 = .ok (.iaload, 1) := okd_at mX12_quick_0 37 rfl
theorem dX12_quick_64 : decode cX12_quick 64 = .ok (.istore 6, 2) := okd_at mX12_quick_0 38 rfl
theorem dX12_quick_66 : decode cX12_quick 66 = .ok (.iconst 0, 1) := okd_at mX12_quick_0 39 rfl
theorem dX12_quick_67 : decode cX12_quick 67 = .ok (.istore 7, 2) := okd_at mX12_quick_0 40 rfl
theorem dX12_quick_69 : decode cX12_quick 69 = .ok (.iconst (-1), 1) := okd_at mX12_quick_0 41 rfl
theorem dX12_quick_70 : decode cX12_quick 70 = .ok (.istore 8, 2) := okd_at mX12_quick_0 42 rfl
theorem dX12_quick_72 : decode cX12_quick 72 = .ok (.iconst 0, 1) := okd_at mX12_quick_0 43 rfl
theorem dX12_quick_73 : decode cX12_quick 73 = .ok (.istore 9, 2) := okd_at mX12_quick_0 44 rfl
theorem dX12_quick_75 : decode cX12_quick 75 = .ok (.iload 9, 2) := okd_at mX12_quick_0 45 rfl
theorem dX12_quick_77 : decode cX12_quick 77 = .ok (.bipush 99, 2) := okd_at mX12_quick_0 46 rfl
theorem dX12_quick_79 : decode cX12_quick 79 = .ok (.if_icmp .gt 69, 3) := okd_at mX12_quick_0 47 rfl
theorem dX12_quick_82 : decode cX12_quick 82 = .ok (.aload_n 0, 1) := okd_at mX12_quick_0 48 rfl
theorem dX12_quick_83 : decode cX12_quick 83 = .ok (.getfield 7, 3) := okd_at mX12_quick_0 49 rfl
theorem dX12_quick_86 : decode cX12_quick 86 = .ok (.iload 5, 2) := okd_at mX12_quick_0 50 rfl
theorem dX12_quick_88 : decode cX12_quick 88 = .ok (.iload 9, 2) := okd_at mX12_quick_0 51 rfl
theorem dX12_quick_90 : decode cX12_quick 90 = .ok (.iastore, 1) := okd_at mX12_quick_0 52 rfl
theorem dX12_quick_91 : decode cX12_quick 91 = .ok (.aload_n 0, 1) := okd_at mX12_quick_0 53 rfl
theorem dX12_quick_92 : decode cX12_quick 92 = .ok (.iload_n 1, 1) := okd_at mX12_quick_0 54 rfl
theorem dX12_quick_93 : decode cX12_quick 93 = .ok (.invokevirtual 256, 3) := okd_at mX12_quick_0 55 rfl
theorem dX12_quick_96 : decode cX12_quick 96 = .ok (.iconst (-1), 1) := okd_at mX12_quick_0 56 rfl
theorem dX12_quick_97 : decode cX12_quick 97 = .ok (.if_icmp .ne 7, 3) := okd_at mX12_quick_0 57 rfl
theorem dX12_quick_100 : decode cX12_quick 100 = .ok (.iconst 1, 1) := okd_at mX12_quick_0 58 rfl
theorem dX12_quick_101 : decode cX12_quick 101 = .ok (.goto 4, 3) := okd_at mX12_quick_0 59 rfl
def lmX12_quick_1 : List (Nat × Instr × Nat) := [(104, .iconst 0, 1), (105, .istore 10, 2), (107, .iload 7, 2), (109, .iload 10, 2), (111, .ifCond .eq 7, 3), (114, .iconst 1, 1), (115, .goto 4, 3), (118, .iconst 0, 1), (119, .iadd, 1), (120, .istore 7, 2), (122, .iload 10, 2), (124, .ifCond .eq 14, 3), (127, .iload 8, 2), (129, .iconst (-1), 1), (130, .if_icmp .ne 8, 3), (133, .iload 9, 2), (135, .goto 5, 3), (138, .iload 8, 2), (140, .istore 8, 2), (142, .iinc 9 1, 3), (145, .goto (-70), 3), (148, .aload_n 0, 1), (149, .getfield 7, 3), (152, .iload 5, 2), (154, .iload 6, 2), (156, .iastore, 1), (157, .iload_n 3, 1), (158, .bipush 10, 2), (160, .irem, 1), (161, .ifCond .ne 8, 3), (164, .iload 7, 2), (166, .goto 5, 3), (169, .iload 8, 2), (171, .ireturn, 1)]
theorem mX12_quick_1 : okd cX12_quick lmX12_quick_1 = true := by decide +kernel
theorem dX12_quick_104 : decode cX12_quick 104 = .ok (.iconst 0, 1) := okd_at mX12_quick_1 0 rfl
theorem dX12_quick_105 : decode cX12_quick 105 = .ok (.istore 10, 2) := okd_at mX12_quick_1 1 rfl
theorem dX12_quick_107 : decode cX12_quick 107 = .ok (.iload 7, 2) := okd_at mX12_quick_1 2 rfl
theorem dX12_quick_109 : decode cX12_quick 109 = .ok (.iload 10, 2) := okd_at mX12_quick_1 3 rfl
theorem dX12_quick_111 : decode cX12_quick 111 = .ok (.ifCond .eq 7, 3) := okd_at mX12_quick_1 4 rfl
theorem dX12_quick_114 : decode cX12_quick 114 = .ok (.iconst 1, 1) := okd_at mX12_quick_1 5 rfl
theorem dX12_quick_115 : decode cX12_quick 115 = .ok (.goto 4, 3) := okd_at mX12_quick_1 6 rfl
theorem dX12_quick_118 : decode cX12_quick 118 = .ok (.iconst 0, 1) := okd_at mX12_quick_1 7 rfl
theorem dX12_quick_119 : decode cX12_quick 119 = .ok (.iadd, 1) := okd_at mX12_quick_1 8 rfl
theorem dX12_quick_120 : decode cX12_quick 120 = .ok (.istore 7, 2) := okd_at mX12_quick_1 9 rfl
theorem dX12_quick_122 : decode cX12_quick 122 = .ok (.iload 10, 2) := okd_at mX12_quick_1 10 rfl
theorem dX12_quick_124 : decode cX12_quick 124 = .ok (.ifCond .eq 14, 3) := okd_at mX12_quick_1 11 rfl
theorem dX12_quick_127 : decode cX12_quick 127 = .ok (.iload 8, 2) := okd_at mX12_quick_1 12 rfl
theorem dX12_quick_129 : decode cX12_quick 129 = .ok (.iconst (-1), 1) := okd_at mX12_quick_1 13 rfl
theorem dX12_quick_130 : decode cX12_quick 130 = .ok (.if_icmp .ne 8, 3) := okd_at mX12_quick_1 14 rfl
theorem dX12_quick_133 : decode cX12_quick 133 = .ok (.iload 9, 2) := okd_at mX12_quick_1 15 rfl
theorem dX12_quick_135 : decode cX12_quick 135 = .ok (.goto 5, 3) := okd_at mX12_quick_1 16 rfl
theorem dX12_quick_138 : decode cX12_quick 138 = .ok (.iload 8, 2) := okd_at mX12_quick_1 17 rfl
theorem dX12_quick_140 : decode cX12_quick 140 = .ok (.istore 8, 2) := okd_at mX12_quick_1 18 rfl
theorem dX12_quick_142 : decode cX12_quick 142 = .ok (.iinc 9 1, 3) := okd_at mX12_quick_1 19 rfl
theorem dX12_quick_145 : decode cX12_quick 145 = .ok (.goto (-70), 3) := okd_at mX12_quick_1 20 rfl
theorem dX12_quick_148 : decode cX12_quick 148 = .ok (.aload_n 0, 1) := okd_at mX12_quick_1 21 rfl
theorem dX12_quick_149 : decode cX12_quick 149 = .ok (.getfield 7, 3) := okd_at mX12_quick_1 22 rfl
theorem dX12_quick_152 : decode cX12_quick 152 = .ok (.iload 5, 2) := okd_at mX12_quick_1 23 rfl
theorem dX12_quick_154 : decode cX12_quick 154 = .ok (.iload 6, 2) := okd_at mX12_quick_1 24 rfl
theorem dX12_quick_156 : decode cX12_quick 156 = .ok (.iastore, 1) := okd_at mX12_quick_1 25 rfl
theorem dX12_quick_157 : decode cX12_quick 157 = .ok (.iload_n 3, 1) := okd_at mX12_quick_1 26 rfl
theorem dX12_quick_158 : decode cX12_quick 158 = .ok (.bipush 10, 2) := okd_at mX12_quick_1 27 rfl
theorem dX12_quick_160 : decode cX12_quick 160 = .ok (.irem, 1) := okd_at mX12_quick_1 28 rfl
theorem dX12_quick_161 : decode cX12_quick 161 = .ok (.ifCond .ne 8, 3) := okd_at mX12_quick_1 29 rfl
theorem dX12_quick_164 : decode cX12_quick 164 = .ok (.iload 7, 2) := okd_at mX12_quick_1 30 rfl
theorem dX12_quick_166 : decode cX12_quick 166 = .ok (.goto 5, 3) := okd_at mX12_quick_1 31 rfl
theorem dX12_quick_169 : decode cX12_quick 169 = .ok (.iload 8, 2) := okd_at mX12_quick_1 32 rfl
theorem dX12_quick_171 : decode cX12_quick 171 = .ok (.ireturn, 1) := okd_at mX12_quick_1 33 rfl
def lmX12_race_0 : List (Nat × Instr × Nat) := [(0, .iload_n 1, 1), (1, .iconst 0, 1), (2, .bipush 59, 2), (4, .invokestatic 93, 3), (7, .ifCond .eq 11, 3), (10, .aload_n 0, 1), (11, .iload_n 2, 1), (12, .invokevirtual 189, 3), (15, .ifCond .ne 6, 3), (18, .bipush (-2), 2), (20, .ireturn, 1), (21, .aload_n 0, 1), (22, .getfield 97, 3), (25, .bipush 6, 2), (27, .if_icmp .ne 6, 3), (30, .bipush (-4), 2), (32, .ireturn, 1), (33, .aload_n 0, 1), (34, .getfield 13, 3), (37, .aload_n 0, 1), (38, .getfield 97, 3), (41, .iload_n 1, 1), (42, .bipush 10, 2), (44, .idiv, 1), (45, .iastore, 1), (46, .aload_n 0, 1), (47, .getfield 16, 3), (50, .aload_n 0, 1), (51, .getfield 97, 3), (54, .iload_n 1, 1), (55, .bipush 10, 2), (57, .irem, 1), (58, .iastore, 1), (59, .aload_n 0, 1), (60, .getfield 19, 3), (63, .iconst 2, 1), (64, .aload_n 0, 1), (65, .getfield 97, 3), (68, .imul, 1), (69, .iload_n 2, 1), (70, .iastore, 1), (71, .aload_n 0, 1), (72, .getfield 19, 3), (75, .iconst 2, 1), (76, .aload_n 0, 1), (77, .getfield 97, 3), (80, .imul, 1), (81, .iconst 1, 1), (82, .iadd, 1), (83, .iconst 1, 1), (84, .iastore, 1), (85, .aload_n 0, 1), (86, .dup, 1), (87, .getfield 97, 3), (90, .iconst 1, 1), (91, .iadd, 1), (92, .putfield 97, 3), (95, .aload_n 0, 1), (96, .getfield 97, 3), (99, .iconst 1, 1)]
theorem mX12_race_0 : okd cX12_race lmX12_race_0 = true := by decide +kernel
theorem dX12_race_0 : decode cX12_race 0 = .ok (.iload_n 1, 1) := okd_at mX12_race_0 0 rfl
theorem dX12_race_1 : decode cX12_race 1 = .ok (.iconst 0, 1) := okd_at mX12_race_0 1 rfl
theorem dX12_race_2 : decode cX12_race 2 = .ok (.bipush 59, 2) := okd_at mX12_race_0 2 rfl
theorem dX12_race_4 : decode cX12_race 4 = .ok (.invokestatic 93, 3) := okd_at mX12_race_0 3 rfl
theorem dX12_race_7 : decode cX12_race 7 = .ok (.ifCond .eq 11, 3) := okd_at mX12_race_0 4 rfl
theorem dX12_race_10 : decode cX12_race 10 = .ok (.aload_n 0, 1) := okd_at mX12_race_0 5 rfl
theorem dX12_race_11 : decode cX12_race 11 = .ok (.iload_n 2, 1) := okd_at mX12_race_0 6 rfl
theorem dX12_race_12 : decode cX12_race 12 = .ok (.invokevirtual 189, 3) := okd_at mX12_race_0 7 rfl
theorem dX12_race_15 : decode cX12_race 15 = .ok (.ifCond .ne 6, 3) := okd_at mX12_race_0 8 rfl
theorem dX12_race_18 : decode cX12_race 18 = .ok (.bipush (-2), 2) := okd_at mX12_race_0 9 rfl
theorem dX12_race_20 : decode cX12_race 20 = .ok (.ireturn, 1) := okd_at mX12_race_0 10 rfl
theorem dX12_race_21 : decode cX12_race 21 = .ok (.aload_n 0, 1) := okd_at mX12_race_0 11 rfl
theorem dX12_race_22 : decode cX12_race 22 = .ok (.getfield 97, 3) := okd_at mX12_race_0 12 rfl
theorem dX12_race_25 : decode cX12_race 25 = .ok (.bipush 6, 2) := okd_at mX12_race_0 13 rfl
theorem dX12_race_27 : decode cX12_race 27 = .ok (.if_icmp .ne 6, 3) := okd_at mX12_race_0 14 rfl
theorem dX12_race_30 : decode cX12_race 30 = .ok (.bipush (-4), 2) := okd_at mX12_race_0 15 rfl
theorem dX12_race_32 : decode cX12_race 32 = .ok (.ireturn, 1) := okd_at mX12_race_0 16 rfl
theorem dX12_race_33 : decode cX12_race 33 = .ok (.aload_n 0, 1) := okd_at mX12_race_0 17 rfl
theorem dX12_race_34 : decode cX12_race 34 = .ok (.getfield 13, 3) := okd_at mX12_race_0 18 rfl
theorem dX12_race_37 : decode cX12_race 37 = .ok (.aload_n 0, 1) := okd_at mX12_race_0 19 rfl
theorem dX12_race_38 : decode cX12_race 38 = .ok (.getfield 97, 3) := okd_at mX12_race_0 20 rfl
theorem dX12_race_41 : decode cX12_race 41 = .ok (.iload_n 1, 1) := okd_at mX12_race_0 21 rfl
theorem dX12_race_42 : decode cX12_race 42 = .ok (.bipush 10, 2) := okd_at mX12_race_0 22 rfl
theorem dX12_race_44 : decode cX12_race 44 = .ok (.idiv, 1) := okd_at mX12_race_0 23 rfl
theorem dX12_race_45 : decode cX12_race 45 = .ok (.iastore, 1) := okd_at mX12_race_0 24 rfl
theorem dX12_race_46 : decode cX12_race 46 = .ok (.aload_n 0, 1) := okd_at mX12_race_0 25 rfl
theorem dX12_race_47 : decode cX12_race 47 = .ok (.getfield 16, 3) := okd_at mX12_race_0 26 rfl
theorem dX12_race_50 : decode cX12_race 50 = .ok (.aload_n 0, 1) := okd_at mX12_race_0 27 rfl
theorem dX12_race_51 : decode cX12_race 51 = .ok (.getfield 97, 3) := okd_at mX12_race_0 28 rfl
theorem dX12_race_54 : decode cX12_race 54 = .ok (.iload_n 1, 1) := okd_at mX12_race_0 29 rfl
theorem dX12_race_55 : decode cX12_race 55 = .ok (.bipush 10, 2) := okd_at mX12_race_0 30 rfl
theorem dX12_race_57 : decode cX12_race 57 = .ok (.irem, 1) := okd_at mX12_race_0 31 rfl
theorem dX12_race_58 : decode cX12_race 58 = .ok (.iastore, 1) := okd_at mX12_race_0 32 rfl
theorem dX12_race_59 : decode cX12_race 59 = .ok (.aload_n 0, 1) := okd_at mX12_race_0 33 rfl
theorem dX12_race_60 : decode cX12_race 60 = .ok (.getfield 19, 3) := okd_at mX12_race_0 34 rfl
theorem dX12_race_63 : decode cX12_race 63 = .ok (.iconst 2, 1) := okd_at mX12_race_0 35 rfl
theorem dX12_race_64 : decode cX12_race 64 = .ok (.aload_n 0, 1) := okd_at mX12_race_0 36 rfl
theorem dX12_race_65 : decode cX12_race 65 = .ok (.getfield 97, 3) := okd_at mX12_race_0 37 rfl
theorem dX12_race_68 : decode cX12_race 68 = .ok (.imul, 1) := okd_at mX12_race_0 38 rfl
theorem dX12_race_69 : decode cX12_race 69 = .ok (.iload_n 2, 1) := okd_at mX12_race_0 39 rfl
theorem dX12_race_70 : decode cX12_race 70 = .ok (.iastore, 1) := okd_at mX12_race_0 40 rfl
theorem dX12_race_71 : decode cX12_race 71 = .ok (.aload_n 0, 1) := okd_at mX12_race_0 41 rfl
theorem dX12_race_72 : decode cX12_race 72 = .ok (.getfield 19, 3) := okd_at mX12_race_0 42 rfl
theorem dX12_race_75 : decode cX12_race 75 = .ok (.iconst 2, 1) := okd_at mX12_race_0 43 rfl
theorem dX12_race_76 : decode cX12_race 76 = .ok (.aload_n 0, 1) := okd_at mX12_race_0 44 rfl
theorem dX12_race_77 : decode cX12_race 77 = .ok (.getfield 97, 3) := okd_at mX12_race_0 45 rfl
theorem dX12_race_80 : decode cX12_race 80 = .ok (.imul, 1) := okd_at mX12_race_0 46 rfl
theorem dX12_race_81 : decode cX12_race 81 = .ok (.iconst 1, 1) := okd_at mX12_race_0 47 rfl
theorem dX12_race_82 : decode cX12_race 82 = .ok (.iadd, 1) := okd_at mX12_race_0 48 rfl
theorem dX12_race_83 : decode cX12_race 83 = .ok (.iconst 1, 1) := okd_at mX12_race_0 49 rfl
theorem dX12_race_84 : decode cX12_race 84 = .ok (.iastore, 1) := okd_at mX12_race_0 50 rfl
theorem dX12_race_85 : decode cX12_race 85 = .ok (.aload_n 0, 1) := okd_at mX12_race_0 51 rfl
theorem dX12_race_86 : decode cX12_race 86 = .ok (.dup, 1) := okd_at mX12_race_0 52 rfl
theorem dX12_race_87 : decode cX12_race 87 = .ok (.getfield 97, 3) := okd_at mX12_race_0 53 rfl
theorem dX12_race_90 : decode cX12_race 90 = .ok (.iconst 1, 1) := okd_at mX12_race_0 54 rfl
theorem dX12_race_91 : decode cX12_race 91 = .ok (.iadd, 1) := okd_at mX12_race_0 55 rfl
theorem dX12_race_92 : decode cX12_race 92 = .ok (.putfield 97, 3) := okd_at mX12_race_0 56 rfl
theorem dX12_race_95 : decode cX12_race 95 = .ok (.aload_n 0, 1) := okd_at mX12_race_0 57 rfl
theorem dX12_race_96 : decode cX12_race 96 = .ok (.getfield 97, 3) := okd_at mX12_race_0 58 rfl
theorem dX12_race_99 : decode cX12_race 99 = .ok (.iconst 1, 1) := okd_at mX12_race_0 59 rfl
def lmX12_race_1 : List (Nat × Instr × Nat) := [(100, .isub, 1), (101, .ireturn, 1)]
theorem mX12_race_1 : okd cX12_race lmX12_race_1 = true := by decide +kernel
theorem dX12_race_100 : decode cX12_race 100 = .ok (.isub, 1) := okd_at mX12_race_1 0 rfl
theorem dX12_race_101 : decode cX12_race 101 = .ok (.ireturn, 1) := okd_at mX12_race_1 1 rfl
def lmX12_raceOf_0 : List (Nat × Instr × Nat) := [(0, .aload_n 0, 1), (1, .iload_n 1, 1), (2, .invokevirtual 201, 3), (5, .aload_n 0, 1), (6, .getfield 70, 3), (9, .iload_n 1, 1), (10, .iconst 0, 1), (11, .iastore, 1), (12, .aload_n 0, 1), (13, .iload_n 1, 1), (14, .invokevirtual 204, 3), (17, .istore_n 2, 1), (18, .iconst 0, 1), (19, .istore_n 3, 1), (20, .iload_n 3, 1), (21, .iload_n 2, 1), (22, .if_icmp .ge 75, 3), (25, .aload_n 0, 1), (26, .getfield 67, 3), (29, .iload_n 3, 1), (30, .iaload, 1), (31, .istore 4, 2), (33, .aload_n 0, 1), (34, .dup, 1), (35, .getfield 207, 3), (38, .aload_n 0, 1), (39, .iconst 1, 1), (40, .iload 4, 2), (42, .iload_n 1, 1), (43, .aload_n 0, 1), (44, .getfield 61, 3), (47, .iload 4, 2), (49, .iaload, 1), (50, .invokevirtual 185, 3), (53, .iadd, 1), (54, .putfield 207, 3), (57, .aload_n 0, 1), (58, .getfield 61, 3), (61, .iload 4, 2), (63, .dup2, 1), (64, .iaload, 1), (65, .iconst 1, 1), (66, .iadd, 1), (67, .iastore, 1), (68, .aload_n 0, 1), (69, .getfield 70, 3), (72, .iload_n 1, 1), (73, .dup2, 1), (74, .iaload, 1), (75, .iconst 1, 1), (76, .iload 4, 2), (78, .ishl, 1), (79, .ior, 1), (80, .iastore, 1), (81, .aload_n 0, 1), (82, .dup, 1), (83, .getfield 210, 3), (86, .iconst 1, 1), (87, .iadd, 1), (88, .putfield 210, 3)]
theorem mX12_raceOf_0 : okd cX12_raceOf lmX12_raceOf_0 = true := by decide +kernel
theorem dX12_raceOf_0 : decode cX12_raceOf 0 = .ok (.aload_n 0, 1) := okd_at mX12_raceOf_0 0 rfl
theorem dX12_raceOf_1 : decode cX12_raceOf 1 = .ok (.iload_n 1, 1) := okd_at mX12_raceOf_0 1 rfl
theorem dX12_raceOf_2 : decode cX12_raceOf 2 = .ok (.invokevirtual 201, 3) := okd_at mX12_raceOf_0 2 rfl
theorem dX12_raceOf_5 : decode cX12_raceOf 5 = .ok (.aload_n 0, 1) := okd_at mX12_raceOf_0 3 rfl
theorem dX12_raceOf_6 : decode cX12_raceOf 6 = .ok (.getfield 70, 3) := okd_at mX12_raceOf_0 4 rfl
theorem dX12_raceOf_9 : decode cX12_raceOf 9 = .ok (.iload_n 1, 1) := okd_at mX12_raceOf_0 5 rfl
theorem dX12_raceOf_10 : decode cX12_raceOf 10 = .ok (.iconst 0, 1) := okd_at mX12_raceOf_0 6 rfl
theorem dX12_raceOf_11 : decode cX12_raceOf 11 = .ok (.iastore, 1) := okd_at mX12_raceOf_0 7 rfl
theorem dX12_raceOf_12 : decode cX12_raceOf 12 = .ok (.aload_n 0, 1) := okd_at mX12_raceOf_0 8 rfl
theorem dX12_raceOf_13 : decode cX12_raceOf 13 = .ok (.iload_n 1, 1) := okd_at mX12_raceOf_0 9 rfl
theorem dX12_raceOf_14 : decode cX12_raceOf 14 = .ok (.invokevirtual 204, 3) := okd_at mX12_raceOf_0 10 rfl
theorem dX12_raceOf_17 : decode cX12_raceOf 17 = .ok (.istore_n 2, 1) := okd_at mX12_raceOf_0 11 rfl
theorem dX12_raceOf_18 : decode cX12_raceOf 18 = .ok (.iconst 0, 1) := okd_at mX12_raceOf_0 12 rfl
theorem dX12_raceOf_19 : decode cX12_raceOf 19 = .ok (.istore_n 3, 1) := okd_at mX12_raceOf_0 13 rfl
theorem dX12_raceOf_20 : decode cX12_raceOf 20 = .ok (.iload_n 3, 1) := okd_at mX12_raceOf_0 14 rfl
theorem dX12_raceOf_21 : decode cX12_raceOf 21 = .ok (.iload_n 2, 1) := okd_at mX12_raceOf_0 15 rfl
theorem dX12_raceOf_22 : decode cX12_raceOf 22 = .ok (.if_icmp .ge 75, 3) := okd_at mX12_raceOf_0 16 rfl
theorem dX12_raceOf_25 : decode cX12_raceOf 25 = .ok (.aload_n 0, 1) := okd_at mX12_raceOf_0 17 rfl
theorem dX12_raceOf_26 : decode cX12_raceOf 26 = .ok (.getfield 67, 3) := okd_at mX12_raceOf_0 18 rfl
theorem dX12_raceOf_29 : decode cX12_raceOf 29 = .ok (.iload_n 3, 1) := okd_at mX12_raceOf_0 19 rfl
theorem dX12_raceOf_30 : decode cX12_raceOf 30 = .ok (.iaload, 1) := okd_at mX12_raceOf_0 20 rfl
theorem dX12_raceOf_31 : decode cX12_raceOf 31 = .ok (.istore 4, 2) := okd_at mX12_raceOf_0 21 rfl
theorem dX12_raceOf_33 : decode cX12_raceOf 33 = .ok (.aload_n 0, 1) := okd_at mX12_raceOf_0 22 rfl
theorem dX12_raceOf_34 : decode cX12_raceOf 34 = .ok (.dup, 1) := okd_at mX12_raceOf_0 23 rfl
theorem dX12_raceOf_35 : decode cX12_raceOf 35 = .ok (.getfield 207, 3) := okd_at mX12_raceOf_0 24 rfl
theorem dX12_raceOf_38 : decode cX12_raceOf 38 = .ok (.aload_n 0, 1) := okd_at mX12_raceOf_0 25 rfl
theorem dX12_raceOf_39 : decode cX12_raceOf 39 = .ok (.iconst 1, 1) := okd_at mX12_raceOf_0 26 rfl
theorem dX12_raceOf_40 : decode cX12_raceOf 40 = .ok (.iload 4, 2) := okd_at mX12_raceOf_0 27 rfl
theorem dX12_raceOf_42 : decode cX12_raceOf 42 = .ok (.iload_n 1, 1) := okd_at mX12_raceOf_0 28 rfl
theorem dX12_raceOf_43 : decode cX12_raceOf 43 = .ok (.aload_n 0, 1) := okd_at mX12_raceOf_0 29 rfl
theorem dX12_raceOf_44 : decode cX12_raceOf 44 = .ok (.getfield 61, 3) := okd_at mX12_raceOf_0 30 rfl
theorem dX12_raceOf_47 : decode cX12_raceOf 47 = .ok (.iload 4, 2) := okd_at mX12_raceOf_0 31 rfl
theorem dX12_raceOf_49 : decode cX12_raceOf 49 = .ok (.iaload, 1) := okd_at mX12_raceOf_0 32 rfl
theorem dX12_raceOf_50 : decode cX12_raceOf 50 = .ok (.invokevirtual 185, 3) := okd_at mX12_raceOf_0 33 rfl
theorem dX12_raceOf_53 : decode cX12_raceOf 53 = .ok (.iadd, 1) := okd_at mX12_raceOf_0 34 rfl
theorem dX12_raceOf_54 : decode cX12_raceOf 54 = .ok (.putfield 207, 3) := okd_at mX12_raceOf_0 35 rfl
theorem dX12_raceOf_57 : decode cX12_raceOf 57 = .ok (.aload_n 0, 1) := okd_at mX12_raceOf_0 36 rfl
theorem dX12_raceOf_58 : decode cX12_raceOf 58 = .ok (.getfield 61, 3) := okd_at mX12_raceOf_0 37 rfl
theorem dX12_raceOf_61 : decode cX12_raceOf 61 = .ok (.iload 4, 2) := okd_at mX12_raceOf_0 38 rfl
theorem dX12_raceOf_63 : decode cX12_raceOf 63 = .ok (.dup2, 1) := okd_at mX12_raceOf_0 39 rfl
theorem dX12_raceOf_64 : decode cX12_raceOf 64 = .ok (.iaload, 1) := okd_at mX12_raceOf_0 40 rfl
theorem dX12_raceOf_65 : decode cX12_raceOf 65 = .ok (.iconst 1, 1) := okd_at mX12_raceOf_0 41 rfl
theorem dX12_raceOf_66 : decode cX12_raceOf 66 = .ok (.iadd, 1) := okd_at mX12_raceOf_0 42 rfl
theorem dX12_raceOf_67 : decode cX12_raceOf 67 = .ok (.iastore, 1) := okd_at mX12_raceOf_0 43 rfl
theorem dX12_raceOf_68 : decode cX12_raceOf 68 = .ok (.aload_n 0, 1) := okd_at mX12_raceOf_0 44 rfl
theorem dX12_raceOf_69 : decode cX12_raceOf 69 = .ok (.getfield 70, 3) := okd_at mX12_raceOf_0 45 rfl
theorem dX12_raceOf_72 : decode cX12_raceOf 72 = .ok (.iload_n 1, 1) := okd_at mX12_raceOf_0 46 rfl
theorem dX12_raceOf_73 : decode cX12_raceOf 73 = .ok (.dup2, 1) := okd_at mX12_raceOf_0 47 rfl
theorem dX12_raceOf_74 : decode cX12_raceOf 74 = .ok (.iaload, 1) := okd_at mX12_raceOf_0 48 rfl
theorem dX12_raceOf_75 : decode cX12_raceOf 75 = .ok (.iconst 1, 1) := okd_at mX12_raceOf_0 49 rfl
theorem dX12_raceOf_76 : decode cX12_raceOf 76 = .ok (.iload 4, 2) := okd_at mX12_raceOf_0 50 rfl
theorem dX12_raceOf_78 : decode cX12_raceOf 78 = .ok (.ishl, 1) := okd_at mX12_raceOf_0 51 rfl
theorem dX12_raceOf_79 : decode cX12_raceOf 79 = .ok (.ior, 1) := okd_at mX12_raceOf_0 52 rfl
theorem dX12_raceOf_80 : decode cX12_raceOf 80 = .ok (.iastore, 1) := okd_at mX12_raceOf_0 53 rfl
theorem dX12_raceOf_81 : decode cX12_raceOf 81 = .ok (.aload_n 0, 1) := okd_at mX12_raceOf_0 54 rfl
theorem dX12_raceOf_82 : decode cX12_raceOf 82 = .ok (.dup, 1) := okd_at mX12_raceOf_0 55 rfl
theorem dX12_raceOf_83 : decode cX12_raceOf 83 = .ok (.getfield 210, 3) := okd_at mX12_raceOf_0 56 rfl
theorem dX12_raceOf_86 : decode cX12_raceOf 86 = .ok (.iconst 1, 1) := okd_at mX12_raceOf_0 57 rfl
theorem dX12_raceOf_87 : decode cX12_raceOf 87 = .ok (.iadd, 1) := okd_at mX12_raceOf_0 58 rfl
theorem dX12_raceOf_88 : decode cX12_raceOf 88 = .ok (.putfield 210, 3) := okd_at mX12_raceOf_0 59 rfl
def lmX12_raceOf_1 : List (Nat × Instr × Nat) := [(91, .iinc 3 1, 3), (94, .goto (-74), 3), (97, .return_, 1)]
theorem mX12_raceOf_1 : okd cX12_raceOf lmX12_raceOf_1 = true := by decide +kernel
theorem dX12_raceOf_91 : decode cX12_raceOf 91 = .ok (.iinc 3 1, 3) := okd_at mX12_raceOf_1 0 rfl
theorem dX12_raceOf_94 : decode cX12_raceOf 94 = .ok (.goto (-74), 3) := okd_at mX12_raceOf_1 1 rfl
theorem dX12_raceOf_97 : decode cX12_raceOf 97 = .ok (.return_, 1) := okd_at mX12_raceOf_1 2 rfl
def lmX12_rank_0 : List (Nat × Instr × Nat) := [(0, .iload_n 0, 1), (1, .ifCond .ne 7, 3), (4, .iconst 0, 1), (5, .goto 66, 3), (8, .iload_n 0, 1), (9, .bipush 11, 2), (11, .if_icmp .ne 7, 3), (14, .iconst 1, 1), (15, .goto 56, 3), (18, .iload_n 0, 1), (19, .bipush 12, 2), (21, .if_icmp .ne 7, 3), (24, .iconst 2, 1), (25, .goto 46, 3), (28, .iload_n 0, 1), (29, .bipush 13, 2), (31, .if_icmp .ne 7, 3), (34, .iconst 3, 1), (35, .goto 36, 3), (38, .iload_n 0, 1), (39, .bipush 15, 2), (41, .if_icmp .gt 7, 3), (44, .iconst 4, 1), (45, .goto 26, 3), (48, .iload_n 0, 1), (49, .bipush 17, 2), (51, .if_icmp .gt 7, 3), (54, .iconst 5, 1), (55, .goto 16, 3), (58, .iload_n 0, 1), (59, .bipush 18, 2), (61, .if_icmp .ne 8, 3), (64, .bipush 6, 2), (66, .goto 5, 3), (69, .bipush 7, 2), (71, .ireturn, 1)]
theorem mX12_rank_0 : okd cX12_rank lmX12_rank_0 = true := by decide +kernel
theorem dX12_rank_0 : decode cX12_rank 0 = .ok (.iload_n 0, 1) := okd_at mX12_rank_0 0 rfl
theorem dX12_rank_1 : decode cX12_rank 1 = .ok (.ifCond .ne 7, 3) := okd_at mX12_rank_0 1 rfl
theorem dX12_rank_4 : decode cX12_rank 4 = .ok (.iconst 0, 1) := okd_at mX12_rank_0 2 rfl
theorem dX12_rank_5 : decode cX12_rank 5 = .ok (.goto 66, 3) := okd_at mX12_rank_0 3 rfl
theorem dX12_rank_8 : decode cX12_rank 8 = .ok (.iload_n 0, 1) := okd_at mX12_rank_0 4 rfl
theorem dX12_rank_9 : decode cX12_rank 9 = .ok (.bipush 11, 2) := okd_at mX12_rank_0 5 rfl
theorem dX12_rank_11 : decode cX12_rank 11 = .ok (.if_icmp .ne 7, 3) := okd_at mX12_rank_0 6 rfl
theorem dX12_rank_14 : decode cX12_rank 14 = .ok (.iconst 1, 1) := okd_at mX12_rank_0 7 rfl
theorem dX12_rank_15 : decode cX12_rank 15 = .ok (.goto 56, 3) := okd_at mX12_rank_0 8 rfl
theorem dX12_rank_18 : decode cX12_rank 18 = .ok (.iload_n 0, 1) := okd_at mX12_rank_0 9 rfl
theorem dX12_rank_19 : decode cX12_rank 19 = .ok (.bipush 12, 2) := okd_at mX12_rank_0 10 rfl
theorem dX12_rank_21 : decode cX12_rank 21 = .ok (.if_icmp .ne 7, 3) := okd_at mX12_rank_0 11 rfl
theorem dX12_rank_24 : decode cX12_rank 24 = .ok (.iconst 2, 1) := okd_at mX12_rank_0 12 rfl
theorem dX12_rank_25 : decode cX12_rank 25 = .ok (.goto 46, 3) := okd_at mX12_rank_0 13 rfl
theorem dX12_rank_28 : decode cX12_rank 28 = .ok (.iload_n 0, 1) := okd_at mX12_rank_0 14 rfl
theorem dX12_rank_29 : decode cX12_rank 29 = .ok (.bipush 13, 2) := okd_at mX12_rank_0 15 rfl
theorem dX12_rank_31 : decode cX12_rank 31 = .ok (.if_icmp .ne 7, 3) := okd_at mX12_rank_0 16 rfl
theorem dX12_rank_34 : decode cX12_rank 34 = .ok (.iconst 3, 1) := okd_at mX12_rank_0 17 rfl
theorem dX12_rank_35 : decode cX12_rank 35 = .ok (.goto 36, 3) := okd_at mX12_rank_0 18 rfl
theorem dX12_rank_38 : decode cX12_rank 38 = .ok (.iload_n 0, 1) := okd_at mX12_rank_0 19 rfl
theorem dX12_rank_39 : decode cX12_rank 39 = .ok (.bipush 15, 2) := okd_at mX12_rank_0 20 rfl
theorem dX12_rank_41 : decode cX12_rank 41 = .ok (.if_icmp .gt 7, 3) := okd_at mX12_rank_0 21 rfl
theorem dX12_rank_44 : decode cX12_rank 44 = .ok (.iconst 4, 1) := okd_at mX12_rank_0 22 rfl
theorem dX12_rank_45 : decode cX12_rank 45 = .ok (.goto 26, 3) := okd_at mX12_rank_0 23 rfl
theorem dX12_rank_48 : decode cX12_rank 48 = .ok (.iload_n 0, 1) := okd_at mX12_rank_0 24 rfl
theorem dX12_rank_49 : decode cX12_rank 49 = .ok (.bipush 17, 2) := okd_at mX12_rank_0 25 rfl
theorem dX12_rank_51 : decode cX12_rank 51 = .ok (.if_icmp .gt 7, 3) := okd_at mX12_rank_0 26 rfl
theorem dX12_rank_54 : decode cX12_rank 54 = .ok (.iconst 5, 1) := okd_at mX12_rank_0 27 rfl
theorem dX12_rank_55 : decode cX12_rank 55 = .ok (.goto 16, 3) := okd_at mX12_rank_0 28 rfl
theorem dX12_rank_58 : decode cX12_rank 58 = .ok (.iload_n 0, 1) := okd_at mX12_rank_0 29 rfl
theorem dX12_rank_59 : decode cX12_rank 59 = .ok (.bipush 18, 2) := okd_at mX12_rank_0 30 rfl
theorem dX12_rank_61 : decode cX12_rank 61 = .ok (.if_icmp .ne 8, 3) := okd_at mX12_rank_0 31 rfl
theorem dX12_rank_64 : decode cX12_rank 64 = .ok (.bipush 6, 2) := okd_at mX12_rank_0 32 rfl
theorem dX12_rank_66 : decode cX12_rank 66 = .ok (.goto 5, 3) := okd_at mX12_rank_0 33 rfl
theorem dX12_rank_69 : decode cX12_rank 69 = .ok (.bipush 7, 2) := okd_at mX12_rank_0 34 rfl
theorem dX12_rank_71 : decode cX12_rank 71 = .ok (.ireturn, 1) := okd_at mX12_rank_0 35 rfl
def lmX12_runs_0 : List (Nat × Instr × Nat) := [(0, .aload_n 0, 1), (1, .iconst 0, 1), (2, .putfield 192, 3), (5, .iconst 0, 1), (6, .istore_n 2, 1), (7, .iload_n 2, 1), (8, .aload_n 0, 1), (9, .getfield 90, 3), (12, .if_icmp .ge 105, 3), (15, .aload_n 0, 1), (16, .getfield 19, 3), (19, .iconst 2, 1), (20, .iload_n 1, 1), (21, .imul, 1), (22, .iaload, 1), (23, .iload_n 2, 1), (24, .ishr, 1), (25, .iconst 1, 1), (26, .iand, 1), (27, .iconst 1, 1), (28, .if_icmp .ne 83, 3), (31, .aload_n 0, 1), (32, .getfield 64, 3), (35, .iload_n 2, 1), (36, .aload_n 0, 1), (37, .iload_n 2, 1), (38, .iload_n 1, 1), (39, .invokevirtual 195, 3), (42, .iastore, 1), (43, .aload_n 0, 1), (44, .getfield 192, 3), (47, .istore_n 3, 1), (48, .iload_n 3, 1), (49, .ifCond .le 45, 3), (52, .aload_n 0, 1), (53, .getfield 64, 3), (56, .aload_n 0, 1), (57, .getfield 67, 3), (60, .iload_n 3, 1), (61, .iconst 1, 1), (62, .isub, 1), (63, .iaload, 1), (64, .iaload, 1), (65, .aload_n 0, 1), (66, .getfield 64, 3), (69, .iload_n 2, 1), (70, .iaload, 1), (71, .if_icmp .ge 23, 3), (74, .aload_n 0, 1), (75, .getfield 67, 3), (78, .iload_n 3, 1), (79, .aload_n 0, 1), (80, .getfield 67, 3), (83, .iload_n 3, 1), (84, .iconst 1, 1), (85, .isub, 1), (86, .iaload, 1), (87, .iastore, 1), (88, .iinc 3 (-1), 3), (91, .goto (-43), 3)]
theorem mX12_runs_0 : okd cX12_runs lmX12_runs_0 = true := by decide +kernel
theorem dX12_runs_0 : decode cX12_runs 0 = .ok (.aload_n 0, 1) := okd_at mX12_runs_0 0 rfl
theorem dX12_runs_1 : decode cX12_runs 1 = .ok (.iconst 0, 1) := okd_at mX12_runs_0 1 rfl
theorem dX12_runs_2 : decode cX12_runs 2 = .ok (.putfield 192, 3) := okd_at mX12_runs_0 2 rfl
theorem dX12_runs_5 : decode cX12_runs 5 = .ok (.iconst 0, 1) := okd_at mX12_runs_0 3 rfl
theorem dX12_runs_6 : decode cX12_runs 6 = .ok (.istore_n 2, 1) := okd_at mX12_runs_0 4 rfl
theorem dX12_runs_7 : decode cX12_runs 7 = .ok (.iload_n 2, 1) := okd_at mX12_runs_0 5 rfl
theorem dX12_runs_8 : decode cX12_runs 8 = .ok (.aload_n 0, 1) := okd_at mX12_runs_0 6 rfl
theorem dX12_runs_9 : decode cX12_runs 9 = .ok (.getfield 90, 3) := okd_at mX12_runs_0 7 rfl
theorem dX12_runs_12 : decode cX12_runs 12 = .ok (.if_icmp .ge 105, 3) := okd_at mX12_runs_0 8 rfl
theorem dX12_runs_15 : decode cX12_runs 15 = .ok (.aload_n 0, 1) := okd_at mX12_runs_0 9 rfl
theorem dX12_runs_16 : decode cX12_runs 16 = .ok (.getfield 19, 3) := okd_at mX12_runs_0 10 rfl
theorem dX12_runs_19 : decode cX12_runs 19 = .ok (.iconst 2, 1) := okd_at mX12_runs_0 11 rfl
theorem dX12_runs_20 : decode cX12_runs 20 = .ok (.iload_n 1, 1) := okd_at mX12_runs_0 12 rfl
theorem dX12_runs_21 : decode cX12_runs 21 = .ok (.imul, 1) := okd_at mX12_runs_0 13 rfl
theorem dX12_runs_22 : decode cX12_runs 22 = .ok (.iaload, 1) := okd_at mX12_runs_0 14 rfl
theorem dX12_runs_23 : decode cX12_runs 23 = .ok (.iload_n 2, 1) := okd_at mX12_runs_0 15 rfl
theorem dX12_runs_24 : decode cX12_runs 24 = .ok (.ishr, 1) := okd_at mX12_runs_0 16 rfl
theorem dX12_runs_25 : decode cX12_runs 25 = .ok (.iconst 1, 1) := okd_at mX12_runs_0 17 rfl
theorem dX12_runs_26 : decode cX12_runs 26 = .ok (.iand, 1) := okd_at mX12_runs_0 18 rfl
theorem dX12_runs_27 : decode cX12_runs 27 = .ok (.iconst 1, 1) := okd_at mX12_runs_0 19 rfl
theorem dX12_runs_28 : decode cX12_runs 28 = .ok (.if_icmp .ne 83, 3) := okd_at mX12_runs_0 20 rfl
theorem dX12_runs_31 : decode cX12_runs 31 = .ok (.aload_n 0, 1) := okd_at mX12_runs_0 21 rfl
theorem dX12_runs_32 : decode cX12_runs 32 = .ok (.getfield 64, 3) := okd_at mX12_runs_0 22 rfl
theorem dX12_runs_35 : decode cX12_runs 35 = .ok (.iload_n 2, 1) := okd_at mX12_runs_0 23 rfl
theorem dX12_runs_36 : decode cX12_runs 36 = .ok (.aload_n 0, 1) := okd_at mX12_runs_0 24 rfl
theorem dX12_runs_37 : decode cX12_runs 37 = .ok (.iload_n 2, 1) := okd_at mX12_runs_0 25 rfl
theorem dX12_runs_38 : decode cX12_runs 38 = .ok (.iload_n 1, 1) := okd_at mX12_runs_0 26 rfl
theorem dX12_runs_39 : decode cX12_runs 39 = .ok (.invokevirtual 195, 3) := okd_at mX12_runs_0 27 rfl
theorem dX12_runs_42 : decode cX12_runs 42 = .ok (.iastore, 1) := okd_at mX12_runs_0 28 rfl
theorem dX12_runs_43 : decode cX12_runs 43 = .ok (.aload_n 0, 1) := okd_at mX12_runs_0 29 rfl
theorem dX12_runs_44 : decode cX12_runs 44 = .ok (.getfield 192, 3) := okd_at mX12_runs_0 30 rfl
theorem dX12_runs_47 : decode cX12_runs 47 = .ok (.istore_n 3, 1) := okd_at mX12_runs_0 31 rfl
theorem dX12_runs_48 : decode cX12_runs 48 = .ok (.iload_n 3, 1) := okd_at mX12_runs_0 32 rfl
theorem dX12_runs_49 : decode cX12_runs 49 = .ok (.ifCond .le 45, 3) := okd_at mX12_runs_0 33 rfl
theorem dX12_runs_52 : decode cX12_runs 52 = .ok (.aload_n 0, 1) := okd_at mX12_runs_0 34 rfl
theorem dX12_runs_53 : decode cX12_runs 53 = .ok (.getfield 64, 3) := okd_at mX12_runs_0 35 rfl
theorem dX12_runs_56 : decode cX12_runs 56 = .ok (.aload_n 0, 1) := okd_at mX12_runs_0 36 rfl
theorem dX12_runs_57 : decode cX12_runs 57 = .ok (.getfield 67, 3) := okd_at mX12_runs_0 37 rfl
theorem dX12_runs_60 : decode cX12_runs 60 = .ok (.iload_n 3, 1) := okd_at mX12_runs_0 38 rfl
theorem dX12_runs_61 : decode cX12_runs 61 = .ok (.iconst 1, 1) := okd_at mX12_runs_0 39 rfl
theorem dX12_runs_62 : decode cX12_runs 62 = .ok (.isub, 1) := okd_at mX12_runs_0 40 rfl
theorem dX12_runs_63 : decode cX12_runs 63 = .ok (.iaload, 1) := okd_at mX12_runs_0 41 rfl
theorem dX12_runs_64 : decode cX12_runs 64 = .ok (.iaload, 1) := okd_at mX12_runs_0 42 rfl
theorem dX12_runs_65 : decode cX12_runs 65 = .ok (.aload_n 0, 1) := okd_at mX12_runs_0 43 rfl
theorem dX12_runs_66 : decode cX12_runs 66 = .ok (.getfield 64, 3) := okd_at mX12_runs_0 44 rfl
theorem dX12_runs_69 : decode cX12_runs 69 = .ok (.iload_n 2, 1) := okd_at mX12_runs_0 45 rfl
theorem dX12_runs_70 : decode cX12_runs 70 = .ok (.iaload, 1) := okd_at mX12_runs_0 46 rfl
theorem dX12_runs_71 : decode cX12_runs 71 = .ok (.if_icmp .ge 23, 3) := okd_at mX12_runs_0 47 rfl
theorem dX12_runs_74 : decode cX12_runs 74 = .ok (.aload_n 0, 1) := okd_at mX12_runs_0 48 rfl
theorem dX12_runs_75 : decode cX12_runs 75 = .ok (.getfield 67, 3) := okd_at mX12_runs_0 49 rfl
theorem dX12_runs_78 : decode cX12_runs 78 = .ok (.iload_n 3, 1) := okd_at mX12_runs_0 50 rfl
theorem dX12_runs_79 : decode cX12_runs 79 = .ok (.aload_n 0, 1) := okd_at mX12_runs_0 51 rfl
theorem dX12_runs_80 : decode cX12_runs 80 = .ok (.getfield 67, 3) := okd_at mX12_runs_0 52 rfl
theorem dX12_runs_83 : decode cX12_runs 83 = .ok (.iload_n 3, 1) := okd_at mX12_runs_0 53 rfl
theorem dX12_runs_84 : decode cX12_runs 84 = .ok (.iconst 1, 1) := okd_at mX12_runs_0 54 rfl
theorem dX12_runs_85 : decode cX12_runs 85 = .ok (.isub, 1) := okd_at mX12_runs_0 55 rfl
theorem dX12_runs_86 : decode cX12_runs 86 = .ok (.iaload, 1) := okd_at mX12_runs_0 56 rfl
theorem dX12_runs_87 : decode cX12_runs 87 = .ok (.iastore, 1) := okd_at mX12_runs_0 57 rfl
theorem dX12_runs_88 : decode cX12_runs 88 = .ok (.iinc 3 (-1), 3) := okd_at mX12_runs_0 58 rfl
theorem dX12_runs_91 : decode cX12_runs 91 = .ok (.goto (-43), 3) := okd_at mX12_runs_0 59 rfl
def lmX12_runs_1 : List (Nat × Instr × Nat) := [(94, .aload_n 0, 1), (95, .getfield 67, 3), (98, .iload_n 3, 1), (99, .iload_n 2, 1), (100, .iastore, 1), (101, .aload_n 0, 1), (102, .dup, 1), (103, .getfield 192, 3), (106, .iconst 1, 1), (107, .iadd, 1), (108, .putfield 192, 3), (111, .iinc 2 1, 3), (114, .goto (-107), 3), (117, .return_, 1)]
theorem mX12_runs_1 : okd cX12_runs lmX12_runs_1 = true := by decide +kernel
theorem dX12_runs_94 : decode cX12_runs 94 = .ok (.aload_n 0, 1) := okd_at mX12_runs_1 0 rfl
theorem dX12_runs_95 : decode cX12_runs 95 = .ok (.getfield 67, 3) := okd_at mX12_runs_1 1 rfl
theorem dX12_runs_98 : decode cX12_runs 98 = .ok (.iload_n 3, 1) := okd_at mX12_runs_1 2 rfl
theorem dX12_runs_99 : decode cX12_runs 99 = .ok (.iload_n 2, 1) := okd_at mX12_runs_1 3 rfl
theorem dX12_runs_100 : decode cX12_runs 100 = .ok (.iastore, 1) := okd_at mX12_runs_1 4 rfl
theorem dX12_runs_101 : decode cX12_runs 101 = .ok (.aload_n 0, 1) := okd_at mX12_runs_1 5 rfl
theorem dX12_runs_102 : decode cX12_runs 102 = .ok (.dup, 1) := okd_at mX12_runs_1 6 rfl
theorem dX12_runs_103 : decode cX12_runs 103 = .ok (.getfield 192, 3) := okd_at mX12_runs_1 7 rfl
theorem dX12_runs_106 : decode cX12_runs 106 = .ok (.iconst 1, 1) := okd_at mX12_runs_1 8 rfl
theorem dX12_runs_107 : decode cX12_runs 107 = .ok (.iadd, 1) := okd_at mX12_runs_1 9 rfl
theorem dX12_runs_108 : decode cX12_runs 108 = .ok (.putfield 192, 3) := okd_at mX12_runs_1 10 rfl
theorem dX12_runs_111 : decode cX12_runs 111 = .ok (.iinc 2 1, 3) := okd_at mX12_runs_1 11 rfl
theorem dX12_runs_114 : decode cX12_runs 114 = .ok (.goto (-107), 3) := okd_at mX12_runs_1 12 rfl
theorem dX12_runs_117 : decode cX12_runs 117 = .ok (.return_, 1) := okd_at mX12_runs_1 13 rfl
def lmX12_says_0 : List (Nat × Instr × Nat) := [(0, .iconst 0, 1), (1, .istore_n 2, 1), (2, .aload_n 0, 1), (3, .getfield 28, 3), (6, .iconst 4, 1), (7, .aload_n 0, 1), (8, .getfield 103, 3), (11, .imul, 1), (12, .iload_n 1, 1), (13, .iadd, 1), (14, .iaload, 1), (15, .istore_n 3, 1), (16, .iload_n 3, 1), (17, .aload_n 0, 1), (18, .getfield 28, 3), (21, .iconst 4, 1), (22, .aload_n 0, 1), (23, .getfield 103, 3), (26, .imul, 1), (27, .iload_n 1, 1), (28, .iadd, 1), (29, .iconst 1, 1), (30, .iadd, 1), (31, .iaload, 1), (32, .if_icmp .ge 165, 3), (35, .aload_n 0, 1), (36, .getfield 25, 3), (39, .sipush 200, 3), (42, .aload_n 0, 1), (43, .getfield 103, 3), (46, .imul, 1), (47, .iload_n 3, 1), (48, .iadd, 1), (49, .iaload, 1), (50, .istore 4, 2), (52, .iload 4, 2), (54, .ldc 155, 2), (56, .if_icmp .ge 10, 3), (59, .iload 4, 2), (61, .bipush 11, 2), (63, .if_icmp .ge 37, 3), (66, .aload_n 0, 1), (67, .getfield 55, 3), (70, .iload_n 2, 1), (71, .iload 4, 2), (73, .bipush 11, 2), (75, .if_icmp .ge 13, 3), (78, .aload_n 0, 1), (79, .getfield 58, 3), (82, .iload 4, 2), (84, .iaload, 1), (85, .goto 8, 3), (88, .iload 4, 2), (90, .ldc 155, 2), (92, .isub, 1), (93, .iastore, 1), (94, .iinc 2 1, 3), (97, .goto 94, 3), (100, .iload 4, 2), (102, .bipush 13, 2)]
theorem mX12_says_0 : okd cX12_says lmX12_says_0 = true := by decide +kernel
theorem dX12_says_0 : decode cX12_says 0 = .ok (.iconst 0, 1) := okd_at mX12_says_0 0 rfl
theorem dX12_says_1 : decode cX12_says 1 = .ok (.istore_n 2, 1) := okd_at mX12_says_0 1 rfl
theorem dX12_says_2 : decode cX12_says 2 = .ok (.aload_n 0, 1) := okd_at mX12_says_0 2 rfl
theorem dX12_says_3 : decode cX12_says 3 = .ok (.getfield 28, 3) := okd_at mX12_says_0 3 rfl
theorem dX12_says_6 : decode cX12_says 6 = .ok (.iconst 4, 1) := okd_at mX12_says_0 4 rfl
theorem dX12_says_7 : decode cX12_says 7 = .ok (.aload_n 0, 1) := okd_at mX12_says_0 5 rfl
theorem dX12_says_8 : decode cX12_says 8 = .ok (.getfield 103, 3) := okd_at mX12_says_0 6 rfl
theorem dX12_says_11 : decode cX12_says 11 = .ok (.imul, 1) := okd_at mX12_says_0 7 rfl
theorem dX12_says_12 : decode cX12_says 12 = .ok (.iload_n 1, 1) := okd_at mX12_says_0 8 rfl
theorem dX12_says_13 : decode cX12_says 13 = .ok (.iadd, 1) := okd_at mX12_says_0 9 rfl
theorem dX12_says_14 : decode cX12_says 14 = .ok (.iaload, 1) := okd_at mX12_says_0 10 rfl
theorem dX12_says_15 : decode cX12_says 15 = .ok (.istore_n 3, 1) := okd_at mX12_says_0 11 rfl
theorem dX12_says_16 : decode cX12_says 16 = .ok (.iload_n 3, 1) := okd_at mX12_says_0 12 rfl
theorem dX12_says_17 : decode cX12_says 17 = .ok (.aload_n 0, 1) := okd_at mX12_says_0 13 rfl
theorem dX12_says_18 : decode cX12_says 18 = .ok (.getfield 28, 3) := okd_at mX12_says_0 14 rfl
theorem dX12_says_21 : decode cX12_says 21 = .ok (.iconst 4, 1) := okd_at mX12_says_0 15 rfl
theorem dX12_says_22 : decode cX12_says 22 = .ok (.aload_n 0, 1) := okd_at mX12_says_0 16 rfl
theorem dX12_says_23 : decode cX12_says 23 = .ok (.getfield 103, 3) := okd_at mX12_says_0 17 rfl
theorem dX12_says_26 : decode cX12_says 26 = .ok (.imul, 1) := okd_at mX12_says_0 18 rfl
theorem dX12_says_27 : decode cX12_says 27 = .ok (.iload_n 1, 1) := okd_at mX12_says_0 19 rfl
theorem dX12_says_28 : decode cX12_says 28 = .ok (.iadd, 1) := okd_at mX12_says_0 20 rfl
theorem dX12_says_29 : decode cX12_says 29 = .ok (.iconst 1, 1) := okd_at mX12_says_0 21 rfl
theorem dX12_says_30 : decode cX12_says 30 = .ok (.iadd, 1) := okd_at mX12_says_0 22 rfl
theorem dX12_says_31 : decode cX12_says 31 = .ok (.iaload, 1) := okd_at mX12_says_0 23 rfl
theorem dX12_says_32 : decode cX12_says 32 = .ok (.if_icmp .ge 165, 3) := okd_at mX12_says_0 24 rfl
theorem dX12_says_35 : decode cX12_says 35 = .ok (.aload_n 0, 1) := okd_at mX12_says_0 25 rfl
theorem dX12_says_36 : decode cX12_says 36 = .ok (.getfield 25, 3) := okd_at mX12_says_0 26 rfl
theorem dX12_says_39 : decode cX12_says 39 = .ok (.sipush 200, 3) := okd_at mX12_says_0 27 rfl
theorem dX12_says_42 : decode cX12_says 42 = .ok (.aload_n 0, 1) := okd_at mX12_says_0 28 rfl
theorem dX12_says_43 : decode cX12_says 43 = .ok (.getfield 103, 3) := okd_at mX12_says_0 29 rfl
theorem dX12_says_46 : decode cX12_says 46 = .ok (.imul, 1) := okd_at mX12_says_0 30 rfl
theorem dX12_says_47 : decode cX12_says 47 = .ok (.iload_n 3, 1) := okd_at mX12_says_0 31 rfl
theorem dX12_says_48 : decode cX12_says 48 = .ok (.iadd, 1) := okd_at mX12_says_0 32 rfl
theorem dX12_says_49 : decode cX12_says 49 = .ok (.iaload, 1) := okd_at mX12_says_0 33 rfl
theorem dX12_says_50 : decode cX12_says 50 = .ok (.istore 4, 2) := okd_at mX12_says_0 34 rfl
theorem dX12_says_52 : decode cX12_says 52 = .ok (.iload 4, 2) := okd_at mX12_says_0 35 rfl
theorem dX12_says_54 : decode cX12_says 54 = .ok (.ldc 155, 2) := okd_at mX12_says_0 36 rfl
theorem dX12_says_56 : decode cX12_says 56 = .ok (.if_icmp .ge 10, 3) := okd_at mX12_says_0 37 rfl
theorem dX12_says_59 : decode cX12_says 59 = .ok (.iload 4, 2) := okd_at mX12_says_0 38 rfl
theorem dX12_says_61 : decode cX12_says 61 = .ok (.bipush 11, 2) := okd_at mX12_says_0 39 rfl
theorem dX12_says_63 : decode cX12_says 63 = .ok (.if_icmp .ge 37, 3) := okd_at mX12_says_0 40 rfl
theorem dX12_says_66 : decode cX12_says 66 = .ok (.aload_n 0, 1) := okd_at mX12_says_0 41 rfl
theorem dX12_says_67 : decode cX12_says 67 = .ok (.getfield 55, 3) := okd_at mX12_says_0 42 rfl
theorem dX12_says_70 : decode cX12_says 70 = .ok (.iload_n 2, 1) := okd_at mX12_says_0 43 rfl
theorem dX12_says_71 : decode cX12_says 71 = .ok (.iload 4, 2) := okd_at mX12_says_0 44 rfl
theorem dX12_says_73 : decode cX12_says 73 = .ok (.bipush 11, 2) := okd_at mX12_says_0 45 rfl
theorem dX12_says_75 : decode cX12_says 75 = .ok (.if_icmp .ge 13, 3) := okd_at mX12_says_0 46 rfl
theorem dX12_says_78 : decode cX12_says 78 = .ok (.aload_n 0, 1) := okd_at mX12_says_0 47 rfl
theorem dX12_says_79 : decode cX12_says 79 = .ok (.getfield 58, 3) := okd_at mX12_says_0 48 rfl
theorem dX12_says_82 : decode cX12_says 82 = .ok (.iload 4, 2) := okd_at mX12_says_0 49 rfl
theorem dX12_says_84 : decode cX12_says 84 = .ok (.iaload, 1) := okd_at mX12_says_0 50 rfl
theorem dX12_says_85 : decode cX12_says 85 = .ok (.goto 8, 3) := okd_at mX12_says_0 51 rfl
theorem dX12_says_88 : decode cX12_says 88 = .ok (.iload 4, 2) := okd_at mX12_says_0 52 rfl
theorem dX12_says_90 : decode cX12_says 90 = .ok (.ldc 155, 2) := okd_at mX12_says_0 53 rfl
theorem dX12_says_92 : decode cX12_says 92 = .ok (.isub, 1) := okd_at mX12_says_0 54 rfl
theorem dX12_says_93 : decode cX12_says 93 = .ok (.iastore, 1) := okd_at mX12_says_0 55 rfl
theorem dX12_says_94 : decode cX12_says 94 = .ok (.iinc 2 1, 3) := okd_at mX12_says_0 56 rfl
theorem dX12_says_97 : decode cX12_says 97 = .ok (.goto 94, 3) := okd_at mX12_says_0 57 rfl
theorem dX12_says_100 : decode cX12_says 100 = .ok (.iload 4, 2) := okd_at mX12_says_0 58 rfl
theorem dX12_says_102 : decode cX12_says 102 = .ok (.bipush 13, 2) := okd_at mX12_says_0 59 rfl
def lmX12_says_1 : List (Nat × Instr × Nat) := [(104, .if_icmp .ne 30, 3), (107, .aload_n 0, 1), (108, .getfield 55, 3), (111, .iload_n 2, 1), (112, .iconst 1, 1), (113, .isub, 1), (114, .aload_n 0, 1), (115, .getfield 55, 3), (118, .iload_n 2, 1), (119, .iconst 1, 1), (120, .isub, 1), (121, .iaload, 1), (122, .ifCond .ne 7, 3), (125, .iconst 1, 1), (126, .goto 4, 3), (129, .iconst 0, 1), (130, .iastore, 1), (131, .goto 60, 3), (134, .iload 4, 2), (136, .bipush 19, 2), (138, .if_icmp .ne 23, 3), (141, .aload_n 0, 1), (142, .getfield 55, 3), (145, .iload_n 2, 1), (146, .iconst 1, 1), (147, .isub, 1), (148, .aload_n 0, 1), (149, .getfield 55, 3), (152, .iload_n 2, 1), (153, .iconst 1, 1), (154, .isub, 1), (155, .iaload, 1), (156, .ineg, 1), (157, .iastore, 1), (158, .goto 33, 3), (161, .iinc 2 (-1), 3), (164, .aload_n 0, 1), (165, .getfield 55, 3), (168, .iload_n 2, 1), (169, .iconst 1, 1), (170, .isub, 1), (171, .iload 4, 2), (173, .aload_n 0, 1), (174, .getfield 55, 3), (177, .iload_n 2, 1), (178, .iconst 1, 1), (179, .isub, 1), (180, .iaload, 1), (181, .aload_n 0, 1), (182, .getfield 55, 3), (185, .iload_n 2, 1), (186, .iaload, 1), (187, .invokestatic 169, 3), (190, .iastore, 1), (191, .iinc 3 1, 3), (194, .goto (-178), 3), (197, .aload_n 0, 1), (198, .getfield 55, 3), (201, .iconst 0, 1), (202, .iaload, 1)]
theorem mX12_says_1 : okd cX12_says lmX12_says_1 = true := by decide +kernel
theorem dX12_says_104 : decode cX12_says 104 = .ok (.if_icmp .ne 30, 3) := okd_at mX12_says_1 0 rfl
theorem dX12_says_107 : decode cX12_says 107 = .ok (.aload_n 0, 1) := okd_at mX12_says_1 1 rfl
theorem dX12_says_108 : decode cX12_says 108 = .ok (.getfield 55, 3) := okd_at mX12_says_1 2 rfl
theorem dX12_says_111 : decode cX12_says 111 = .ok (.iload_n 2, 1) := okd_at mX12_says_1 3 rfl
theorem dX12_says_112 : decode cX12_says 112 = .ok (.iconst 1, 1) := okd_at mX12_says_1 4 rfl
theorem dX12_says_113 : decode cX12_says 113 = .ok (.isub, 1) := okd_at mX12_says_1 5 rfl
theorem dX12_says_114 : decode cX12_says 114 = .ok (.aload_n 0, 1) := okd_at mX12_says_1 6 rfl
theorem dX12_says_115 : decode cX12_says 115 = .ok (.getfield 55, 3) := okd_at mX12_says_1 7 rfl
theorem dX12_says_118 : decode cX12_says 118 = .ok (.iload_n 2, 1) := okd_at mX12_says_1 8 rfl
theorem dX12_says_119 : decode cX12_says 119 = .ok (.iconst 1, 1) := okd_at mX12_says_1 9 rfl
theorem dX12_says_120 : decode cX12_says 120 = .ok (.isub, 1) := okd_at mX12_says_1 10 rfl
theorem dX12_says_121 : decode cX12_says 121 = .ok (.iaload, 1) := okd_at mX12_says_1 11 rfl
theorem dX12_says_122 : decode cX12_says 122 = .ok (.ifCond .ne 7, 3) := okd_at mX12_says_1 12 rfl
theorem dX12_says_125 : decode cX12_says 125 = .ok (.iconst 1, 1) := okd_at mX12_says_1 13 rfl
theorem dX12_says_126 : decode cX12_says 126 = .ok (.goto 4, 3) := okd_at mX12_says_1 14 rfl
theorem dX12_says_129 : decode cX12_says 129 = .ok (.iconst 0, 1) := okd_at mX12_says_1 15 rfl
theorem dX12_says_130 : decode cX12_says 130 = .ok (.iastore, 1) := okd_at mX12_says_1 16 rfl
theorem dX12_says_131 : decode cX12_says 131 = .ok (.goto 60, 3) := okd_at mX12_says_1 17 rfl
theorem dX12_says_134 : decode cX12_says 134 = .ok (.iload 4, 2) := okd_at mX12_says_1 18 rfl
theorem dX12_says_136 : decode cX12_says 136 = .ok (.bipush 19, 2) := okd_at mX12_says_1 19 rfl
theorem dX12_says_138 : decode cX12_says 138 = .ok (.if_icmp .ne 23, 3) := okd_at mX12_says_1 20 rfl
theorem dX12_says_141 : decode cX12_says 141 = .ok (.aload_n 0, 1) := okd_at mX12_says_1 21 rfl
theorem dX12_says_142 : decode cX12_says 142 = .ok (.getfield 55, 3) := okd_at mX12_says_1 22 rfl
theorem dX12_says_145 : decode cX12_says 145 = .ok (.iload_n 2, 1) := okd_at mX12_says_1 23 rfl
theorem dX12_says_146 : decode cX12_says 146 = .ok (.iconst 1, 1) := okd_at mX12_says_1 24 rfl
theorem dX12_says_147 : decode cX12_says 147 = .ok (.isub, 1) := okd_at mX12_says_1 25 rfl
theorem dX12_says_148 : decode cX12_says 148 = .ok (.aload_n 0, 1) := okd_at mX12_says_1 26 rfl
theorem dX12_says_149 : decode cX12_says 149 = .ok (.getfield 55, 3) := okd_at mX12_says_1 27 rfl
theorem dX12_says_152 : decode cX12_says 152 = .ok (.iload_n 2, 1) := okd_at mX12_says_1 28 rfl
theorem dX12_says_153 : decode cX12_says 153 = .ok (.iconst 1, 1) := okd_at mX12_says_1 29 rfl
theorem dX12_says_154 : decode cX12_says 154 = .ok (.isub, 1) := okd_at mX12_says_1 30 rfl
theorem dX12_says_155 : decode cX12_says 155 = .ok (.iaload, 1) := okd_at mX12_says_1 31 rfl
theorem dX12_says_156 : decode cX12_says 156 = .ok (.ineg, 1) := okd_at mX12_says_1 32 rfl
theorem dX12_says_157 : decode cX12_says 157 = .ok (.iastore, 1) := okd_at mX12_says_1 33 rfl
theorem dX12_says_158 : decode cX12_says 158 = .ok (.goto 33, 3) := okd_at mX12_says_1 34 rfl
theorem dX12_says_161 : decode cX12_says 161 = .ok (.iinc 2 (-1), 3) := okd_at mX12_says_1 35 rfl
theorem dX12_says_164 : decode cX12_says 164 = .ok (.aload_n 0, 1) := okd_at mX12_says_1 36 rfl
theorem dX12_says_165 : decode cX12_says 165 = .ok (.getfield 55, 3) := okd_at mX12_says_1 37 rfl
theorem dX12_says_168 : decode cX12_says 168 = .ok (.iload_n 2, 1) := okd_at mX12_says_1 38 rfl
theorem dX12_says_169 : decode cX12_says 169 = .ok (.iconst 1, 1) := okd_at mX12_says_1 39 rfl
theorem dX12_says_170 : decode cX12_says 170 = .ok (.isub, 1) := okd_at mX12_says_1 40 rfl
theorem dX12_says_171 : decode cX12_says 171 = .ok (.iload 4, 2) := okd_at mX12_says_1 41 rfl
theorem dX12_says_173 : decode cX12_says 173 = .ok (.aload_n 0, 1) := okd_at mX12_says_1 42 rfl
theorem dX12_says_174 : decode cX12_says 174 = .ok (.getfield 55, 3) := okd_at mX12_says_1 43 rfl
theorem dX12_says_177 : decode cX12_says 177 = .ok (.iload_n 2, 1) := okd_at mX12_says_1 44 rfl
theorem dX12_says_178 : decode cX12_says 178 = .ok (.iconst 1, 1) := okd_at mX12_says_1 45 rfl
theorem dX12_says_179 : decode cX12_says 179 = .ok (.isub, 1) := okd_at mX12_says_1 46 rfl
theorem dX12_says_180 : decode cX12_says 180 = .ok (.iaload, 1) := okd_at mX12_says_1 47 rfl
theorem dX12_says_181 : decode cX12_says 181 = .ok (.aload_n 0, 1) := okd_at mX12_says_1 48 rfl
theorem dX12_says_182 : decode cX12_says 182 = .ok (.getfield 55, 3) := okd_at mX12_says_1 49 rfl
theorem dX12_says_185 : decode cX12_says 185 = .ok (.iload_n 2, 1) := okd_at mX12_says_1 50 rfl
theorem dX12_says_186 : decode cX12_says 186 = .ok (.iaload, 1) := okd_at mX12_says_1 51 rfl
theorem dX12_says_187 : decode cX12_says 187 = .ok (.invokestatic 169, 3) := okd_at mX12_says_1 52 rfl
theorem dX12_says_190 : decode cX12_says 190 = .ok (.iastore, 1) := okd_at mX12_says_1 53 rfl
theorem dX12_says_191 : decode cX12_says 191 = .ok (.iinc 3 1, 3) := okd_at mX12_says_1 54 rfl
theorem dX12_says_194 : decode cX12_says 194 = .ok (.goto (-178), 3) := okd_at mX12_says_1 55 rfl
theorem dX12_says_197 : decode cX12_says 197 = .ok (.aload_n 0, 1) := okd_at mX12_says_1 56 rfl
theorem dX12_says_198 : decode cX12_says 198 = .ok (.getfield 55, 3) := okd_at mX12_says_1 57 rfl
theorem dX12_says_201 : decode cX12_says 201 = .ok (.iconst 0, 1) := okd_at mX12_says_1 58 rfl
theorem dX12_says_202 : decode cX12_says 202 = .ok (.iaload, 1) := okd_at mX12_says_1 59 rfl
def lmX12_says_2 : List (Nat × Instr × Nat) := [(203, .ireturn, 1)]
theorem mX12_says_2 : okd cX12_says lmX12_says_2 = true := by decide +kernel
theorem dX12_says_203 : decode cX12_says 203 = .ok (.ireturn, 1) := okd_at mX12_says_2 0 rfl
def lmX12_scoreOf_0 : List (Nat × Instr × Nat) := [(0, .aload_n 0, 1), (1, .getfield 7, 3), (4, .iconst 3, 1), (5, .iload_n 1, 1), (6, .imul, 1), (7, .iaload, 1), (8, .istore_n 3, 1), (9, .aload_n 0, 1), (10, .getfield 7, 3), (13, .iconst 3, 1), (14, .iload_n 1, 1), (15, .imul, 1), (16, .iconst 1, 1), (17, .iadd, 1), (18, .iaload, 1), (19, .istore 4, 2), (21, .aload_n 0, 1), (22, .getfield 16, 3), (25, .iload_n 2, 1), (26, .iaload, 1), (27, .istore 5, 2), (29, .aload_n 0, 1), (30, .iconst 0, 1), (31, .iload_n 1, 1), (32, .iload_n 2, 1), (33, .aload_n 0, 1), (34, .getfield 61, 3), (37, .iload_n 1, 1), (38, .iaload, 1), (39, .invokevirtual 185, 3), (42, .aload_n 0, 1), (43, .getfield 7, 3), (46, .iconst 3, 1), (47, .iload_n 1, 1), (48, .imul, 1), (49, .iconst 2, 1), (50, .iadd, 1), (51, .iaload, 1), (52, .iadd, 1), (53, .iconst 0, 1), (54, .bipush 99, 2), (56, .invokestatic 173, 3), (59, .istore 6, 2), (61, .aload_n 0, 1), (62, .getfield 13, 3), (65, .iload_n 2, 1), (66, .iaload, 1), (67, .tableswitch 100 1 5 #[33, 43, 52, 70, 81], 33), (100, .iload_n 3, 1), (101, .iconst 2, 1), (102, .idiv, 1), (103, .iload 4, 2), (105, .iadd, 1), (106, .iload 6, 2), (108, .iadd, 1), (109, .ireturn, 1), (110, .iload 4, 2), (112, .iload 5, 2), (114, .iadd, 1), (115, .iload 6, 2)]
theorem mX12_scoreOf_0 : okd cX12_scoreOf lmX12_scoreOf_0 = true := by decide +kernel
theorem dX12_scoreOf_0 : decode cX12_scoreOf 0 = .ok (.aload_n 0, 1) := okd_at mX12_scoreOf_0 0 rfl
theorem dX12_scoreOf_1 : decode cX12_scoreOf 1 = .ok (.getfield 7, 3) := okd_at mX12_scoreOf_0 1 rfl
theorem dX12_scoreOf_4 : decode cX12_scoreOf 4 = .ok (.iconst 3, 1) := okd_at mX12_scoreOf_0 2 rfl
theorem dX12_scoreOf_5 : decode cX12_scoreOf 5 = .ok (.iload_n 1, 1) := okd_at mX12_scoreOf_0 3 rfl
theorem dX12_scoreOf_6 : decode cX12_scoreOf 6 = .ok (.imul, 1) := okd_at mX12_scoreOf_0 4 rfl
theorem dX12_scoreOf_7 : decode cX12_scoreOf 7 = .ok (.iaload, 1) := okd_at mX12_scoreOf_0 5 rfl
theorem dX12_scoreOf_8 : decode cX12_scoreOf 8 = .ok (.istore_n 3, 1) := okd_at mX12_scoreOf_0 6 rfl
theorem dX12_scoreOf_9 : decode cX12_scoreOf 9 = .ok (.aload_n 0, 1) := okd_at mX12_scoreOf_0 7 rfl
theorem dX12_scoreOf_10 : decode cX12_scoreOf 10 = .ok (.getfield 7, 3) := okd_at mX12_scoreOf_0 8 rfl
theorem dX12_scoreOf_13 : decode cX12_scoreOf 13 = .ok (.iconst 3, 1) := okd_at mX12_scoreOf_0 9 rfl
theorem dX12_scoreOf_14 : decode cX12_scoreOf 14 = .ok (.iload_n 1, 1) := okd_at mX12_scoreOf_0 10 rfl
theorem dX12_scoreOf_15 : decode cX12_scoreOf 15 = .ok (.imul, 1) := okd_at mX12_scoreOf_0 11 rfl
theorem dX12_scoreOf_16 : decode cX12_scoreOf 16 = .ok (.iconst 1, 1) := okd_at mX12_scoreOf_0 12 rfl
theorem dX12_scoreOf_17 : decode cX12_scoreOf 17 = .ok (.iadd, 1) := okd_at mX12_scoreOf_0 13 rfl
theorem dX12_scoreOf_18 : decode cX12_scoreOf 18 = .ok (.iaload, 1) := okd_at mX12_scoreOf_0 14 rfl
theorem dX12_scoreOf_19 : decode cX12_scoreOf 19 = .ok (.istore 4, 2) := okd_at mX12_scoreOf_0 15 rfl
theorem dX12_scoreOf_21 : decode cX12_scoreOf 21 = .ok (.aload_n 0, 1) := okd_at mX12_scoreOf_0 16 rfl
theorem dX12_scoreOf_22 : decode cX12_scoreOf 22 = .ok (.getfield 16, 3) := okd_at mX12_scoreOf_0 17 rfl
theorem dX12_scoreOf_25 : decode cX12_scoreOf 25 = .ok (.iload_n 2, 1) := okd_at mX12_scoreOf_0 18 rfl
theorem dX12_scoreOf_26 : decode cX12_scoreOf 26 = .ok (.iaload, 1) := okd_at mX12_scoreOf_0 19 rfl
theorem dX12_scoreOf_27 : decode cX12_scoreOf 27 = .ok (.istore 5, 2) := okd_at mX12_scoreOf_0 20 rfl
theorem dX12_scoreOf_29 : decode cX12_scoreOf 29 = .ok (.aload_n 0, 1) := okd_at mX12_scoreOf_0 21 rfl
theorem dX12_scoreOf_30 : decode cX12_scoreOf 30 = .ok (.iconst 0, 1) := okd_at mX12_scoreOf_0 22 rfl
theorem dX12_scoreOf_31 : decode cX12_scoreOf 31 = .ok (.iload_n 1, 1) := okd_at mX12_scoreOf_0 23 rfl
theorem dX12_scoreOf_32 : decode cX12_scoreOf 32 = .ok (.iload_n 2, 1) := okd_at mX12_scoreOf_0 24 rfl
theorem dX12_scoreOf_33 : decode cX12_scoreOf 33 = .ok (.aload_n 0, 1) := okd_at mX12_scoreOf_0 25 rfl
theorem dX12_scoreOf_34 : decode cX12_scoreOf 34 = .ok (.getfield 61, 3) := okd_at mX12_scoreOf_0 26 rfl
theorem dX12_scoreOf_37 : decode cX12_scoreOf 37 = .ok (.iload_n 1, 1) := okd_at mX12_scoreOf_0 27 rfl
theorem dX12_scoreOf_38 : decode cX12_scoreOf 38 = .ok (.iaload, 1) := okd_at mX12_scoreOf_0 28 rfl
theorem dX12_scoreOf_39 : decode cX12_scoreOf 39 = .ok (.invokevirtual 185, 3) := okd_at mX12_scoreOf_0 29 rfl
theorem dX12_scoreOf_42 : decode cX12_scoreOf 42 = .ok (.aload_n 0, 1) := okd_at mX12_scoreOf_0 30 rfl
theorem dX12_scoreOf_43 : decode cX12_scoreOf 43 = .ok (.getfield 7, 3) := okd_at mX12_scoreOf_0 31 rfl
theorem dX12_scoreOf_46 : decode cX12_scoreOf 46 = .ok (.iconst 3, 1) := okd_at mX12_scoreOf_0 32 rfl
theorem dX12_scoreOf_47 : decode cX12_scoreOf 47 = .ok (.iload_n 1, 1) := okd_at mX12_scoreOf_0 33 rfl
theorem dX12_scoreOf_48 : decode cX12_scoreOf 48 = .ok (.imul, 1) := okd_at mX12_scoreOf_0 34 rfl
theorem dX12_scoreOf_49 : decode cX12_scoreOf 49 = .ok (.iconst 2, 1) := okd_at mX12_scoreOf_0 35 rfl
theorem dX12_scoreOf_50 : decode cX12_scoreOf 50 = .ok (.iadd, 1) := okd_at mX12_scoreOf_0 36 rfl
theorem dX12_scoreOf_51 : decode cX12_scoreOf 51 = .ok (.iaload, 1) := okd_at mX12_scoreOf_0 37 rfl
theorem dX12_scoreOf_52 : decode cX12_scoreOf 52 = .ok (.iadd, 1) := okd_at mX12_scoreOf_0 38 rfl
theorem dX12_scoreOf_53 : decode cX12_scoreOf 53 = .ok (.iconst 0, 1) := okd_at mX12_scoreOf_0 39 rfl
theorem dX12_scoreOf_54 : decode cX12_scoreOf 54 = .ok (.bipush 99, 2) := okd_at mX12_scoreOf_0 40 rfl
theorem dX12_scoreOf_56 : decode cX12_scoreOf 56 = .ok (.invokestatic 173, 3) := okd_at mX12_scoreOf_0 41 rfl
theorem dX12_scoreOf_59 : decode cX12_scoreOf 59 = .ok (.istore 6, 2) := okd_at mX12_scoreOf_0 42 rfl
theorem dX12_scoreOf_61 : decode cX12_scoreOf 61 = .ok (.aload_n 0, 1) := okd_at mX12_scoreOf_0 43 rfl
theorem dX12_scoreOf_62 : decode cX12_scoreOf 62 = .ok (.getfield 13, 3) := okd_at mX12_scoreOf_0 44 rfl
theorem dX12_scoreOf_65 : decode cX12_scoreOf 65 = .ok (.iload_n 2, 1) := okd_at mX12_scoreOf_0 45 rfl
theorem dX12_scoreOf_66 : decode cX12_scoreOf 66 = .ok (.iaload, 1) := okd_at mX12_scoreOf_0 46 rfl
theorem dX12_scoreOf_67 : decode cX12_scoreOf 67 = .ok (.tableswitch 100 1 5 #[33, 43, 52, 70, 81], 33) := okd_at mX12_scoreOf_0 47 rfl
theorem dX12_scoreOf_100 : decode cX12_scoreOf 100 = .ok (.iload_n 3, 1) := okd_at mX12_scoreOf_0 48 rfl
theorem dX12_scoreOf_101 : decode cX12_scoreOf 101 = .ok (.iconst 2, 1) := okd_at mX12_scoreOf_0 49 rfl
theorem dX12_scoreOf_102 : decode cX12_scoreOf 102 = .ok (.idiv, 1) := okd_at mX12_scoreOf_0 50 rfl
theorem dX12_scoreOf_103 : decode cX12_scoreOf 103 = .ok (.iload 4, 2) := okd_at mX12_scoreOf_0 51 rfl
theorem dX12_scoreOf_105 : decode cX12_scoreOf 105 = .ok (.iadd, 1) := okd_at mX12_scoreOf_0 52 rfl
theorem dX12_scoreOf_106 : decode cX12_scoreOf 106 = .ok (.iload 6, 2) := okd_at mX12_scoreOf_0 53 rfl
theorem dX12_scoreOf_108 : decode cX12_scoreOf 108 = .ok (.iadd, 1) := okd_at mX12_scoreOf_0 54 rfl
theorem dX12_scoreOf_109 : decode cX12_scoreOf 109 = .ok (.ireturn, 1) := okd_at mX12_scoreOf_0 55 rfl
theorem dX12_scoreOf_110 : decode cX12_scoreOf 110 = .ok (.iload 4, 2) := okd_at mX12_scoreOf_0 56 rfl
theorem dX12_scoreOf_112 : decode cX12_scoreOf 112 = .ok (.iload 5, 2) := okd_at mX12_scoreOf_0 57 rfl
theorem dX12_scoreOf_114 : decode cX12_scoreOf 114 = .ok (.iadd, 1) := okd_at mX12_scoreOf_0 58 rfl
theorem dX12_scoreOf_115 : decode cX12_scoreOf 115 = .ok (.iload 6, 2) := okd_at mX12_scoreOf_0 59 rfl
def lmX12_scoreOf_1 : List (Nat × Instr × Nat) := [(117, .iadd, 1), (118, .ireturn, 1), (119, .bipush 99, 2), (121, .iload_n 3, 1), (122, .iconst 2, 1), (123, .idiv, 1), (124, .iload 4, 2), (126, .iadd, 1), (127, .isub, 1), (128, .iload 6, 2), (130, .iload 5, 2), (132, .imul, 1), (133, .iconst 2, 1), (134, .idiv, 1), (135, .iadd, 1), (136, .ireturn, 1), (137, .iload 4, 2), (139, .iload 5, 2), (141, .iadd, 1), (142, .iload_n 3, 1), (143, .isub, 1), (144, .iload 6, 2), (146, .isub, 1), (147, .ireturn, 1), (148, .bipush 7, 2), (150, .iload_n 3, 1), (151, .imul, 1), (152, .iconst 3, 1), (153, .iload 4, 2), (155, .imul, 1), (156, .iadd, 1), (157, .iload 5, 2), (159, .iadd, 1), (160, .bipush 31, 2), (162, .irem, 1), (163, .iload 6, 2), (165, .iadd, 1), (166, .ireturn, 1), (167, .iload_n 3, 1), (168, .iload 6, 2), (170, .iadd, 1), (171, .ireturn, 1)]
theorem mX12_scoreOf_1 : okd cX12_scoreOf lmX12_scoreOf_1 = true := by decide +kernel
theorem dX12_scoreOf_117 : decode cX12_scoreOf 117 = .ok (.iadd, 1) := okd_at mX12_scoreOf_1 0 rfl
theorem dX12_scoreOf_118 : decode cX12_scoreOf 118 = .ok (.ireturn, 1) := okd_at mX12_scoreOf_1 1 rfl
theorem dX12_scoreOf_119 : decode cX12_scoreOf 119 = .ok (.bipush 99, 2) := okd_at mX12_scoreOf_1 2 rfl
theorem dX12_scoreOf_121 : decode cX12_scoreOf 121 = .ok (.iload_n 3, 1) := okd_at mX12_scoreOf_1 3 rfl
theorem dX12_scoreOf_122 : decode cX12_scoreOf 122 = .ok (.iconst 2, 1) := okd_at mX12_scoreOf_1 4 rfl
theorem dX12_scoreOf_123 : decode cX12_scoreOf 123 = .ok (.idiv, 1) := okd_at mX12_scoreOf_1 5 rfl
theorem dX12_scoreOf_124 : decode cX12_scoreOf 124 = .ok (.iload 4, 2) := okd_at mX12_scoreOf_1 6 rfl
theorem dX12_scoreOf_126 : decode cX12_scoreOf 126 = .ok (.iadd, 1) := okd_at mX12_scoreOf_1 7 rfl
theorem dX12_scoreOf_127 : decode cX12_scoreOf 127 = .ok (.isub, 1) := okd_at mX12_scoreOf_1 8 rfl
theorem dX12_scoreOf_128 : decode cX12_scoreOf 128 = .ok (.iload 6, 2) := okd_at mX12_scoreOf_1 9 rfl
theorem dX12_scoreOf_130 : decode cX12_scoreOf 130 = .ok (.iload 5, 2) := okd_at mX12_scoreOf_1 10 rfl
theorem dX12_scoreOf_132 : decode cX12_scoreOf 132 = .ok (.imul, 1) := okd_at mX12_scoreOf_1 11 rfl
theorem dX12_scoreOf_133 : decode cX12_scoreOf 133 = .ok (.iconst 2, 1) := okd_at mX12_scoreOf_1 12 rfl
theorem dX12_scoreOf_134 : decode cX12_scoreOf 134 = .ok (.idiv, 1) := okd_at mX12_scoreOf_1 13 rfl
theorem dX12_scoreOf_135 : decode cX12_scoreOf 135 = .ok (.iadd, 1) := okd_at mX12_scoreOf_1 14 rfl
theorem dX12_scoreOf_136 : decode cX12_scoreOf 136 = .ok (.ireturn, 1) := okd_at mX12_scoreOf_1 15 rfl
theorem dX12_scoreOf_137 : decode cX12_scoreOf 137 = .ok (.iload 4, 2) := okd_at mX12_scoreOf_1 16 rfl
theorem dX12_scoreOf_139 : decode cX12_scoreOf 139 = .ok (.iload 5, 2) := okd_at mX12_scoreOf_1 17 rfl
theorem dX12_scoreOf_141 : decode cX12_scoreOf 141 = .ok (.iadd, 1) := okd_at mX12_scoreOf_1 18 rfl
theorem dX12_scoreOf_142 : decode cX12_scoreOf 142 = .ok (.iload_n 3, 1) := okd_at mX12_scoreOf_1 19 rfl
theorem dX12_scoreOf_143 : decode cX12_scoreOf 143 = .ok (.isub, 1) := okd_at mX12_scoreOf_1 20 rfl
theorem dX12_scoreOf_144 : decode cX12_scoreOf 144 = .ok (.iload 6, 2) := okd_at mX12_scoreOf_1 21 rfl
theorem dX12_scoreOf_146 : decode cX12_scoreOf 146 = .ok (.isub, 1) := okd_at mX12_scoreOf_1 22 rfl
theorem dX12_scoreOf_147 : decode cX12_scoreOf 147 = .ok (.ireturn, 1) := okd_at mX12_scoreOf_1 23 rfl
theorem dX12_scoreOf_148 : decode cX12_scoreOf 148 = .ok (.bipush 7, 2) := okd_at mX12_scoreOf_1 24 rfl
theorem dX12_scoreOf_150 : decode cX12_scoreOf 150 = .ok (.iload_n 3, 1) := okd_at mX12_scoreOf_1 25 rfl
theorem dX12_scoreOf_151 : decode cX12_scoreOf 151 = .ok (.imul, 1) := okd_at mX12_scoreOf_1 26 rfl
theorem dX12_scoreOf_152 : decode cX12_scoreOf 152 = .ok (.iconst 3, 1) := okd_at mX12_scoreOf_1 27 rfl
theorem dX12_scoreOf_153 : decode cX12_scoreOf 153 = .ok (.iload 4, 2) := okd_at mX12_scoreOf_1 28 rfl
theorem dX12_scoreOf_155 : decode cX12_scoreOf 155 = .ok (.imul, 1) := okd_at mX12_scoreOf_1 29 rfl
theorem dX12_scoreOf_156 : decode cX12_scoreOf 156 = .ok (.iadd, 1) := okd_at mX12_scoreOf_1 30 rfl
theorem dX12_scoreOf_157 : decode cX12_scoreOf 157 = .ok (.iload 5, 2) := okd_at mX12_scoreOf_1 31 rfl
theorem dX12_scoreOf_159 : decode cX12_scoreOf 159 = .ok (.iadd, 1) := okd_at mX12_scoreOf_1 32 rfl
theorem dX12_scoreOf_160 : decode cX12_scoreOf 160 = .ok (.bipush 31, 2) := okd_at mX12_scoreOf_1 33 rfl
theorem dX12_scoreOf_162 : decode cX12_scoreOf 162 = .ok (.irem, 1) := okd_at mX12_scoreOf_1 34 rfl
theorem dX12_scoreOf_163 : decode cX12_scoreOf 163 = .ok (.iload 6, 2) := okd_at mX12_scoreOf_1 35 rfl
theorem dX12_scoreOf_165 : decode cX12_scoreOf 165 = .ok (.iadd, 1) := okd_at mX12_scoreOf_1 36 rfl
theorem dX12_scoreOf_166 : decode cX12_scoreOf 166 = .ok (.ireturn, 1) := okd_at mX12_scoreOf_1 37 rfl
theorem dX12_scoreOf_167 : decode cX12_scoreOf 167 = .ok (.iload_n 3, 1) := okd_at mX12_scoreOf_1 38 rfl
theorem dX12_scoreOf_168 : decode cX12_scoreOf 168 = .ok (.iload 6, 2) := okd_at mX12_scoreOf_1 39 rfl
theorem dX12_scoreOf_170 : decode cX12_scoreOf 170 = .ok (.iadd, 1) := okd_at mX12_scoreOf_1 40 rfl
theorem dX12_scoreOf_171 : decode cX12_scoreOf 171 = .ok (.ireturn, 1) := okd_at mX12_scoreOf_1 41 rfl
def lmX12_sheet_0 : List (Nat × Instr × Nat) := [(0, .iload_n 1, 1), (1, .iconst 0, 1), (2, .iconst 3, 1), (3, .invokestatic 93, 3), (6, .ifCond .eq 23, 3), (9, .iload_n 2, 1), (10, .iconst (-1), 1), (11, .iconst 2, 1), (12, .invokestatic 93, 3), (15, .ifCond .eq 14, 3), (18, .iload_n 2, 1), (19, .iconst (-1), 1), (20, .if_icmp .eq 12, 3), (23, .iload_n 3, 1), (24, .bipush 40, 2), (26, .if_icmp .le 6, 3), (29, .bipush (-2), 2), (31, .ireturn, 1), (32, .iload_n 2, 1), (33, .iconst (-1), 1), (34, .if_icmp .eq 10, 3), (37, .iload_n 3, 1), (38, .ifCond .ge 6, 3), (41, .bipush (-14), 2), (43, .ireturn, 1), (44, .aload_n 0, 1), (45, .getfield 37, 3), (48, .iload_n 1, 1), (49, .iload_n 2, 1), (50, .iastore, 1), (51, .aload_n 0, 1), (52, .getfield 40, 3), (55, .iload_n 1, 1), (56, .iload_n 2, 1), (57, .iconst (-1), 1), (58, .if_icmp .ne 7, 3), (61, .iconst 0, 1), (62, .goto 4, 3), (65, .iload_n 3, 1), (66, .iastore, 1), (67, .iconst 0, 1), (68, .istore 4, 2), (70, .iload 4, 2), (72, .bipush 40, 2), (74, .if_icmp .ge 22, 3), (77, .aload_n 0, 1), (78, .getfield 43, 3), (81, .bipush 40, 2), (83, .iload_n 1, 1), (84, .imul, 1), (85, .iload 4, 2), (87, .iadd, 1), (88, .iconst 0, 1), (89, .iastore, 1), (90, .iinc 4 1, 3), (93, .goto (-23), 3), (96, .iconst 1, 1), (97, .ireturn, 1)]
theorem mX12_sheet_0 : okd cX12_sheet lmX12_sheet_0 = true := by decide +kernel
theorem dX12_sheet_0 : decode cX12_sheet 0 = .ok (.iload_n 1, 1) := okd_at mX12_sheet_0 0 rfl
theorem dX12_sheet_1 : decode cX12_sheet 1 = .ok (.iconst 0, 1) := okd_at mX12_sheet_0 1 rfl
theorem dX12_sheet_2 : decode cX12_sheet 2 = .ok (.iconst 3, 1) := okd_at mX12_sheet_0 2 rfl
theorem dX12_sheet_3 : decode cX12_sheet 3 = .ok (.invokestatic 93, 3) := okd_at mX12_sheet_0 3 rfl
theorem dX12_sheet_6 : decode cX12_sheet 6 = .ok (.ifCond .eq 23, 3) := okd_at mX12_sheet_0 4 rfl
theorem dX12_sheet_9 : decode cX12_sheet 9 = .ok (.iload_n 2, 1) := okd_at mX12_sheet_0 5 rfl
theorem dX12_sheet_10 : decode cX12_sheet 10 = .ok (.iconst (-1), 1) := okd_at mX12_sheet_0 6 rfl
theorem dX12_sheet_11 : decode cX12_sheet 11 = .ok (.iconst 2, 1) := okd_at mX12_sheet_0 7 rfl
theorem dX12_sheet_12 : decode cX12_sheet 12 = .ok (.invokestatic 93, 3) := okd_at mX12_sheet_0 8 rfl
theorem dX12_sheet_15 : decode cX12_sheet 15 = .ok (.ifCond .eq 14, 3) := okd_at mX12_sheet_0 9 rfl
theorem dX12_sheet_18 : decode cX12_sheet 18 = .ok (.iload_n 2, 1) := okd_at mX12_sheet_0 10 rfl
theorem dX12_sheet_19 : decode cX12_sheet 19 = .ok (.iconst (-1), 1) := okd_at mX12_sheet_0 11 rfl
theorem dX12_sheet_20 : decode cX12_sheet 20 = .ok (.if_icmp .eq 12, 3) := okd_at mX12_sheet_0 12 rfl
theorem dX12_sheet_23 : decode cX12_sheet 23 = .ok (.iload_n 3, 1) := okd_at mX12_sheet_0 13 rfl
theorem dX12_sheet_24 : decode cX12_sheet 24 = .ok (.bipush 40, 2) := okd_at mX12_sheet_0 14 rfl
theorem dX12_sheet_26 : decode cX12_sheet 26 = .ok (.if_icmp .le 6, 3) := okd_at mX12_sheet_0 15 rfl
theorem dX12_sheet_29 : decode cX12_sheet 29 = .ok (.bipush (-2), 2) := okd_at mX12_sheet_0 16 rfl
theorem dX12_sheet_31 : decode cX12_sheet 31 = .ok (.ireturn, 1) := okd_at mX12_sheet_0 17 rfl
theorem dX12_sheet_32 : decode cX12_sheet 32 = .ok (.iload_n 2, 1) := okd_at mX12_sheet_0 18 rfl
theorem dX12_sheet_33 : decode cX12_sheet 33 = .ok (.iconst (-1), 1) := okd_at mX12_sheet_0 19 rfl
theorem dX12_sheet_34 : decode cX12_sheet 34 = .ok (.if_icmp .eq 10, 3) := okd_at mX12_sheet_0 20 rfl
theorem dX12_sheet_37 : decode cX12_sheet 37 = .ok (.iload_n 3, 1) := okd_at mX12_sheet_0 21 rfl
theorem dX12_sheet_38 : decode cX12_sheet 38 = .ok (.ifCond .ge 6, 3) := okd_at mX12_sheet_0 22 rfl
theorem dX12_sheet_41 : decode cX12_sheet 41 = .ok (.bipush (-14), 2) := okd_at mX12_sheet_0 23 rfl
theorem dX12_sheet_43 : decode cX12_sheet 43 = .ok (.ireturn, 1) := okd_at mX12_sheet_0 24 rfl
theorem dX12_sheet_44 : decode cX12_sheet 44 = .ok (.aload_n 0, 1) := okd_at mX12_sheet_0 25 rfl
theorem dX12_sheet_45 : decode cX12_sheet 45 = .ok (.getfield 37, 3) := okd_at mX12_sheet_0 26 rfl
theorem dX12_sheet_48 : decode cX12_sheet 48 = .ok (.iload_n 1, 1) := okd_at mX12_sheet_0 27 rfl
theorem dX12_sheet_49 : decode cX12_sheet 49 = .ok (.iload_n 2, 1) := okd_at mX12_sheet_0 28 rfl
theorem dX12_sheet_50 : decode cX12_sheet 50 = .ok (.iastore, 1) := okd_at mX12_sheet_0 29 rfl
theorem dX12_sheet_51 : decode cX12_sheet 51 = .ok (.aload_n 0, 1) := okd_at mX12_sheet_0 30 rfl
theorem dX12_sheet_52 : decode cX12_sheet 52 = .ok (.getfield 40, 3) := okd_at mX12_sheet_0 31 rfl
theorem dX12_sheet_55 : decode cX12_sheet 55 = .ok (.iload_n 1, 1) := okd_at mX12_sheet_0 32 rfl
theorem dX12_sheet_56 : decode cX12_sheet 56 = .ok (.iload_n 2, 1) := okd_at mX12_sheet_0 33 rfl
theorem dX12_sheet_57 : decode cX12_sheet 57 = .ok (.iconst (-1), 1) := okd_at mX12_sheet_0 34 rfl
theorem dX12_sheet_58 : decode cX12_sheet 58 = .ok (.if_icmp .ne 7, 3) := okd_at mX12_sheet_0 35 rfl
theorem dX12_sheet_61 : decode cX12_sheet 61 = .ok (.iconst 0, 1) := okd_at mX12_sheet_0 36 rfl
theorem dX12_sheet_62 : decode cX12_sheet 62 = .ok (.goto 4, 3) := okd_at mX12_sheet_0 37 rfl
theorem dX12_sheet_65 : decode cX12_sheet 65 = .ok (.iload_n 3, 1) := okd_at mX12_sheet_0 38 rfl
theorem dX12_sheet_66 : decode cX12_sheet 66 = .ok (.iastore, 1) := okd_at mX12_sheet_0 39 rfl
theorem dX12_sheet_67 : decode cX12_sheet 67 = .ok (.iconst 0, 1) := okd_at mX12_sheet_0 40 rfl
theorem dX12_sheet_68 : decode cX12_sheet 68 = .ok (.istore 4, 2) := okd_at mX12_sheet_0 41 rfl
theorem dX12_sheet_70 : decode cX12_sheet 70 = .ok (.iload 4, 2) := okd_at mX12_sheet_0 42 rfl
theorem dX12_sheet_72 : decode cX12_sheet 72 = .ok (.bipush 40, 2) := okd_at mX12_sheet_0 43 rfl
theorem dX12_sheet_74 : decode cX12_sheet 74 = .ok (.if_icmp .ge 22, 3) := okd_at mX12_sheet_0 44 rfl
theorem dX12_sheet_77 : decode cX12_sheet 77 = .ok (.aload_n 0, 1) := okd_at mX12_sheet_0 45 rfl
theorem dX12_sheet_78 : decode cX12_sheet 78 = .ok (.getfield 43, 3) := okd_at mX12_sheet_0 46 rfl
theorem dX12_sheet_81 : decode cX12_sheet 81 = .ok (.bipush 40, 2) := okd_at mX12_sheet_0 47 rfl
theorem dX12_sheet_83 : decode cX12_sheet 83 = .ok (.iload_n 1, 1) := okd_at mX12_sheet_0 48 rfl
theorem dX12_sheet_84 : decode cX12_sheet 84 = .ok (.imul, 1) := okd_at mX12_sheet_0 49 rfl
theorem dX12_sheet_85 : decode cX12_sheet 85 = .ok (.iload 4, 2) := okd_at mX12_sheet_0 50 rfl
theorem dX12_sheet_87 : decode cX12_sheet 87 = .ok (.iadd, 1) := okd_at mX12_sheet_0 51 rfl
theorem dX12_sheet_88 : decode cX12_sheet 88 = .ok (.iconst 0, 1) := okd_at mX12_sheet_0 52 rfl
theorem dX12_sheet_89 : decode cX12_sheet 89 = .ok (.iastore, 1) := okd_at mX12_sheet_0 53 rfl
theorem dX12_sheet_90 : decode cX12_sheet 90 = .ok (.iinc 4 1, 3) := okd_at mX12_sheet_0 54 rfl
theorem dX12_sheet_93 : decode cX12_sheet 93 = .ok (.goto (-23), 3) := okd_at mX12_sheet_0 55 rfl
theorem dX12_sheet_96 : decode cX12_sheet 96 = .ok (.iconst 1, 1) := okd_at mX12_sheet_0 56 rfl
theorem dX12_sheet_97 : decode cX12_sheet 97 = .ok (.ireturn, 1) := okd_at mX12_sheet_0 57 rfl
def lmX12_sheetWrong_0 : List (Nat × Instr × Nat) := [(0, .iload_n 1, 1), (1, .iconst 0, 1), (2, .iconst 3, 1), (3, .invokestatic 93, 3), (6, .ifCond .ne 6, 3), (9, .bipush (-2), 2), (11, .ireturn, 1), (12, .aload_n 0, 1), (13, .getfield 37, 3), (16, .iload_n 1, 1), (17, .iaload, 1), (18, .iconst (-1), 1), (19, .if_icmp .ne 6, 3), (22, .bipush (-11), 2), (24, .ireturn, 1), (25, .aload_n 0, 1), (26, .getfield 40, 3), (29, .iload_n 1, 1), (30, .iaload, 1), (31, .aload_n 0, 1), (32, .getfield 97, 3), (35, .if_icmp .ne 7, 3), (38, .iconst 0, 1), (39, .goto 5, 3), (42, .bipush (-2), 2), (44, .ireturn, 1)]
theorem mX12_sheetWrong_0 : okd cX12_sheetWrong lmX12_sheetWrong_0 = true := by decide +kernel
theorem dX12_sheetWrong_0 : decode cX12_sheetWrong 0 = .ok (.iload_n 1, 1) := okd_at mX12_sheetWrong_0 0 rfl
theorem dX12_sheetWrong_1 : decode cX12_sheetWrong 1 = .ok (.iconst 0, 1) := okd_at mX12_sheetWrong_0 1 rfl
theorem dX12_sheetWrong_2 : decode cX12_sheetWrong 2 = .ok (.iconst 3, 1) := okd_at mX12_sheetWrong_0 2 rfl
theorem dX12_sheetWrong_3 : decode cX12_sheetWrong 3 = .ok (.invokestatic 93, 3) := okd_at mX12_sheetWrong_0 3 rfl
theorem dX12_sheetWrong_6 : decode cX12_sheetWrong 6 = .ok (.ifCond .ne 6, 3) := okd_at mX12_sheetWrong_0 4 rfl
theorem dX12_sheetWrong_9 : decode cX12_sheetWrong 9 = .ok (.bipush (-2), 2) := okd_at mX12_sheetWrong_0 5 rfl
theorem dX12_sheetWrong_11 : decode cX12_sheetWrong 11 = .ok (.ireturn, 1) := okd_at mX12_sheetWrong_0 6 rfl
theorem dX12_sheetWrong_12 : decode cX12_sheetWrong 12 = .ok (.aload_n 0, 1) := okd_at mX12_sheetWrong_0 7 rfl
theorem dX12_sheetWrong_13 : decode cX12_sheetWrong 13 = .ok (.getfield 37, 3) := okd_at mX12_sheetWrong_0 8 rfl
theorem dX12_sheetWrong_16 : decode cX12_sheetWrong 16 = .ok (.iload_n 1, 1) := okd_at mX12_sheetWrong_0 9 rfl
theorem dX12_sheetWrong_17 : decode cX12_sheetWrong 17 = .ok (.iaload, 1) := okd_at mX12_sheetWrong_0 10 rfl
theorem dX12_sheetWrong_18 : decode cX12_sheetWrong 18 = .ok (.iconst (-1), 1) := okd_at mX12_sheetWrong_0 11 rfl
theorem dX12_sheetWrong_19 : decode cX12_sheetWrong 19 = .ok (.if_icmp .ne 6, 3) := okd_at mX12_sheetWrong_0 12 rfl
theorem dX12_sheetWrong_22 : decode cX12_sheetWrong 22 = .ok (.bipush (-11), 2) := okd_at mX12_sheetWrong_0 13 rfl
theorem dX12_sheetWrong_24 : decode cX12_sheetWrong 24 = .ok (.ireturn, 1) := okd_at mX12_sheetWrong_0 14 rfl
theorem dX12_sheetWrong_25 : decode cX12_sheetWrong 25 = .ok (.aload_n 0, 1) := okd_at mX12_sheetWrong_0 15 rfl
theorem dX12_sheetWrong_26 : decode cX12_sheetWrong 26 = .ok (.getfield 40, 3) := okd_at mX12_sheetWrong_0 16 rfl
theorem dX12_sheetWrong_29 : decode cX12_sheetWrong 29 = .ok (.iload_n 1, 1) := okd_at mX12_sheetWrong_0 17 rfl
theorem dX12_sheetWrong_30 : decode cX12_sheetWrong 30 = .ok (.iaload, 1) := okd_at mX12_sheetWrong_0 18 rfl
theorem dX12_sheetWrong_31 : decode cX12_sheetWrong 31 = .ok (.aload_n 0, 1) := okd_at mX12_sheetWrong_0 19 rfl
theorem dX12_sheetWrong_32 : decode cX12_sheetWrong 32 = .ok (.getfield 97, 3) := okd_at mX12_sheetWrong_0 20 rfl
theorem dX12_sheetWrong_35 : decode cX12_sheetWrong 35 = .ok (.if_icmp .ne 7, 3) := okd_at mX12_sheetWrong_0 21 rfl
theorem dX12_sheetWrong_38 : decode cX12_sheetWrong 38 = .ok (.iconst 0, 1) := okd_at mX12_sheetWrong_0 22 rfl
theorem dX12_sheetWrong_39 : decode cX12_sheetWrong 39 = .ok (.goto 5, 3) := okd_at mX12_sheetWrong_0 23 rfl
theorem dX12_sheetWrong_42 : decode cX12_sheetWrong 42 = .ok (.bipush (-2), 2) := okd_at mX12_sheetWrong_0 24 rfl
theorem dX12_sheetWrong_44 : decode cX12_sheetWrong 44 = .ok (.ireturn, 1) := okd_at mX12_sheetWrong_0 25 rfl
def lmX12_signOf_0 : List (Nat × Instr × Nat) := [(0, .aload_n 0, 1), (1, .getfield 119, 3), (4, .iconst 4, 1), (5, .if_icmp .ne 8, 3), (8, .bipush 11, 2), (10, .goto 87, 3), (13, .aload_n 0, 1), (14, .getfield 119, 3), (17, .iconst 5, 1), (18, .if_icmp .ne 8, 3), (21, .bipush 12, 2), (23, .goto 74, 3), (26, .aload_n 0, 1), (27, .getfield 119, 3), (30, .bipush 60, 2), (32, .if_icmp .ne 8, 3), (35, .bipush 14, 2), (37, .goto 60, 3), (40, .aload_n 0, 1), (41, .getfield 119, 3), (44, .bipush 61, 2), (46, .if_icmp .ne 8, 3), (49, .bipush 15, 2), (51, .goto 46, 3), (54, .aload_n 0, 1), (55, .getfield 119, 3), (58, .bipush 43, 2), (60, .if_icmp .ne 8, 3), (63, .bipush 16, 2), (65, .goto 32, 3), (68, .aload_n 0, 1), (69, .getfield 119, 3), (72, .bipush 45, 2), (74, .if_icmp .ne 8, 3), (77, .bipush 17, 2), (79, .goto 18, 3), (82, .aload_n 0, 1), (83, .getfield 119, 3), (86, .bipush 42, 2), (88, .if_icmp .ne 8, 3), (91, .bipush 18, 2), (93, .goto 4, 3), (96, .iconst (-1), 1), (97, .ireturn, 1)]
theorem mX12_signOf_0 : okd cX12_signOf lmX12_signOf_0 = true := by decide +kernel
theorem dX12_signOf_0 : decode cX12_signOf 0 = .ok (.aload_n 0, 1) := okd_at mX12_signOf_0 0 rfl
theorem dX12_signOf_1 : decode cX12_signOf 1 = .ok (.getfield 119, 3) := okd_at mX12_signOf_0 1 rfl
theorem dX12_signOf_4 : decode cX12_signOf 4 = .ok (.iconst 4, 1) := okd_at mX12_signOf_0 2 rfl
theorem dX12_signOf_5 : decode cX12_signOf 5 = .ok (.if_icmp .ne 8, 3) := okd_at mX12_signOf_0 3 rfl
theorem dX12_signOf_8 : decode cX12_signOf 8 = .ok (.bipush 11, 2) := okd_at mX12_signOf_0 4 rfl
theorem dX12_signOf_10 : decode cX12_signOf 10 = .ok (.goto 87, 3) := okd_at mX12_signOf_0 5 rfl
theorem dX12_signOf_13 : decode cX12_signOf 13 = .ok (.aload_n 0, 1) := okd_at mX12_signOf_0 6 rfl
theorem dX12_signOf_14 : decode cX12_signOf 14 = .ok (.getfield 119, 3) := okd_at mX12_signOf_0 7 rfl
theorem dX12_signOf_17 : decode cX12_signOf 17 = .ok (.iconst 5, 1) := okd_at mX12_signOf_0 8 rfl
theorem dX12_signOf_18 : decode cX12_signOf 18 = .ok (.if_icmp .ne 8, 3) := okd_at mX12_signOf_0 9 rfl
theorem dX12_signOf_21 : decode cX12_signOf 21 = .ok (.bipush 12, 2) := okd_at mX12_signOf_0 10 rfl
theorem dX12_signOf_23 : decode cX12_signOf 23 = .ok (.goto 74, 3) := okd_at mX12_signOf_0 11 rfl
theorem dX12_signOf_26 : decode cX12_signOf 26 = .ok (.aload_n 0, 1) := okd_at mX12_signOf_0 12 rfl
theorem dX12_signOf_27 : decode cX12_signOf 27 = .ok (.getfield 119, 3) := okd_at mX12_signOf_0 13 rfl
theorem dX12_signOf_30 : decode cX12_signOf 30 = .ok (.bipush 60, 2) := okd_at mX12_signOf_0 14 rfl
theorem dX12_signOf_32 : decode cX12_signOf 32 = .ok (.if_icmp .ne 8, 3) := okd_at mX12_signOf_0 15 rfl
theorem dX12_signOf_35 : decode cX12_signOf 35 = .ok (.bipush 14, 2) := okd_at mX12_signOf_0 16 rfl
theorem dX12_signOf_37 : decode cX12_signOf 37 = .ok (.goto 60, 3) := okd_at mX12_signOf_0 17 rfl
theorem dX12_signOf_40 : decode cX12_signOf 40 = .ok (.aload_n 0, 1) := okd_at mX12_signOf_0 18 rfl
theorem dX12_signOf_41 : decode cX12_signOf 41 = .ok (.getfield 119, 3) := okd_at mX12_signOf_0 19 rfl
theorem dX12_signOf_44 : decode cX12_signOf 44 = .ok (.bipush 61, 2) := okd_at mX12_signOf_0 20 rfl
theorem dX12_signOf_46 : decode cX12_signOf 46 = .ok (.if_icmp .ne 8, 3) := okd_at mX12_signOf_0 21 rfl
theorem dX12_signOf_49 : decode cX12_signOf 49 = .ok (.bipush 15, 2) := okd_at mX12_signOf_0 22 rfl
theorem dX12_signOf_51 : decode cX12_signOf 51 = .ok (.goto 46, 3) := okd_at mX12_signOf_0 23 rfl
theorem dX12_signOf_54 : decode cX12_signOf 54 = .ok (.aload_n 0, 1) := okd_at mX12_signOf_0 24 rfl
theorem dX12_signOf_55 : decode cX12_signOf 55 = .ok (.getfield 119, 3) := okd_at mX12_signOf_0 25 rfl
theorem dX12_signOf_58 : decode cX12_signOf 58 = .ok (.bipush 43, 2) := okd_at mX12_signOf_0 26 rfl
theorem dX12_signOf_60 : decode cX12_signOf 60 = .ok (.if_icmp .ne 8, 3) := okd_at mX12_signOf_0 27 rfl
theorem dX12_signOf_63 : decode cX12_signOf 63 = .ok (.bipush 16, 2) := okd_at mX12_signOf_0 28 rfl
theorem dX12_signOf_65 : decode cX12_signOf 65 = .ok (.goto 32, 3) := okd_at mX12_signOf_0 29 rfl
theorem dX12_signOf_68 : decode cX12_signOf 68 = .ok (.aload_n 0, 1) := okd_at mX12_signOf_0 30 rfl
theorem dX12_signOf_69 : decode cX12_signOf 69 = .ok (.getfield 119, 3) := okd_at mX12_signOf_0 31 rfl
theorem dX12_signOf_72 : decode cX12_signOf 72 = .ok (.bipush 45, 2) := okd_at mX12_signOf_0 32 rfl
theorem dX12_signOf_74 : decode cX12_signOf 74 = .ok (.if_icmp .ne 8, 3) := okd_at mX12_signOf_0 33 rfl
theorem dX12_signOf_77 : decode cX12_signOf 77 = .ok (.bipush 17, 2) := okd_at mX12_signOf_0 34 rfl
theorem dX12_signOf_79 : decode cX12_signOf 79 = .ok (.goto 18, 3) := okd_at mX12_signOf_0 35 rfl
theorem dX12_signOf_82 : decode cX12_signOf 82 = .ok (.aload_n 0, 1) := okd_at mX12_signOf_0 36 rfl
theorem dX12_signOf_83 : decode cX12_signOf 83 = .ok (.getfield 119, 3) := okd_at mX12_signOf_0 37 rfl
theorem dX12_signOf_86 : decode cX12_signOf 86 = .ok (.bipush 42, 2) := okd_at mX12_signOf_0 38 rfl
theorem dX12_signOf_88 : decode cX12_signOf 88 = .ok (.if_icmp .ne 8, 3) := okd_at mX12_signOf_0 39 rfl
theorem dX12_signOf_91 : decode cX12_signOf 91 = .ok (.bipush 18, 2) := okd_at mX12_signOf_0 40 rfl
theorem dX12_signOf_93 : decode cX12_signOf 93 = .ok (.goto 4, 3) := okd_at mX12_signOf_0 41 rfl
theorem dX12_signOf_96 : decode cX12_signOf 96 = .ok (.iconst (-1), 1) := okd_at mX12_signOf_0 42 rfl
theorem dX12_signOf_97 : decode cX12_signOf 97 = .ok (.ireturn, 1) := okd_at mX12_signOf_0 43 rfl
def lmX12_spare_0 : List (Nat × Instr × Nat) := [(0, .iload_n 1, 1), (1, .iconst 0, 1), (2, .iconst 2, 1), (3, .invokestatic 93, 3), (6, .ifCond .ne 7, 3), (9, .sipush (-1000), 3), (12, .ireturn, 1), (13, .aload_n 0, 1), (14, .iconst 0, 1), (15, .invokevirtual 240, 3), (18, .aload_n 0, 1), (19, .iload_n 1, 1), (20, .invokevirtual 244, 3), (23, .ireturn, 1)]
theorem mX12_spare_0 : okd cX12_spare lmX12_spare_0 = true := by decide +kernel
theorem dX12_spare_0 : decode cX12_spare 0 = .ok (.iload_n 1, 1) := okd_at mX12_spare_0 0 rfl
theorem dX12_spare_1 : decode cX12_spare 1 = .ok (.iconst 0, 1) := okd_at mX12_spare_0 1 rfl
theorem dX12_spare_2 : decode cX12_spare 2 = .ok (.iconst 2, 1) := okd_at mX12_spare_0 2 rfl
theorem dX12_spare_3 : decode cX12_spare 3 = .ok (.invokestatic 93, 3) := okd_at mX12_spare_0 3 rfl
theorem dX12_spare_6 : decode cX12_spare 6 = .ok (.ifCond .ne 7, 3) := okd_at mX12_spare_0 4 rfl
theorem dX12_spare_9 : decode cX12_spare 9 = .ok (.sipush (-1000), 3) := okd_at mX12_spare_0 5 rfl
theorem dX12_spare_12 : decode cX12_spare 12 = .ok (.ireturn, 1) := okd_at mX12_spare_0 6 rfl
theorem dX12_spare_13 : decode cX12_spare 13 = .ok (.aload_n 0, 1) := okd_at mX12_spare_0 7 rfl
theorem dX12_spare_14 : decode cX12_spare 14 = .ok (.iconst 0, 1) := okd_at mX12_spare_0 8 rfl
theorem dX12_spare_15 : decode cX12_spare 15 = .ok (.invokevirtual 240, 3) := okd_at mX12_spare_0 9 rfl
theorem dX12_spare_18 : decode cX12_spare 18 = .ok (.aload_n 0, 1) := okd_at mX12_spare_0 10 rfl
theorem dX12_spare_19 : decode cX12_spare 19 = .ok (.iload_n 1, 1) := okd_at mX12_spare_0 11 rfl
theorem dX12_spare_20 : decode cX12_spare 20 = .ok (.invokevirtual 244, 3) := okd_at mX12_spare_0 12 rfl
theorem dX12_spare_23 : decode cX12_spare 23 = .ok (.ireturn, 1) := okd_at mX12_spare_0 13 rfl
def lmX12_taken_0 : List (Nat × Instr × Nat) := [(0, .iload_n 2, 1), (1, .iconst 0, 1), (2, .bipush 6, 2), (4, .invokestatic 93, 3), (7, .ifCond .ne 6, 3), (10, .bipush (-2), 2), (12, .ireturn, 1), (13, .iload_n 1, 1), (14, .iconst 0, 1), (15, .bipush 13, 2), (17, .invokestatic 93, 3), (20, .ifCond .ne 6, 3), (23, .bipush (-12), 2), (25, .ireturn, 1), (26, .iload_n 1, 1), (27, .bipush 6, 2), (29, .if_icmp .lt 42, 3), (32, .iload_n 1, 1), (33, .bipush 6, 2), (35, .isub, 1), (36, .aload_n 0, 1), (37, .getfield 90, 3), (40, .if_icmp .lt 8, 3), (43, .bipush (-11), 2), (45, .goto 25, 3), (48, .iload_n 2, 1), (49, .bipush 6, 2), (51, .if_icmp .ne 17, 3), (54, .aload_n 0, 1), (55, .getfield 7, 3), (58, .iconst 3, 1), (59, .iload_n 1, 1), (60, .bipush 6, 2), (62, .isub, 1), (63, .imul, 1), (64, .iaload, 1), (65, .goto 5, 3), (68, .bipush (-13), 2), (70, .ireturn, 1), (71, .iload_n 1, 1), (72, .aload_n 0, 1), (73, .getfield 97, 3), (76, .if_icmp .lt 8, 3), (79, .bipush (-11), 2), (81, .goto 28, 3), (84, .iload_n 2, 1), (85, .bipush 6, 2), (87, .if_icmp .ge 20, 3), (90, .aload_n 0, 1), (91, .getfield 13, 3), (94, .iload_n 1, 1), (95, .iaload, 1), (96, .iload_n 2, 1), (97, .invokestatic 282, 3), (100, .ifCond .eq 7, 3), (103, .iload_n 1, 1), (104, .goto 5, 3), (107, .bipush (-13), 2), (109, .ireturn, 1)]
theorem mX12_taken_0 : okd cX12_taken lmX12_taken_0 = true := by decide +kernel
theorem dX12_taken_0 : decode cX12_taken 0 = .ok (.iload_n 2, 1) := okd_at mX12_taken_0 0 rfl
theorem dX12_taken_1 : decode cX12_taken 1 = .ok (.iconst 0, 1) := okd_at mX12_taken_0 1 rfl
theorem dX12_taken_2 : decode cX12_taken 2 = .ok (.bipush 6, 2) := okd_at mX12_taken_0 2 rfl
theorem dX12_taken_4 : decode cX12_taken 4 = .ok (.invokestatic 93, 3) := okd_at mX12_taken_0 3 rfl
theorem dX12_taken_7 : decode cX12_taken 7 = .ok (.ifCond .ne 6, 3) := okd_at mX12_taken_0 4 rfl
theorem dX12_taken_10 : decode cX12_taken 10 = .ok (.bipush (-2), 2) := okd_at mX12_taken_0 5 rfl
theorem dX12_taken_12 : decode cX12_taken 12 = .ok (.ireturn, 1) := okd_at mX12_taken_0 6 rfl
theorem dX12_taken_13 : decode cX12_taken 13 = .ok (.iload_n 1, 1) := okd_at mX12_taken_0 7 rfl
theorem dX12_taken_14 : decode cX12_taken 14 = .ok (.iconst 0, 1) := okd_at mX12_taken_0 8 rfl
theorem dX12_taken_15 : decode cX12_taken 15 = .ok (.bipush 13, 2) := okd_at mX12_taken_0 9 rfl
theorem dX12_taken_17 : decode cX12_taken 17 = .ok (.invokestatic 93, 3) := okd_at mX12_taken_0 10 rfl
theorem dX12_taken_20 : decode cX12_taken 20 = .ok (.ifCond .ne 6, 3) := okd_at mX12_taken_0 11 rfl
theorem dX12_taken_23 : decode cX12_taken 23 = .ok (.bipush (-12), 2) := okd_at mX12_taken_0 12 rfl
theorem dX12_taken_25 : decode cX12_taken 25 = .ok (.ireturn, 1) := okd_at mX12_taken_0 13 rfl
theorem dX12_taken_26 : decode cX12_taken 26 = .ok (.iload_n 1, 1) := okd_at mX12_taken_0 14 rfl
theorem dX12_taken_27 : decode cX12_taken 27 = .ok (.bipush 6, 2) := okd_at mX12_taken_0 15 rfl
theorem dX12_taken_29 : decode cX12_taken 29 = .ok (.if_icmp .lt 42, 3) := okd_at mX12_taken_0 16 rfl
theorem dX12_taken_32 : decode cX12_taken 32 = .ok (.iload_n 1, 1) := okd_at mX12_taken_0 17 rfl
theorem dX12_taken_33 : decode cX12_taken 33 = .ok (.bipush 6, 2) := okd_at mX12_taken_0 18 rfl
theorem dX12_taken_35 : decode cX12_taken 35 = .ok (.isub, 1) := okd_at mX12_taken_0 19 rfl
theorem dX12_taken_36 : decode cX12_taken 36 = .ok (.aload_n 0, 1) := okd_at mX12_taken_0 20 rfl
theorem dX12_taken_37 : decode cX12_taken 37 = .ok (.getfield 90, 3) := okd_at mX12_taken_0 21 rfl
theorem dX12_taken_40 : decode cX12_taken 40 = .ok (.if_icmp .lt 8, 3) := okd_at mX12_taken_0 22 rfl
theorem dX12_taken_43 : decode cX12_taken 43 = .ok (.bipush (-11), 2) := okd_at mX12_taken_0 23 rfl
theorem dX12_taken_45 : decode cX12_taken 45 = .ok (.goto 25, 3) := okd_at mX12_taken_0 24 rfl
theorem dX12_taken_48 : decode cX12_taken 48 = .ok (.iload_n 2, 1) := okd_at mX12_taken_0 25 rfl
theorem dX12_taken_49 : decode cX12_taken 49 = .ok (.bipush 6, 2) := okd_at mX12_taken_0 26 rfl
theorem dX12_taken_51 : decode cX12_taken 51 = .ok (.if_icmp .ne 17, 3) := okd_at mX12_taken_0 27 rfl
theorem dX12_taken_54 : decode cX12_taken 54 = .ok (.aload_n 0, 1) := okd_at mX12_taken_0 28 rfl
theorem dX12_taken_55 : decode cX12_taken 55 = .ok (.getfield 7, 3) := okd_at mX12_taken_0 29 rfl
theorem dX12_taken_58 : decode cX12_taken 58 = .ok (.iconst 3, 1) := okd_at mX12_taken_0 30 rfl
theorem dX12_taken_59 : decode cX12_taken 59 = .ok (.iload_n 1, 1) := okd_at mX12_taken_0 31 rfl
theorem dX12_taken_60 : decode cX12_taken 60 = .ok (.bipush 6, 2) := okd_at mX12_taken_0 32 rfl
theorem dX12_taken_62 : decode cX12_taken 62 = .ok (.isub, 1) := okd_at mX12_taken_0 33 rfl
theorem dX12_taken_63 : decode cX12_taken 63 = .ok (.imul, 1) := okd_at mX12_taken_0 34 rfl
theorem dX12_taken_64 : decode cX12_taken 64 = .ok (.iaload, 1) := okd_at mX12_taken_0 35 rfl
theorem dX12_taken_65 : decode cX12_taken 65 = .ok (.goto 5, 3) := okd_at mX12_taken_0 36 rfl
theorem dX12_taken_68 : decode cX12_taken 68 = .ok (.bipush (-13), 2) := okd_at mX12_taken_0 37 rfl
theorem dX12_taken_70 : decode cX12_taken 70 = .ok (.ireturn, 1) := okd_at mX12_taken_0 38 rfl
theorem dX12_taken_71 : decode cX12_taken 71 = .ok (.iload_n 1, 1) := okd_at mX12_taken_0 39 rfl
theorem dX12_taken_72 : decode cX12_taken 72 = .ok (.aload_n 0, 1) := okd_at mX12_taken_0 40 rfl
theorem dX12_taken_73 : decode cX12_taken 73 = .ok (.getfield 97, 3) := okd_at mX12_taken_0 41 rfl
theorem dX12_taken_76 : decode cX12_taken 76 = .ok (.if_icmp .lt 8, 3) := okd_at mX12_taken_0 42 rfl
theorem dX12_taken_79 : decode cX12_taken 79 = .ok (.bipush (-11), 2) := okd_at mX12_taken_0 43 rfl
theorem dX12_taken_81 : decode cX12_taken 81 = .ok (.goto 28, 3) := okd_at mX12_taken_0 44 rfl
theorem dX12_taken_84 : decode cX12_taken 84 = .ok (.iload_n 2, 1) := okd_at mX12_taken_0 45 rfl
theorem dX12_taken_85 : decode cX12_taken 85 = .ok (.bipush 6, 2) := okd_at mX12_taken_0 46 rfl
theorem dX12_taken_87 : decode cX12_taken 87 = .ok (.if_icmp .ge 20, 3) := okd_at mX12_taken_0 47 rfl
theorem dX12_taken_90 : decode cX12_taken 90 = .ok (.aload_n 0, 1) := okd_at mX12_taken_0 48 rfl
theorem dX12_taken_91 : decode cX12_taken 91 = .ok (.getfield 13, 3) := okd_at mX12_taken_0 49 rfl
theorem dX12_taken_94 : decode cX12_taken 94 = .ok (.iload_n 1, 1) := okd_at mX12_taken_0 50 rfl
theorem dX12_taken_95 : decode cX12_taken 95 = .ok (.iaload, 1) := okd_at mX12_taken_0 51 rfl
theorem dX12_taken_96 : decode cX12_taken 96 = .ok (.iload_n 2, 1) := okd_at mX12_taken_0 52 rfl
theorem dX12_taken_97 : decode cX12_taken 97 = .ok (.invokestatic 282, 3) := okd_at mX12_taken_0 53 rfl
theorem dX12_taken_100 : decode cX12_taken 100 = .ok (.ifCond .eq 7, 3) := okd_at mX12_taken_0 54 rfl
theorem dX12_taken_103 : decode cX12_taken 103 = .ok (.iload_n 1, 1) := okd_at mX12_taken_0 55 rfl
theorem dX12_taken_104 : decode cX12_taken 104 = .ok (.goto 5, 3) := okd_at mX12_taken_0 56 rfl
theorem dX12_taken_107 : decode cX12_taken 107 = .ok (.bipush (-13), 2) := okd_at mX12_taken_0 57 rfl
theorem dX12_taken_109 : decode cX12_taken 109 = .ok (.ireturn, 1) := okd_at mX12_taken_0 58 rfl
def lmX12_tells_0 : List (Nat × Instr × Nat) := [(0, .iload_n 1, 1), (1, .istore_n 2, 1), (2, .iconst 0, 1), (3, .istore_n 3, 1), (4, .iconst 1, 1), (5, .istore 4, 2), (7, .aload_n 0, 1), (8, .iconst 0, 1), (9, .putfield 247, 3), (12, .aload_n 0, 1), (13, .getfield 97, 3), (16, .iconst 1, 1), (17, .isub, 1), (18, .istore 5, 2), (20, .iload 5, 2), (22, .ifCond .lt 69, 3), (25, .aload_n 0, 1), (26, .getfield 73, 3), (29, .iload 5, 2), (31, .iload_n 2, 1), (32, .aload_n 0, 1), (33, .getfield 97, 3), (36, .irem, 1), (37, .iastore, 1), (38, .iload_n 2, 1), (39, .aload_n 0, 1), (40, .getfield 97, 3), (43, .idiv, 1), (44, .istore_n 2, 1), (45, .iload_n 3, 1), (46, .iconst 1, 1), (47, .aload_n 0, 1), (48, .getfield 73, 3), (51, .iload 5, 2), (53, .iaload, 1), (54, .ishl, 1), (55, .ior, 1), (56, .istore_n 3, 1), (57, .aload_n 0, 1), (58, .dup, 1), (59, .getfield 247, 3), (62, .iload 4, 2), (64, .aload_n 0, 1), (65, .getfield 73, 3), (68, .iload 5, 2), (70, .iaload, 1), (71, .iconst 1, 1), (72, .iadd, 1), (73, .imul, 1), (74, .iadd, 1), (75, .putfield 247, 3), (78, .iload 4, 2), (80, .bipush 10, 2), (82, .imul, 1), (83, .istore 4, 2), (85, .iinc 5 (-1), 3), (88, .goto (-68), 3), (91, .iload_n 3, 1), (92, .iconst 1, 1), (93, .aload_n 0, 1)]
theorem mX12_tells_0 : okd cX12_tells lmX12_tells_0 = true := by decide +kernel
theorem dX12_tells_0 : decode cX12_tells 0 = .ok (.iload_n 1, 1) := okd_at mX12_tells_0 0 rfl
theorem dX12_tells_1 : decode cX12_tells 1 = .ok (.istore_n 2, 1) := okd_at mX12_tells_0 1 rfl
theorem dX12_tells_2 : decode cX12_tells 2 = .ok (.iconst 0, 1) := okd_at mX12_tells_0 2 rfl
theorem dX12_tells_3 : decode cX12_tells 3 = .ok (.istore_n 3, 1) := okd_at mX12_tells_0 3 rfl
theorem dX12_tells_4 : decode cX12_tells 4 = .ok (.iconst 1, 1) := okd_at mX12_tells_0 4 rfl
theorem dX12_tells_5 : decode cX12_tells 5 = .ok (.istore 4, 2) := okd_at mX12_tells_0 5 rfl
theorem dX12_tells_7 : decode cX12_tells 7 = .ok (.aload_n 0, 1) := okd_at mX12_tells_0 6 rfl
theorem dX12_tells_8 : decode cX12_tells 8 = .ok (.iconst 0, 1) := okd_at mX12_tells_0 7 rfl
theorem dX12_tells_9 : decode cX12_tells 9 = .ok (.putfield 247, 3) := okd_at mX12_tells_0 8 rfl
theorem dX12_tells_12 : decode cX12_tells 12 = .ok (.aload_n 0, 1) := okd_at mX12_tells_0 9 rfl
theorem dX12_tells_13 : decode cX12_tells 13 = .ok (.getfield 97, 3) := okd_at mX12_tells_0 10 rfl
theorem dX12_tells_16 : decode cX12_tells 16 = .ok (.iconst 1, 1) := okd_at mX12_tells_0 11 rfl
theorem dX12_tells_17 : decode cX12_tells 17 = .ok (.isub, 1) := okd_at mX12_tells_0 12 rfl
theorem dX12_tells_18 : decode cX12_tells 18 = .ok (.istore 5, 2) := okd_at mX12_tells_0 13 rfl
theorem dX12_tells_20 : decode cX12_tells 20 = .ok (.iload 5, 2) := okd_at mX12_tells_0 14 rfl
theorem dX12_tells_22 : decode cX12_tells 22 = .ok (.ifCond .lt 69, 3) := okd_at mX12_tells_0 15 rfl
theorem dX12_tells_25 : decode cX12_tells 25 = .ok (.aload_n 0, 1) := okd_at mX12_tells_0 16 rfl
theorem dX12_tells_26 : decode cX12_tells 26 = .ok (.getfield 73, 3) := okd_at mX12_tells_0 17 rfl
theorem dX12_tells_29 : decode cX12_tells 29 = .ok (.iload 5, 2) := okd_at mX12_tells_0 18 rfl
theorem dX12_tells_31 : decode cX12_tells 31 = .ok (.iload_n 2, 1) := okd_at mX12_tells_0 19 rfl
theorem dX12_tells_32 : decode cX12_tells 32 = .ok (.aload_n 0, 1) := okd_at mX12_tells_0 20 rfl
theorem dX12_tells_33 : decode cX12_tells 33 = .ok (.getfield 97, 3) := okd_at mX12_tells_0 21 rfl
theorem dX12_tells_36 : decode cX12_tells 36 = .ok (.irem, 1) := okd_at mX12_tells_0 22 rfl
theorem dX12_tells_37 : decode cX12_tells 37 = .ok (.iastore, 1) := okd_at mX12_tells_0 23 rfl
theorem dX12_tells_38 : decode cX12_tells 38 = .ok (.iload_n 2, 1) := okd_at mX12_tells_0 24 rfl
theorem dX12_tells_39 : decode cX12_tells 39 = .ok (.aload_n 0, 1) := okd_at mX12_tells_0 25 rfl
theorem dX12_tells_40 : decode cX12_tells 40 = .ok (.getfield 97, 3) := okd_at mX12_tells_0 26 rfl
theorem dX12_tells_43 : decode cX12_tells 43 = .ok (.idiv, 1) := okd_at mX12_tells_0 27 rfl
theorem dX12_tells_44 : decode cX12_tells 44 = .ok (.istore_n 2, 1) := okd_at mX12_tells_0 28 rfl
theorem dX12_tells_45 : decode cX12_tells 45 = .ok (.iload_n 3, 1) := okd_at mX12_tells_0 29 rfl
theorem dX12_tells_46 : decode cX12_tells 46 = .ok (.iconst 1, 1) := okd_at mX12_tells_0 30 rfl
theorem dX12_tells_47 : decode cX12_tells 47 = .ok (.aload_n 0, 1) := okd_at mX12_tells_0 31 rfl
theorem dX12_tells_48 : decode cX12_tells 48 = .ok (.getfield 73, 3) := okd_at mX12_tells_0 32 rfl
theorem dX12_tells_51 : decode cX12_tells 51 = .ok (.iload 5, 2) := okd_at mX12_tells_0 33 rfl
theorem dX12_tells_53 : decode cX12_tells 53 = .ok (.iaload, 1) := okd_at mX12_tells_0 34 rfl
theorem dX12_tells_54 : decode cX12_tells 54 = .ok (.ishl, 1) := okd_at mX12_tells_0 35 rfl
theorem dX12_tells_55 : decode cX12_tells 55 = .ok (.ior, 1) := okd_at mX12_tells_0 36 rfl
theorem dX12_tells_56 : decode cX12_tells 56 = .ok (.istore_n 3, 1) := okd_at mX12_tells_0 37 rfl
theorem dX12_tells_57 : decode cX12_tells 57 = .ok (.aload_n 0, 1) := okd_at mX12_tells_0 38 rfl
theorem dX12_tells_58 : decode cX12_tells 58 = .ok (.dup, 1) := okd_at mX12_tells_0 39 rfl
theorem dX12_tells_59 : decode cX12_tells 59 = .ok (.getfield 247, 3) := okd_at mX12_tells_0 40 rfl
theorem dX12_tells_62 : decode cX12_tells 62 = .ok (.iload 4, 2) := okd_at mX12_tells_0 41 rfl
theorem dX12_tells_64 : decode cX12_tells 64 = .ok (.aload_n 0, 1) := okd_at mX12_tells_0 42 rfl
theorem dX12_tells_65 : decode cX12_tells 65 = .ok (.getfield 73, 3) := okd_at mX12_tells_0 43 rfl
theorem dX12_tells_68 : decode cX12_tells 68 = .ok (.iload 5, 2) := okd_at mX12_tells_0 44 rfl
theorem dX12_tells_70 : decode cX12_tells 70 = .ok (.iaload, 1) := okd_at mX12_tells_0 45 rfl
theorem dX12_tells_71 : decode cX12_tells 71 = .ok (.iconst 1, 1) := okd_at mX12_tells_0 46 rfl
theorem dX12_tells_72 : decode cX12_tells 72 = .ok (.iadd, 1) := okd_at mX12_tells_0 47 rfl
theorem dX12_tells_73 : decode cX12_tells 73 = .ok (.imul, 1) := okd_at mX12_tells_0 48 rfl
theorem dX12_tells_74 : decode cX12_tells 74 = .ok (.iadd, 1) := okd_at mX12_tells_0 49 rfl
theorem dX12_tells_75 : decode cX12_tells 75 = .ok (.putfield 247, 3) := okd_at mX12_tells_0 50 rfl
theorem dX12_tells_78 : decode cX12_tells 78 = .ok (.iload 4, 2) := okd_at mX12_tells_0 51 rfl
theorem dX12_tells_80 : decode cX12_tells 80 = .ok (.bipush 10, 2) := okd_at mX12_tells_0 52 rfl
theorem dX12_tells_82 : decode cX12_tells 82 = .ok (.imul, 1) := okd_at mX12_tells_0 53 rfl
theorem dX12_tells_83 : decode cX12_tells 83 = .ok (.istore 4, 2) := okd_at mX12_tells_0 54 rfl
theorem dX12_tells_85 : decode cX12_tells 85 = .ok (.iinc 5 (-1), 3) := okd_at mX12_tells_0 55 rfl
theorem dX12_tells_88 : decode cX12_tells 88 = .ok (.goto (-68), 3) := okd_at mX12_tells_0 56 rfl
theorem dX12_tells_91 : decode cX12_tells 91 = .ok (.iload_n 3, 1) := okd_at mX12_tells_0 57 rfl
theorem dX12_tells_92 : decode cX12_tells 92 = .ok (.iconst 1, 1) := okd_at mX12_tells_0 58 rfl
theorem dX12_tells_93 : decode cX12_tells 93 = .ok (.aload_n 0, 1) := okd_at mX12_tells_0 59 rfl
def lmX12_tells_1 : List (Nat × Instr × Nat) := [(94, .getfield 97, 3), (97, .ishl, 1), (98, .iconst 1, 1), (99, .isub, 1), (100, .if_icmp .ne 7, 3), (103, .iconst 1, 1), (104, .goto 4, 3), (107, .iconst 0, 1), (108, .ireturn, 1)]
theorem mX12_tells_1 : okd cX12_tells lmX12_tells_1 = true := by decide +kernel
theorem dX12_tells_94 : decode cX12_tells 94 = .ok (.getfield 97, 3) := okd_at mX12_tells_1 0 rfl
theorem dX12_tells_97 : decode cX12_tells 97 = .ok (.ishl, 1) := okd_at mX12_tells_1 1 rfl
theorem dX12_tells_98 : decode cX12_tells 98 = .ok (.iconst 1, 1) := okd_at mX12_tells_1 2 rfl
theorem dX12_tells_99 : decode cX12_tells 99 = .ok (.isub, 1) := okd_at mX12_tells_1 3 rfl
theorem dX12_tells_100 : decode cX12_tells 100 = .ok (.if_icmp .ne 7, 3) := okd_at mX12_tells_1 4 rfl
theorem dX12_tells_103 : decode cX12_tells 103 = .ok (.iconst 1, 1) := okd_at mX12_tells_1 5 rfl
theorem dX12_tells_104 : decode cX12_tells 104 = .ok (.goto 4, 3) := okd_at mX12_tells_1 6 rfl
theorem dX12_tells_107 : decode cX12_tells 107 = .ok (.iconst 0, 1) := okd_at mX12_tells_1 7 rfl
theorem dX12_tells_108 : decode cX12_tells 108 = .ok (.ireturn, 1) := okd_at mX12_tells_1 8 rfl
def lmX12_text_0 : List (Nat × Instr × Nat) := [(0, .aload_n 0, 1), (1, .getfield 100, 3), (4, .bipush 6, 2), (6, .if_icmp .ne 6, 3), (9, .bipush (-4), 2), (11, .ireturn, 1), (12, .aload_n 0, 1), (13, .iconst 0, 1), (14, .putfield 113, 3), (17, .aload_n 0, 1), (18, .iconst 0, 1), (19, .putfield 129, 3), (22, .iconst 1, 1), (23, .istore_n 1, 1), (24, .iconst 0, 1), (25, .istore_n 2, 1), (26, .iload_n 2, 1), (27, .iconst 3, 1), (28, .if_icmp .ge 73, 3), (31, .iload_n 1, 1), (32, .ifCond .eq 69, 3), (35, .aload_n 0, 1), (36, .invokevirtual 152, 3), (39, .aload_n 0, 1), (40, .getfield 119, 3), (43, .iconst 3, 1), (44, .if_icmp .ne 15, 3), (47, .aload_n 0, 1), (48, .getfield 122, 3), (51, .iload_n 2, 1), (52, .if_icmp .ne 7, 3), (55, .iconst 1, 1), (56, .goto 4, 3), (59, .iconst 0, 1), (60, .istore_n 1, 1), (61, .aload_n 0, 1), (62, .getfield 28, 3), (65, .iconst 4, 1), (66, .aload_n 0, 1), (67, .getfield 100, 3), (70, .imul, 1), (71, .iload_n 2, 1), (72, .iadd, 1), (73, .aload_n 0, 1), (74, .getfield 129, 3), (77, .iastore, 1), (78, .iload_n 1, 1), (79, .ifCond .eq 14, 3), (82, .aload_n 0, 1), (83, .invokevirtual 165, 3), (86, .ifCond .eq 7, 3), (89, .iconst 1, 1), (90, .goto 4, 3), (93, .iconst 0, 1), (94, .istore_n 1, 1), (95, .iinc 2 1, 3), (98, .goto (-72), 3), (101, .iload_n 1, 1), (102, .ifCond .eq 20, 3), (105, .aload_n 0, 1)]
theorem mX12_text_0 : okd cX12_text lmX12_text_0 = true := by decide +kernel
theorem dX12_text_0 : decode cX12_text 0 = .ok (.aload_n 0, 1) := okd_at mX12_text_0 0 rfl
theorem dX12_text_1 : decode cX12_text 1 = .ok (.getfield 100, 3) := okd_at mX12_text_0 1 rfl
theorem dX12_text_4 : decode cX12_text 4 = .ok (.bipush 6, 2) := okd_at mX12_text_0 2 rfl
theorem dX12_text_6 : decode cX12_text 6 = .ok (.if_icmp .ne 6, 3) := okd_at mX12_text_0 3 rfl
theorem dX12_text_9 : decode cX12_text 9 = .ok (.bipush (-4), 2) := okd_at mX12_text_0 4 rfl
theorem dX12_text_11 : decode cX12_text 11 = .ok (.ireturn, 1) := okd_at mX12_text_0 5 rfl
theorem dX12_text_12 : decode cX12_text 12 = .ok (.aload_n 0, 1) := okd_at mX12_text_0 6 rfl
theorem dX12_text_13 : decode cX12_text 13 = .ok (.iconst 0, 1) := okd_at mX12_text_0 7 rfl
theorem dX12_text_14 : decode cX12_text 14 = .ok (.putfield 113, 3) := okd_at mX12_text_0 8 rfl
theorem dX12_text_17 : decode cX12_text 17 = .ok (.aload_n 0, 1) := okd_at mX12_text_0 9 rfl
theorem dX12_text_18 : decode cX12_text 18 = .ok (.iconst 0, 1) := okd_at mX12_text_0 10 rfl
theorem dX12_text_19 : decode cX12_text 19 = .ok (.putfield 129, 3) := okd_at mX12_text_0 11 rfl
theorem dX12_text_22 : decode cX12_text 22 = .ok (.iconst 1, 1) := okd_at mX12_text_0 12 rfl
theorem dX12_text_23 : decode cX12_text 23 = .ok (.istore_n 1, 1) := okd_at mX12_text_0 13 rfl
theorem dX12_text_24 : decode cX12_text 24 = .ok (.iconst 0, 1) := okd_at mX12_text_0 14 rfl
theorem dX12_text_25 : decode cX12_text 25 = .ok (.istore_n 2, 1) := okd_at mX12_text_0 15 rfl
theorem dX12_text_26 : decode cX12_text 26 = .ok (.iload_n 2, 1) := okd_at mX12_text_0 16 rfl
theorem dX12_text_27 : decode cX12_text 27 = .ok (.iconst 3, 1) := okd_at mX12_text_0 17 rfl
theorem dX12_text_28 : decode cX12_text 28 = .ok (.if_icmp .ge 73, 3) := okd_at mX12_text_0 18 rfl
theorem dX12_text_31 : decode cX12_text 31 = .ok (.iload_n 1, 1) := okd_at mX12_text_0 19 rfl
theorem dX12_text_32 : decode cX12_text 32 = .ok (.ifCond .eq 69, 3) := okd_at mX12_text_0 20 rfl
theorem dX12_text_35 : decode cX12_text 35 = .ok (.aload_n 0, 1) := okd_at mX12_text_0 21 rfl
theorem dX12_text_36 : decode cX12_text 36 = .ok (.invokevirtual 152, 3) := okd_at mX12_text_0 22 rfl
theorem dX12_text_39 : decode cX12_text 39 = .ok (.aload_n 0, 1) := okd_at mX12_text_0 23 rfl
theorem dX12_text_40 : decode cX12_text 40 = .ok (.getfield 119, 3) := okd_at mX12_text_0 24 rfl
theorem dX12_text_43 : decode cX12_text 43 = .ok (.iconst 3, 1) := okd_at mX12_text_0 25 rfl
theorem dX12_text_44 : decode cX12_text 44 = .ok (.if_icmp .ne 15, 3) := okd_at mX12_text_0 26 rfl
theorem dX12_text_47 : decode cX12_text 47 = .ok (.aload_n 0, 1) := okd_at mX12_text_0 27 rfl
theorem dX12_text_48 : decode cX12_text 48 = .ok (.getfield 122, 3) := okd_at mX12_text_0 28 rfl
theorem dX12_text_51 : decode cX12_text 51 = .ok (.iload_n 2, 1) := okd_at mX12_text_0 29 rfl
theorem dX12_text_52 : decode cX12_text 52 = .ok (.if_icmp .ne 7, 3) := okd_at mX12_text_0 30 rfl
theorem dX12_text_55 : decode cX12_text 55 = .ok (.iconst 1, 1) := okd_at mX12_text_0 31 rfl
theorem dX12_text_56 : decode cX12_text 56 = .ok (.goto 4, 3) := okd_at mX12_text_0 32 rfl
theorem dX12_text_59 : decode cX12_text 59 = .ok (.iconst 0, 1) := okd_at mX12_text_0 33 rfl
theorem dX12_text_60 : decode cX12_text 60 = .ok (.istore_n 1, 1) := okd_at mX12_text_0 34 rfl
theorem dX12_text_61 : decode cX12_text 61 = .ok (.aload_n 0, 1) := okd_at mX12_text_0 35 rfl
theorem dX12_text_62 : decode cX12_text 62 = .ok (.getfield 28, 3) := okd_at mX12_text_0 36 rfl
theorem dX12_text_65 : decode cX12_text 65 = .ok (.iconst 4, 1) := okd_at mX12_text_0 37 rfl
theorem dX12_text_66 : decode cX12_text 66 = .ok (.aload_n 0, 1) := okd_at mX12_text_0 38 rfl
theorem dX12_text_67 : decode cX12_text 67 = .ok (.getfield 100, 3) := okd_at mX12_text_0 39 rfl
theorem dX12_text_70 : decode cX12_text 70 = .ok (.imul, 1) := okd_at mX12_text_0 40 rfl
theorem dX12_text_71 : decode cX12_text 71 = .ok (.iload_n 2, 1) := okd_at mX12_text_0 41 rfl
theorem dX12_text_72 : decode cX12_text 72 = .ok (.iadd, 1) := okd_at mX12_text_0 42 rfl
theorem dX12_text_73 : decode cX12_text 73 = .ok (.aload_n 0, 1) := okd_at mX12_text_0 43 rfl
theorem dX12_text_74 : decode cX12_text 74 = .ok (.getfield 129, 3) := okd_at mX12_text_0 44 rfl
theorem dX12_text_77 : decode cX12_text 77 = .ok (.iastore, 1) := okd_at mX12_text_0 45 rfl
theorem dX12_text_78 : decode cX12_text 78 = .ok (.iload_n 1, 1) := okd_at mX12_text_0 46 rfl
theorem dX12_text_79 : decode cX12_text 79 = .ok (.ifCond .eq 14, 3) := okd_at mX12_text_0 47 rfl
theorem dX12_text_82 : decode cX12_text 82 = .ok (.aload_n 0, 1) := okd_at mX12_text_0 48 rfl
theorem dX12_text_83 : decode cX12_text 83 = .ok (.invokevirtual 165, 3) := okd_at mX12_text_0 49 rfl
theorem dX12_text_86 : decode cX12_text 86 = .ok (.ifCond .eq 7, 3) := okd_at mX12_text_0 50 rfl
theorem dX12_text_89 : decode cX12_text 89 = .ok (.iconst 1, 1) := okd_at mX12_text_0 51 rfl
theorem dX12_text_90 : decode cX12_text 90 = .ok (.goto 4, 3) := okd_at mX12_text_0 52 rfl
theorem dX12_text_93 : decode cX12_text 93 = .ok (.iconst 0, 1) := okd_at mX12_text_0 53 rfl
theorem dX12_text_94 : decode cX12_text 94 = .ok (.istore_n 1, 1) := okd_at mX12_text_0 54 rfl
theorem dX12_text_95 : decode cX12_text 95 = .ok (.iinc 2 1, 3) := okd_at mX12_text_0 55 rfl
theorem dX12_text_98 : decode cX12_text 98 = .ok (.goto (-72), 3) := okd_at mX12_text_0 56 rfl
theorem dX12_text_101 : decode cX12_text 101 = .ok (.iload_n 1, 1) := okd_at mX12_text_0 57 rfl
theorem dX12_text_102 : decode cX12_text 102 = .ok (.ifCond .eq 20, 3) := okd_at mX12_text_0 58 rfl
theorem dX12_text_105 : decode cX12_text 105 = .ok (.aload_n 0, 1) := okd_at mX12_text_0 59 rfl
def lmX12_text_1 : List (Nat × Instr × Nat) := [(106, .invokevirtual 152, 3), (109, .aload_n 0, 1), (110, .getfield 119, 3), (113, .ifCond .ne 7, 3), (116, .iconst 1, 1), (117, .goto 4, 3), (120, .iconst 0, 1), (121, .istore_n 1, 1), (122, .aload_n 0, 1), (123, .getfield 28, 3), (126, .iconst 4, 1), (127, .aload_n 0, 1), (128, .getfield 100, 3), (131, .imul, 1), (132, .iconst 3, 1), (133, .iadd, 1), (134, .aload_n 0, 1), (135, .getfield 129, 3), (138, .iastore, 1), (139, .aload_n 0, 1), (140, .iconst 0, 1), (141, .putfield 83, 3), (144, .iload_n 1, 1), (145, .ifCond .ne 11, 3), (148, .bipush (-100), 2), (150, .aload_n 0, 1), (151, .getfield 116, 3), (154, .isub, 1), (155, .ireturn, 1), (156, .aload_n 0, 1), (157, .dup, 1), (158, .getfield 100, 3), (161, .iconst 1, 1), (162, .iadd, 1), (163, .putfield 100, 3), (166, .aload_n 0, 1), (167, .getfield 100, 3), (170, .iconst 1, 1), (171, .isub, 1), (172, .ireturn, 1)]
theorem mX12_text_1 : okd cX12_text lmX12_text_1 = true := by decide +kernel
theorem dX12_text_106 : decode cX12_text 106 = .ok (.invokevirtual 152, 3) := okd_at mX12_text_1 0 rfl
theorem dX12_text_109 : decode cX12_text 109 = .ok (.aload_n 0, 1) := okd_at mX12_text_1 1 rfl
theorem dX12_text_110 : decode cX12_text 110 = .ok (.getfield 119, 3) := okd_at mX12_text_1 2 rfl
theorem dX12_text_113 : decode cX12_text 113 = .ok (.ifCond .ne 7, 3) := okd_at mX12_text_1 3 rfl
theorem dX12_text_116 : decode cX12_text 116 = .ok (.iconst 1, 1) := okd_at mX12_text_1 4 rfl
theorem dX12_text_117 : decode cX12_text 117 = .ok (.goto 4, 3) := okd_at mX12_text_1 5 rfl
theorem dX12_text_120 : decode cX12_text 120 = .ok (.iconst 0, 1) := okd_at mX12_text_1 6 rfl
theorem dX12_text_121 : decode cX12_text 121 = .ok (.istore_n 1, 1) := okd_at mX12_text_1 7 rfl
theorem dX12_text_122 : decode cX12_text 122 = .ok (.aload_n 0, 1) := okd_at mX12_text_1 8 rfl
theorem dX12_text_123 : decode cX12_text 123 = .ok (.getfield 28, 3) := okd_at mX12_text_1 9 rfl
theorem dX12_text_126 : decode cX12_text 126 = .ok (.iconst 4, 1) := okd_at mX12_text_1 10 rfl
theorem dX12_text_127 : decode cX12_text 127 = .ok (.aload_n 0, 1) := okd_at mX12_text_1 11 rfl
theorem dX12_text_128 : decode cX12_text 128 = .ok (.getfield 100, 3) := okd_at mX12_text_1 12 rfl
theorem dX12_text_131 : decode cX12_text 131 = .ok (.imul, 1) := okd_at mX12_text_1 13 rfl
theorem dX12_text_132 : decode cX12_text 132 = .ok (.iconst 3, 1) := okd_at mX12_text_1 14 rfl
theorem dX12_text_133 : decode cX12_text 133 = .ok (.iadd, 1) := okd_at mX12_text_1 15 rfl
theorem dX12_text_134 : decode cX12_text 134 = .ok (.aload_n 0, 1) := okd_at mX12_text_1 16 rfl
theorem dX12_text_135 : decode cX12_text 135 = .ok (.getfield 129, 3) := okd_at mX12_text_1 17 rfl
theorem dX12_text_138 : decode cX12_text 138 = .ok (.iastore, 1) := okd_at mX12_text_1 18 rfl
theorem dX12_text_139 : decode cX12_text 139 = .ok (.aload_n 0, 1) := okd_at mX12_text_1 19 rfl
theorem dX12_text_140 : decode cX12_text 140 = .ok (.iconst 0, 1) := okd_at mX12_text_1 20 rfl
theorem dX12_text_141 : decode cX12_text 141 = .ok (.putfield 83, 3) := okd_at mX12_text_1 21 rfl
theorem dX12_text_144 : decode cX12_text 144 = .ok (.iload_n 1, 1) := okd_at mX12_text_1 22 rfl
theorem dX12_text_145 : decode cX12_text 145 = .ok (.ifCond .ne 11, 3) := okd_at mX12_text_1 23 rfl
theorem dX12_text_148 : decode cX12_text 148 = .ok (.bipush (-100), 2) := okd_at mX12_text_1 24 rfl
theorem dX12_text_150 : decode cX12_text 150 = .ok (.aload_n 0, 1) := okd_at mX12_text_1 25 rfl
theorem dX12_text_151 : decode cX12_text 151 = .ok (.getfield 116, 3) := okd_at mX12_text_1 26 rfl
theorem dX12_text_154 : decode cX12_text 154 = .ok (.isub, 1) := okd_at mX12_text_1 27 rfl
theorem dX12_text_155 : decode cX12_text 155 = .ok (.ireturn, 1) := okd_at mX12_text_1 28 rfl
theorem dX12_text_156 : decode cX12_text 156 = .ok (.aload_n 0, 1) := okd_at mX12_text_1 29 rfl
theorem dX12_text_157 : decode cX12_text 157 = .ok (.dup, 1) := okd_at mX12_text_1 30 rfl
theorem dX12_text_158 : decode cX12_text 158 = .ok (.getfield 100, 3) := okd_at mX12_text_1 31 rfl
theorem dX12_text_161 : decode cX12_text 161 = .ok (.iconst 1, 1) := okd_at mX12_text_1 32 rfl
theorem dX12_text_162 : decode cX12_text 162 = .ok (.iadd, 1) := okd_at mX12_text_1 33 rfl
theorem dX12_text_163 : decode cX12_text 163 = .ok (.putfield 100, 3) := okd_at mX12_text_1 34 rfl
theorem dX12_text_166 : decode cX12_text 166 = .ok (.aload_n 0, 1) := okd_at mX12_text_1 35 rfl
theorem dX12_text_167 : decode cX12_text 167 = .ok (.getfield 100, 3) := okd_at mX12_text_1 36 rfl
theorem dX12_text_170 : decode cX12_text 170 = .ok (.iconst 1, 1) := okd_at mX12_text_1 37 rfl
theorem dX12_text_171 : decode cX12_text 171 = .ok (.isub, 1) := okd_at mX12_text_1 38 rfl
theorem dX12_text_172 : decode cX12_text 172 = .ok (.ireturn, 1) := okd_at mX12_text_1 39 rfl
def lmX12_tie_0 : List (Nat × Instr × Nat) := [(0, .iload_n 1, 1), (1, .iconst 0, 1), (2, .iconst 2, 1), (3, .invokestatic 93, 3), (6, .ifCond .ne 7, 3), (9, .sipush (-1000), 3), (12, .ireturn, 1), (13, .aload_n 0, 1), (14, .invokevirtual 234, 3), (17, .iconst 0, 1), (18, .istore_n 2, 1), (19, .iload_n 2, 1), (20, .aload_n 0, 1), (21, .getfield 97, 3), (24, .if_icmp .ge 69, 3), (27, .aload_n 0, 1), (28, .getfield 19, 3), (31, .iconst 2, 1), (32, .iload_n 2, 1), (33, .imul, 1), (34, .iconst 1, 1), (35, .iadd, 1), (36, .iaload, 1), (37, .istore_n 3, 1), (38, .iconst 0, 1), (39, .istore 4, 2), (41, .iload 4, 2), (43, .iconst 3, 1), (44, .if_icmp .gt 32, 3), (47, .aload_n 0, 1), (48, .getfield 19, 3), (51, .iconst 2, 1), (52, .iload_n 2, 1), (53, .imul, 1), (54, .iconst 1, 1), (55, .iadd, 1), (56, .iload 4, 2), (58, .iastore, 1), (59, .aload_n 0, 1), (60, .bipush 10, 2), (62, .iload_n 2, 1), (63, .imul, 1), (64, .iload 4, 2), (66, .iadd, 1), (67, .invokevirtual 237, 3), (70, .iinc 4 1, 3), (73, .goto (-32), 3), (76, .aload_n 0, 1), (77, .getfield 19, 3), (80, .iconst 2, 1), (81, .iload_n 2, 1), (82, .imul, 1), (83, .iconst 1, 1), (84, .iadd, 1), (85, .iload_n 3, 1), (86, .iastore, 1), (87, .iinc 2 1, 3), (90, .goto (-71), 3), (93, .aload_n 0, 1), (94, .iload_n 1, 1)]
theorem mX12_tie_0 : okd cX12_tie lmX12_tie_0 = true := by decide +kernel
theorem dX12_tie_0 : decode cX12_tie 0 = .ok (.iload_n 1, 1) := okd_at mX12_tie_0 0 rfl
theorem dX12_tie_1 : decode cX12_tie 1 = .ok (.iconst 0, 1) := okd_at mX12_tie_0 1 rfl
theorem dX12_tie_2 : decode cX12_tie 2 = .ok (.iconst 2, 1) := okd_at mX12_tie_0 2 rfl
theorem dX12_tie_3 : decode cX12_tie 3 = .ok (.invokestatic 93, 3) := okd_at mX12_tie_0 3 rfl
theorem dX12_tie_6 : decode cX12_tie 6 = .ok (.ifCond .ne 7, 3) := okd_at mX12_tie_0 4 rfl
theorem dX12_tie_9 : decode cX12_tie 9 = .ok (.sipush (-1000), 3) := okd_at mX12_tie_0 5 rfl
theorem dX12_tie_12 : decode cX12_tie 12 = .ok (.ireturn, 1) := okd_at mX12_tie_0 6 rfl
theorem dX12_tie_13 : decode cX12_tie 13 = .ok (.aload_n 0, 1) := okd_at mX12_tie_0 7 rfl
theorem dX12_tie_14 : decode cX12_tie 14 = .ok (.invokevirtual 234, 3) := okd_at mX12_tie_0 8 rfl
theorem dX12_tie_17 : decode cX12_tie 17 = .ok (.iconst 0, 1) := okd_at mX12_tie_0 9 rfl
theorem dX12_tie_18 : decode cX12_tie 18 = .ok (.istore_n 2, 1) := okd_at mX12_tie_0 10 rfl
theorem dX12_tie_19 : decode cX12_tie 19 = .ok (.iload_n 2, 1) := okd_at mX12_tie_0 11 rfl
theorem dX12_tie_20 : decode cX12_tie 20 = .ok (.aload_n 0, 1) := okd_at mX12_tie_0 12 rfl
theorem dX12_tie_21 : decode cX12_tie 21 = .ok (.getfield 97, 3) := okd_at mX12_tie_0 13 rfl
theorem dX12_tie_24 : decode cX12_tie 24 = .ok (.if_icmp .ge 69, 3) := okd_at mX12_tie_0 14 rfl
theorem dX12_tie_27 : decode cX12_tie 27 = .ok (.aload_n 0, 1) := okd_at mX12_tie_0 15 rfl
theorem dX12_tie_28 : decode cX12_tie 28 = .ok (.getfield 19, 3) := okd_at mX12_tie_0 16 rfl
theorem dX12_tie_31 : decode cX12_tie 31 = .ok (.iconst 2, 1) := okd_at mX12_tie_0 17 rfl
theorem dX12_tie_32 : decode cX12_tie 32 = .ok (.iload_n 2, 1) := okd_at mX12_tie_0 18 rfl
theorem dX12_tie_33 : decode cX12_tie 33 = .ok (.imul, 1) := okd_at mX12_tie_0 19 rfl
theorem dX12_tie_34 : decode cX12_tie 34 = .ok (.iconst 1, 1) := okd_at mX12_tie_0 20 rfl
theorem dX12_tie_35 : decode cX12_tie 35 = .ok (.iadd, 1) := okd_at mX12_tie_0 21 rfl
theorem dX12_tie_36 : decode cX12_tie 36 = .ok (.iaload, 1) := okd_at mX12_tie_0 22 rfl
theorem dX12_tie_37 : decode cX12_tie 37 = .ok (.istore_n 3, 1) := okd_at mX12_tie_0 23 rfl
theorem dX12_tie_38 : decode cX12_tie 38 = .ok (.iconst 0, 1) := okd_at mX12_tie_0 24 rfl
theorem dX12_tie_39 : decode cX12_tie 39 = .ok (.istore 4, 2) := okd_at mX12_tie_0 25 rfl
theorem dX12_tie_41 : decode cX12_tie 41 = .ok (.iload 4, 2) := okd_at mX12_tie_0 26 rfl
theorem dX12_tie_43 : decode cX12_tie 43 = .ok (.iconst 3, 1) := okd_at mX12_tie_0 27 rfl
theorem dX12_tie_44 : decode cX12_tie 44 = .ok (.if_icmp .gt 32, 3) := okd_at mX12_tie_0 28 rfl
theorem dX12_tie_47 : decode cX12_tie 47 = .ok (.aload_n 0, 1) := okd_at mX12_tie_0 29 rfl
theorem dX12_tie_48 : decode cX12_tie 48 = .ok (.getfield 19, 3) := okd_at mX12_tie_0 30 rfl
theorem dX12_tie_51 : decode cX12_tie 51 = .ok (.iconst 2, 1) := okd_at mX12_tie_0 31 rfl
theorem dX12_tie_52 : decode cX12_tie 52 = .ok (.iload_n 2, 1) := okd_at mX12_tie_0 32 rfl
theorem dX12_tie_53 : decode cX12_tie 53 = .ok (.imul, 1) := okd_at mX12_tie_0 33 rfl
theorem dX12_tie_54 : decode cX12_tie 54 = .ok (.iconst 1, 1) := okd_at mX12_tie_0 34 rfl
theorem dX12_tie_55 : decode cX12_tie 55 = .ok (.iadd, 1) := okd_at mX12_tie_0 35 rfl
theorem dX12_tie_56 : decode cX12_tie 56 = .ok (.iload 4, 2) := okd_at mX12_tie_0 36 rfl
theorem dX12_tie_58 : decode cX12_tie 58 = .ok (.iastore, 1) := okd_at mX12_tie_0 37 rfl
theorem dX12_tie_59 : decode cX12_tie 59 = .ok (.aload_n 0, 1) := okd_at mX12_tie_0 38 rfl
theorem dX12_tie_60 : decode cX12_tie 60 = .ok (.bipush 10, 2) := okd_at mX12_tie_0 39 rfl
theorem dX12_tie_62 : decode cX12_tie 62 = .ok (.iload_n 2, 1) := okd_at mX12_tie_0 40 rfl
theorem dX12_tie_63 : decode cX12_tie 63 = .ok (.imul, 1) := okd_at mX12_tie_0 41 rfl
theorem dX12_tie_64 : decode cX12_tie 64 = .ok (.iload 4, 2) := okd_at mX12_tie_0 42 rfl
theorem dX12_tie_66 : decode cX12_tie 66 = .ok (.iadd, 1) := okd_at mX12_tie_0 43 rfl
theorem dX12_tie_67 : decode cX12_tie 67 = .ok (.invokevirtual 237, 3) := okd_at mX12_tie_0 44 rfl
theorem dX12_tie_70 : decode cX12_tie 70 = .ok (.iinc 4 1, 3) := okd_at mX12_tie_0 45 rfl
theorem dX12_tie_73 : decode cX12_tie 73 = .ok (.goto (-32), 3) := okd_at mX12_tie_0 46 rfl
theorem dX12_tie_76 : decode cX12_tie 76 = .ok (.aload_n 0, 1) := okd_at mX12_tie_0 47 rfl
theorem dX12_tie_77 : decode cX12_tie 77 = .ok (.getfield 19, 3) := okd_at mX12_tie_0 48 rfl
theorem dX12_tie_80 : decode cX12_tie 80 = .ok (.iconst 2, 1) := okd_at mX12_tie_0 49 rfl
theorem dX12_tie_81 : decode cX12_tie 81 = .ok (.iload_n 2, 1) := okd_at mX12_tie_0 50 rfl
theorem dX12_tie_82 : decode cX12_tie 82 = .ok (.imul, 1) := okd_at mX12_tie_0 51 rfl
theorem dX12_tie_83 : decode cX12_tie 83 = .ok (.iconst 1, 1) := okd_at mX12_tie_0 52 rfl
theorem dX12_tie_84 : decode cX12_tie 84 = .ok (.iadd, 1) := okd_at mX12_tie_0 53 rfl
theorem dX12_tie_85 : decode cX12_tie 85 = .ok (.iload_n 3, 1) := okd_at mX12_tie_0 54 rfl
theorem dX12_tie_86 : decode cX12_tie 86 = .ok (.iastore, 1) := okd_at mX12_tie_0 55 rfl
theorem dX12_tie_87 : decode cX12_tie 87 = .ok (.iinc 2 1, 3) := okd_at mX12_tie_0 56 rfl
theorem dX12_tie_90 : decode cX12_tie 90 = .ok (.goto (-71), 3) := okd_at mX12_tie_0 57 rfl
theorem dX12_tie_93 : decode cX12_tie 93 = .ok (.aload_n 0, 1) := okd_at mX12_tie_0 58 rfl
theorem dX12_tie_94 : decode cX12_tie 94 = .ok (.iload_n 1, 1) := okd_at mX12_tie_0 59 rfl
def lmX12_tie_1 : List (Nat × Instr × Nat) := [(95, .invokevirtual 244, 3), (98, .ireturn, 1)]
theorem mX12_tie_1 : okd cX12_tie lmX12_tie_1 = true := by decide +kernel
theorem dX12_tie_95 : decode cX12_tie 95 = .ok (.invokevirtual 244, 3) := okd_at mX12_tie_1 0 rfl
theorem dX12_tie_98 : decode cX12_tie 98 = .ok (.ireturn, 1) := okd_at mX12_tie_1 1 rfl
def lmX12_told_0 : List (Nat × Instr × Nat) := [(0, .aload_n 0, 1), (1, .iload_n 1, 1), (2, .invokevirtual 106, 3), (5, .ifCond .ne 6, 3), (8, .bipush (-5), 2), (10, .ireturn, 1), (11, .iload_n 2, 1), (12, .iconst 0, 1), (13, .iconst 2, 1), (14, .invokestatic 93, 3), (17, .ifCond .eq 16, 3), (20, .aload_n 0, 1), (21, .getfield 7, 3), (24, .iconst 3, 1), (25, .iload_n 1, 1), (26, .imul, 1), (27, .iload_n 2, 1), (28, .iadd, 1), (29, .iaload, 1), (30, .goto 5, 3), (33, .bipush (-7), 2), (35, .ireturn, 1)]
theorem mX12_told_0 : okd cX12_told lmX12_told_0 = true := by decide +kernel
theorem dX12_told_0 : decode cX12_told 0 = .ok (.aload_n 0, 1) := okd_at mX12_told_0 0 rfl
theorem dX12_told_1 : decode cX12_told 1 = .ok (.iload_n 1, 1) := okd_at mX12_told_0 1 rfl
theorem dX12_told_2 : decode cX12_told 2 = .ok (.invokevirtual 106, 3) := okd_at mX12_told_0 2 rfl
theorem dX12_told_5 : decode cX12_told 5 = .ok (.ifCond .ne 6, 3) := okd_at mX12_told_0 3 rfl
theorem dX12_told_8 : decode cX12_told 8 = .ok (.bipush (-5), 2) := okd_at mX12_told_0 4 rfl
theorem dX12_told_10 : decode cX12_told 10 = .ok (.ireturn, 1) := okd_at mX12_told_0 5 rfl
theorem dX12_told_11 : decode cX12_told 11 = .ok (.iload_n 2, 1) := okd_at mX12_told_0 6 rfl
theorem dX12_told_12 : decode cX12_told 12 = .ok (.iconst 0, 1) := okd_at mX12_told_0 7 rfl
theorem dX12_told_13 : decode cX12_told 13 = .ok (.iconst 2, 1) := okd_at mX12_told_0 8 rfl
theorem dX12_told_14 : decode cX12_told 14 = .ok (.invokestatic 93, 3) := okd_at mX12_told_0 9 rfl
theorem dX12_told_17 : decode cX12_told 17 = .ok (.ifCond .eq 16, 3) := okd_at mX12_told_0 10 rfl
theorem dX12_told_20 : decode cX12_told 20 = .ok (.aload_n 0, 1) := okd_at mX12_told_0 11 rfl
theorem dX12_told_21 : decode cX12_told 21 = .ok (.getfield 7, 3) := okd_at mX12_told_0 12 rfl
theorem dX12_told_24 : decode cX12_told 24 = .ok (.iconst 3, 1) := okd_at mX12_told_0 13 rfl
theorem dX12_told_25 : decode cX12_told 25 = .ok (.iload_n 1, 1) := okd_at mX12_told_0 14 rfl
theorem dX12_told_26 : decode cX12_told 26 = .ok (.imul, 1) := okd_at mX12_told_0 15 rfl
theorem dX12_told_27 : decode cX12_told 27 = .ok (.iload_n 2, 1) := okd_at mX12_told_0 16 rfl
theorem dX12_told_28 : decode cX12_told 28 = .ok (.iadd, 1) := okd_at mX12_told_0 17 rfl
theorem dX12_told_29 : decode cX12_told 29 = .ok (.iaload, 1) := okd_at mX12_told_0 18 rfl
theorem dX12_told_30 : decode cX12_told 30 = .ok (.goto 5, 3) := okd_at mX12_told_0 19 rfl
theorem dX12_told_33 : decode cX12_told 33 = .ok (.bipush (-7), 2) := okd_at mX12_told_0 20 rfl
theorem dX12_told_35 : decode cX12_told 35 = .ok (.ireturn, 1) := okd_at mX12_told_0 21 rfl
def lmX12_toldBest_0 : List (Nat × Instr × Nat) := [(0, .iload_n 1, 1), (1, .ifCond .ne 10, 3), (4, .aload_n 0, 1), (5, .getfield 225, 3), (8, .goto 19, 3), (11, .iload_n 1, 1), (12, .iconst 1, 1), (13, .if_icmp .ne 10, 3), (16, .aload_n 0, 1), (17, .getfield 228, 3), (20, .goto 7, 3), (23, .aload_n 0, 1), (24, .getfield 231, 3), (27, .ireturn, 1)]
theorem mX12_toldBest_0 : okd cX12_toldBest lmX12_toldBest_0 = true := by decide +kernel
theorem dX12_toldBest_0 : decode cX12_toldBest 0 = .ok (.iload_n 1, 1) := okd_at mX12_toldBest_0 0 rfl
theorem dX12_toldBest_1 : decode cX12_toldBest 1 = .ok (.ifCond .ne 10, 3) := okd_at mX12_toldBest_0 1 rfl
theorem dX12_toldBest_4 : decode cX12_toldBest 4 = .ok (.aload_n 0, 1) := okd_at mX12_toldBest_0 2 rfl
theorem dX12_toldBest_5 : decode cX12_toldBest 5 = .ok (.getfield 225, 3) := okd_at mX12_toldBest_0 3 rfl
theorem dX12_toldBest_8 : decode cX12_toldBest 8 = .ok (.goto 19, 3) := okd_at mX12_toldBest_0 4 rfl
theorem dX12_toldBest_11 : decode cX12_toldBest 11 = .ok (.iload_n 1, 1) := okd_at mX12_toldBest_0 5 rfl
theorem dX12_toldBest_12 : decode cX12_toldBest 12 = .ok (.iconst 1, 1) := okd_at mX12_toldBest_0 6 rfl
theorem dX12_toldBest_13 : decode cX12_toldBest 13 = .ok (.if_icmp .ne 10, 3) := okd_at mX12_toldBest_0 7 rfl
theorem dX12_toldBest_16 : decode cX12_toldBest 16 = .ok (.aload_n 0, 1) := okd_at mX12_toldBest_0 8 rfl
theorem dX12_toldBest_17 : decode cX12_toldBest 17 = .ok (.getfield 228, 3) := okd_at mX12_toldBest_0 9 rfl
theorem dX12_toldBest_20 : decode cX12_toldBest 20 = .ok (.goto 7, 3) := okd_at mX12_toldBest_0 10 rfl
theorem dX12_toldBest_23 : decode cX12_toldBest 23 = .ok (.aload_n 0, 1) := okd_at mX12_toldBest_0 11 rfl
theorem dX12_toldBest_24 : decode cX12_toldBest 24 = .ok (.getfield 231, 3) := okd_at mX12_toldBest_0 12 rfl
theorem dX12_toldBest_27 : decode cX12_toldBest 27 = .ok (.ireturn, 1) := okd_at mX12_toldBest_0 13 rfl
def lmX12_tried_0 : List (Nat × Instr × Nat) := [(0, .aload_n 0, 1), (1, .invokevirtual 219, 3), (4, .aload_n 0, 1), (5, .getfield 213, 3), (8, .aload_n 0, 1), (9, .getfield 228, 3), (12, .if_icmp .lt 25, 3), (15, .aload_n 0, 1), (16, .getfield 213, 3), (19, .aload_n 0, 1), (20, .getfield 228, 3), (23, .if_icmp .ne 35, 3), (26, .aload_n 0, 1), (27, .getfield 207, 3), (30, .aload_n 0, 1), (31, .getfield 231, 3), (34, .if_icmp .le 24, 3), (37, .aload_n 0, 1), (38, .iload_n 1, 1), (39, .putfield 225, 3), (42, .aload_n 0, 1), (43, .aload_n 0, 1), (44, .getfield 213, 3), (47, .putfield 228, 3), (50, .aload_n 0, 1), (51, .aload_n 0, 1), (52, .getfield 207, 3), (55, .putfield 231, 3), (58, .return_, 1)]
theorem mX12_tried_0 : okd cX12_tried lmX12_tried_0 = true := by decide +kernel
theorem dX12_tried_0 : decode cX12_tried 0 = .ok (.aload_n 0, 1) := okd_at mX12_tried_0 0 rfl
theorem dX12_tried_1 : decode cX12_tried 1 = .ok (.invokevirtual 219, 3) := okd_at mX12_tried_0 1 rfl
theorem dX12_tried_4 : decode cX12_tried 4 = .ok (.aload_n 0, 1) := okd_at mX12_tried_0 2 rfl
theorem dX12_tried_5 : decode cX12_tried 5 = .ok (.getfield 213, 3) := okd_at mX12_tried_0 3 rfl
theorem dX12_tried_8 : decode cX12_tried 8 = .ok (.aload_n 0, 1) := okd_at mX12_tried_0 4 rfl
theorem dX12_tried_9 : decode cX12_tried 9 = .ok (.getfield 228, 3) := okd_at mX12_tried_0 5 rfl
theorem dX12_tried_12 : decode cX12_tried 12 = .ok (.if_icmp .lt 25, 3) := okd_at mX12_tried_0 6 rfl
theorem dX12_tried_15 : decode cX12_tried 15 = .ok (.aload_n 0, 1) := okd_at mX12_tried_0 7 rfl
theorem dX12_tried_16 : decode cX12_tried 16 = .ok (.getfield 213, 3) := okd_at mX12_tried_0 8 rfl
theorem dX12_tried_19 : decode cX12_tried 19 = .ok (.aload_n 0, 1) := okd_at mX12_tried_0 9 rfl
theorem dX12_tried_20 : decode cX12_tried 20 = .ok (.getfield 228, 3) := okd_at mX12_tried_0 10 rfl
theorem dX12_tried_23 : decode cX12_tried 23 = .ok (.if_icmp .ne 35, 3) := okd_at mX12_tried_0 11 rfl
theorem dX12_tried_26 : decode cX12_tried 26 = .ok (.aload_n 0, 1) := okd_at mX12_tried_0 12 rfl
theorem dX12_tried_27 : decode cX12_tried 27 = .ok (.getfield 207, 3) := okd_at mX12_tried_0 13 rfl
theorem dX12_tried_30 : decode cX12_tried 30 = .ok (.aload_n 0, 1) := okd_at mX12_tried_0 14 rfl
theorem dX12_tried_31 : decode cX12_tried 31 = .ok (.getfield 231, 3) := okd_at mX12_tried_0 15 rfl
theorem dX12_tried_34 : decode cX12_tried 34 = .ok (.if_icmp .le 24, 3) := okd_at mX12_tried_0 16 rfl
theorem dX12_tried_37 : decode cX12_tried 37 = .ok (.aload_n 0, 1) := okd_at mX12_tried_0 17 rfl
theorem dX12_tried_38 : decode cX12_tried 38 = .ok (.iload_n 1, 1) := okd_at mX12_tried_0 18 rfl
theorem dX12_tried_39 : decode cX12_tried 39 = .ok (.putfield 225, 3) := okd_at mX12_tried_0 19 rfl
theorem dX12_tried_42 : decode cX12_tried 42 = .ok (.aload_n 0, 1) := okd_at mX12_tried_0 20 rfl
theorem dX12_tried_43 : decode cX12_tried 43 = .ok (.aload_n 0, 1) := okd_at mX12_tried_0 21 rfl
theorem dX12_tried_44 : decode cX12_tried 44 = .ok (.getfield 213, 3) := okd_at mX12_tried_0 22 rfl
theorem dX12_tried_47 : decode cX12_tried 47 = .ok (.putfield 228, 3) := okd_at mX12_tried_0 23 rfl
theorem dX12_tried_50 : decode cX12_tried 50 = .ok (.aload_n 0, 1) := okd_at mX12_tried_0 24 rfl
theorem dX12_tried_51 : decode cX12_tried 51 = .ok (.aload_n 0, 1) := okd_at mX12_tried_0 25 rfl
theorem dX12_tried_52 : decode cX12_tried 52 = .ok (.getfield 207, 3) := okd_at mX12_tried_0 26 rfl
theorem dX12_tried_55 : decode cX12_tried 55 = .ok (.putfield 231, 3) := okd_at mX12_tried_0 27 rfl
theorem dX12_tried_58 : decode cX12_tried 58 = .ok (.return_, 1) := okd_at mX12_tried_0 28 rfl
def lmX12_two_0 : List (Nat × Instr × Nat) := [(0, .iload_n 0, 1), (1, .tableswitch 101 11 17 #[43, 57, 101, 71, 82, 93, 97], 43), (44, .iload_n 1, 1), (45, .ifCond .ne 7, 3), (48, .iload_n 2, 1), (49, .ifCond .eq 7, 3), (52, .iconst 1, 1), (53, .goto 4, 3), (56, .iconst 0, 1), (57, .ireturn, 1), (58, .iload_n 1, 1), (59, .ifCond .eq 11, 3), (62, .iload_n 2, 1), (63, .ifCond .eq 7, 3), (66, .iconst 1, 1), (67, .goto 4, 3), (70, .iconst 0, 1), (71, .ireturn, 1), (72, .iload_n 1, 1), (73, .iload_n 2, 1), (74, .if_icmp .ge 7, 3), (77, .iconst 1, 1), (78, .goto 4, 3), (81, .iconst 0, 1), (82, .ireturn, 1), (83, .iload_n 1, 1), (84, .iload_n 2, 1), (85, .if_icmp .ne 7, 3), (88, .iconst 1, 1), (89, .goto 4, 3), (92, .iconst 0, 1), (93, .ireturn, 1), (94, .iload_n 1, 1), (95, .iload_n 2, 1), (96, .iadd, 1), (97, .ireturn, 1), (98, .iload_n 1, 1), (99, .iload_n 2, 1), (100, .isub, 1), (101, .ireturn, 1), (102, .iload_n 1, 1), (103, .iload_n 2, 1), (104, .imul, 1), (105, .ireturn, 1)]
theorem mX12_two_0 : okd cX12_two lmX12_two_0 = true := by decide +kernel
theorem dX12_two_0 : decode cX12_two 0 = .ok (.iload_n 0, 1) := okd_at mX12_two_0 0 rfl
theorem dX12_two_1 : decode cX12_two 1 = .ok (.tableswitch 101 11 17 #[43, 57, 101, 71, 82, 93, 97], 43) := okd_at mX12_two_0 1 rfl
theorem dX12_two_44 : decode cX12_two 44 = .ok (.iload_n 1, 1) := okd_at mX12_two_0 2 rfl
theorem dX12_two_45 : decode cX12_two 45 = .ok (.ifCond .ne 7, 3) := okd_at mX12_two_0 3 rfl
theorem dX12_two_48 : decode cX12_two 48 = .ok (.iload_n 2, 1) := okd_at mX12_two_0 4 rfl
theorem dX12_two_49 : decode cX12_two 49 = .ok (.ifCond .eq 7, 3) := okd_at mX12_two_0 5 rfl
theorem dX12_two_52 : decode cX12_two 52 = .ok (.iconst 1, 1) := okd_at mX12_two_0 6 rfl
theorem dX12_two_53 : decode cX12_two 53 = .ok (.goto 4, 3) := okd_at mX12_two_0 7 rfl
theorem dX12_two_56 : decode cX12_two 56 = .ok (.iconst 0, 1) := okd_at mX12_two_0 8 rfl
theorem dX12_two_57 : decode cX12_two 57 = .ok (.ireturn, 1) := okd_at mX12_two_0 9 rfl
theorem dX12_two_58 : decode cX12_two 58 = .ok (.iload_n 1, 1) := okd_at mX12_two_0 10 rfl
theorem dX12_two_59 : decode cX12_two 59 = .ok (.ifCond .eq 11, 3) := okd_at mX12_two_0 11 rfl
theorem dX12_two_62 : decode cX12_two 62 = .ok (.iload_n 2, 1) := okd_at mX12_two_0 12 rfl
theorem dX12_two_63 : decode cX12_two 63 = .ok (.ifCond .eq 7, 3) := okd_at mX12_two_0 13 rfl
theorem dX12_two_66 : decode cX12_two 66 = .ok (.iconst 1, 1) := okd_at mX12_two_0 14 rfl
theorem dX12_two_67 : decode cX12_two 67 = .ok (.goto 4, 3) := okd_at mX12_two_0 15 rfl
theorem dX12_two_70 : decode cX12_two 70 = .ok (.iconst 0, 1) := okd_at mX12_two_0 16 rfl
theorem dX12_two_71 : decode cX12_two 71 = .ok (.ireturn, 1) := okd_at mX12_two_0 17 rfl
theorem dX12_two_72 : decode cX12_two 72 = .ok (.iload_n 1, 1) := okd_at mX12_two_0 18 rfl
theorem dX12_two_73 : decode cX12_two 73 = .ok (.iload_n 2, 1) := okd_at mX12_two_0 19 rfl
theorem dX12_two_74 : decode cX12_two 74 = .ok (.if_icmp .ge 7, 3) := okd_at mX12_two_0 20 rfl
theorem dX12_two_77 : decode cX12_two 77 = .ok (.iconst 1, 1) := okd_at mX12_two_0 21 rfl
theorem dX12_two_78 : decode cX12_two 78 = .ok (.goto 4, 3) := okd_at mX12_two_0 22 rfl
theorem dX12_two_81 : decode cX12_two 81 = .ok (.iconst 0, 1) := okd_at mX12_two_0 23 rfl
theorem dX12_two_82 : decode cX12_two 82 = .ok (.ireturn, 1) := okd_at mX12_two_0 24 rfl
theorem dX12_two_83 : decode cX12_two 83 = .ok (.iload_n 1, 1) := okd_at mX12_two_0 25 rfl
theorem dX12_two_84 : decode cX12_two 84 = .ok (.iload_n 2, 1) := okd_at mX12_two_0 26 rfl
theorem dX12_two_85 : decode cX12_two 85 = .ok (.if_icmp .ne 7, 3) := okd_at mX12_two_0 27 rfl
theorem dX12_two_88 : decode cX12_two 88 = .ok (.iconst 1, 1) := okd_at mX12_two_0 28 rfl
theorem dX12_two_89 : decode cX12_two 89 = .ok (.goto 4, 3) := okd_at mX12_two_0 29 rfl
theorem dX12_two_92 : decode cX12_two 92 = .ok (.iconst 0, 1) := okd_at mX12_two_0 30 rfl
theorem dX12_two_93 : decode cX12_two 93 = .ok (.ireturn, 1) := okd_at mX12_two_0 31 rfl
theorem dX12_two_94 : decode cX12_two 94 = .ok (.iload_n 1, 1) := okd_at mX12_two_0 32 rfl
theorem dX12_two_95 : decode cX12_two 95 = .ok (.iload_n 2, 1) := okd_at mX12_two_0 33 rfl
theorem dX12_two_96 : decode cX12_two 96 = .ok (.iadd, 1) := okd_at mX12_two_0 34 rfl
theorem dX12_two_97 : decode cX12_two 97 = .ok (.ireturn, 1) := okd_at mX12_two_0 35 rfl
theorem dX12_two_98 : decode cX12_two 98 = .ok (.iload_n 1, 1) := okd_at mX12_two_0 36 rfl
theorem dX12_two_99 : decode cX12_two 99 = .ok (.iload_n 2, 1) := okd_at mX12_two_0 37 rfl
theorem dX12_two_100 : decode cX12_two 100 = .ok (.isub, 1) := okd_at mX12_two_0 38 rfl
theorem dX12_two_101 : decode cX12_two 101 = .ok (.ireturn, 1) := okd_at mX12_two_0 39 rfl
theorem dX12_two_102 : decode cX12_two 102 = .ok (.iload_n 1, 1) := okd_at mX12_two_0 40 rfl
theorem dX12_two_103 : decode cX12_two 103 = .ok (.iload_n 2, 1) := okd_at mX12_two_0 41 rfl
theorem dX12_two_104 : decode cX12_two 104 = .ok (.imul, 1) := okd_at mX12_two_0 42 rfl
theorem dX12_two_105 : decode cX12_two 105 = .ok (.ireturn, 1) := okd_at mX12_two_0 43 rfl
def lmX12_unlike_0 : List (Nat × Instr × Nat) := [(0, .aload_n 0, 1), (1, .invokevirtual 219, 3), (4, .iconst 0, 1), (5, .istore_n 2, 1), (6, .iload_n 2, 1), (7, .aload_n 0, 1), (8, .getfield 97, 3), (11, .if_icmp .ge 31, 3), (14, .aload_n 0, 1), (15, .getfield 43, 3), (18, .bipush 40, 2), (20, .iload_n 1, 1), (21, .imul, 1), (22, .iload_n 2, 1), (23, .iadd, 1), (24, .iaload, 1), (25, .aload_n 0, 1), (26, .getfield 70, 3), (29, .iload_n 2, 1), (30, .iaload, 1), (31, .if_icmp .eq 5, 3), (34, .iload_n 2, 1), (35, .ireturn, 1), (36, .iinc 2 1, 3), (39, .goto (-33), 3), (42, .iconst (-1), 1), (43, .ireturn, 1)]
theorem mX12_unlike_0 : okd cX12_unlike lmX12_unlike_0 = true := by decide +kernel
theorem dX12_unlike_0 : decode cX12_unlike 0 = .ok (.aload_n 0, 1) := okd_at mX12_unlike_0 0 rfl
theorem dX12_unlike_1 : decode cX12_unlike 1 = .ok (.invokevirtual 219, 3) := okd_at mX12_unlike_0 1 rfl
theorem dX12_unlike_4 : decode cX12_unlike 4 = .ok (.iconst 0, 1) := okd_at mX12_unlike_0 2 rfl
theorem dX12_unlike_5 : decode cX12_unlike 5 = .ok (.istore_n 2, 1) := okd_at mX12_unlike_0 3 rfl
theorem dX12_unlike_6 : decode cX12_unlike 6 = .ok (.iload_n 2, 1) := okd_at mX12_unlike_0 4 rfl
theorem dX12_unlike_7 : decode cX12_unlike 7 = .ok (.aload_n 0, 1) := okd_at mX12_unlike_0 5 rfl
theorem dX12_unlike_8 : decode cX12_unlike 8 = .ok (.getfield 97, 3) := okd_at mX12_unlike_0 6 rfl
theorem dX12_unlike_11 : decode cX12_unlike 11 = .ok (.if_icmp .ge 31, 3) := okd_at mX12_unlike_0 7 rfl
theorem dX12_unlike_14 : decode cX12_unlike 14 = .ok (.aload_n 0, 1) := okd_at mX12_unlike_0 8 rfl
theorem dX12_unlike_15 : decode cX12_unlike 15 = .ok (.getfield 43, 3) := okd_at mX12_unlike_0 9 rfl
theorem dX12_unlike_18 : decode cX12_unlike 18 = .ok (.bipush 40, 2) := okd_at mX12_unlike_0 10 rfl
theorem dX12_unlike_20 : decode cX12_unlike 20 = .ok (.iload_n 1, 1) := okd_at mX12_unlike_0 11 rfl
theorem dX12_unlike_21 : decode cX12_unlike 21 = .ok (.imul, 1) := okd_at mX12_unlike_0 12 rfl
theorem dX12_unlike_22 : decode cX12_unlike 22 = .ok (.iload_n 2, 1) := okd_at mX12_unlike_0 13 rfl
theorem dX12_unlike_23 : decode cX12_unlike 23 = .ok (.iadd, 1) := okd_at mX12_unlike_0 14 rfl
theorem dX12_unlike_24 : decode cX12_unlike 24 = .ok (.iaload, 1) := okd_at mX12_unlike_0 15 rfl
theorem dX12_unlike_25 : decode cX12_unlike 25 = .ok (.aload_n 0, 1) := okd_at mX12_unlike_0 16 rfl
theorem dX12_unlike_26 : decode cX12_unlike 26 = .ok (.getfield 70, 3) := okd_at mX12_unlike_0 17 rfl
theorem dX12_unlike_29 : decode cX12_unlike 29 = .ok (.iload_n 2, 1) := okd_at mX12_unlike_0 18 rfl
theorem dX12_unlike_30 : decode cX12_unlike 30 = .ok (.iaload, 1) := okd_at mX12_unlike_0 19 rfl
theorem dX12_unlike_31 : decode cX12_unlike 31 = .ok (.if_icmp .eq 5, 3) := okd_at mX12_unlike_0 20 rfl
theorem dX12_unlike_34 : decode cX12_unlike 34 = .ok (.iload_n 2, 1) := okd_at mX12_unlike_0 21 rfl
theorem dX12_unlike_35 : decode cX12_unlike 35 = .ok (.ireturn, 1) := okd_at mX12_unlike_0 22 rfl
theorem dX12_unlike_36 : decode cX12_unlike 36 = .ok (.iinc 2 1, 3) := okd_at mX12_unlike_0 23 rfl
theorem dX12_unlike_39 : decode cX12_unlike 39 = .ok (.goto (-33), 3) := okd_at mX12_unlike_0 24 rfl
theorem dX12_unlike_42 : decode cX12_unlike 42 = .ok (.iconst (-1), 1) := okd_at mX12_unlike_0 25 rfl
theorem dX12_unlike_43 : decode cX12_unlike 43 = .ok (.ireturn, 1) := okd_at mX12_unlike_0 26 rfl
def lmX12_unwinds_0 : List (Nat × Instr × Nat) := [(0, .aload_n 0, 1), (1, .getfield 132, 3), (4, .ifCond .le 75, 3), (7, .aload_n 0, 1), (8, .getfield 52, 3), (11, .aload_n 0, 1), (12, .getfield 132, 3), (15, .iconst 1, 1), (16, .isub, 1), (17, .iaload, 1), (18, .invokestatic 135, 3), (21, .iload_n 1, 1), (22, .if_icmp .lt 57, 3), (25, .aload_n 0, 1), (26, .dup, 1), (27, .getfield 132, 3), (30, .iconst 1, 1), (31, .isub, 1), (32, .putfield 132, 3), (35, .aload_n 0, 1), (36, .getfield 52, 3), (39, .aload_n 0, 1), (40, .getfield 132, 3), (43, .iaload, 1), (44, .istore_n 2, 1), (45, .aload_n 0, 1), (46, .dup, 1), (47, .getfield 139, 3), (50, .iload_n 2, 1), (51, .bipush 13, 2), (53, .if_icmp .eq 9, 3), (56, .iload_n 2, 1), (57, .bipush 19, 2), (59, .if_icmp .ne 7, 3), (62, .iconst 1, 1), (63, .goto 4, 3), (66, .iconst 0, 1), (67, .isub, 1), (68, .putfield 139, 3), (71, .aload_n 0, 1), (72, .iload_n 2, 1), (73, .invokevirtual 142, 3), (76, .goto (-76), 3), (79, .return_, 1)]
theorem mX12_unwinds_0 : okd cX12_unwinds lmX12_unwinds_0 = true := by decide +kernel
theorem dX12_unwinds_0 : decode cX12_unwinds 0 = .ok (.aload_n 0, 1) := okd_at mX12_unwinds_0 0 rfl
theorem dX12_unwinds_1 : decode cX12_unwinds 1 = .ok (.getfield 132, 3) := okd_at mX12_unwinds_0 1 rfl
theorem dX12_unwinds_4 : decode cX12_unwinds 4 = .ok (.ifCond .le 75, 3) := okd_at mX12_unwinds_0 2 rfl
theorem dX12_unwinds_7 : decode cX12_unwinds 7 = .ok (.aload_n 0, 1) := okd_at mX12_unwinds_0 3 rfl
theorem dX12_unwinds_8 : decode cX12_unwinds 8 = .ok (.getfield 52, 3) := okd_at mX12_unwinds_0 4 rfl
theorem dX12_unwinds_11 : decode cX12_unwinds 11 = .ok (.aload_n 0, 1) := okd_at mX12_unwinds_0 5 rfl
theorem dX12_unwinds_12 : decode cX12_unwinds 12 = .ok (.getfield 132, 3) := okd_at mX12_unwinds_0 6 rfl
theorem dX12_unwinds_15 : decode cX12_unwinds 15 = .ok (.iconst 1, 1) := okd_at mX12_unwinds_0 7 rfl
theorem dX12_unwinds_16 : decode cX12_unwinds 16 = .ok (.isub, 1) := okd_at mX12_unwinds_0 8 rfl
theorem dX12_unwinds_17 : decode cX12_unwinds 17 = .ok (.iaload, 1) := okd_at mX12_unwinds_0 9 rfl
theorem dX12_unwinds_18 : decode cX12_unwinds 18 = .ok (.invokestatic 135, 3) := okd_at mX12_unwinds_0 10 rfl
theorem dX12_unwinds_21 : decode cX12_unwinds 21 = .ok (.iload_n 1, 1) := okd_at mX12_unwinds_0 11 rfl
theorem dX12_unwinds_22 : decode cX12_unwinds 22 = .ok (.if_icmp .lt 57, 3) := okd_at mX12_unwinds_0 12 rfl
theorem dX12_unwinds_25 : decode cX12_unwinds 25 = .ok (.aload_n 0, 1) := okd_at mX12_unwinds_0 13 rfl
theorem dX12_unwinds_26 : decode cX12_unwinds 26 = .ok (.dup, 1) := okd_at mX12_unwinds_0 14 rfl
theorem dX12_unwinds_27 : decode cX12_unwinds 27 = .ok (.getfield 132, 3) := okd_at mX12_unwinds_0 15 rfl
theorem dX12_unwinds_30 : decode cX12_unwinds 30 = .ok (.iconst 1, 1) := okd_at mX12_unwinds_0 16 rfl
theorem dX12_unwinds_31 : decode cX12_unwinds 31 = .ok (.isub, 1) := okd_at mX12_unwinds_0 17 rfl
theorem dX12_unwinds_32 : decode cX12_unwinds 32 = .ok (.putfield 132, 3) := okd_at mX12_unwinds_0 18 rfl
theorem dX12_unwinds_35 : decode cX12_unwinds 35 = .ok (.aload_n 0, 1) := okd_at mX12_unwinds_0 19 rfl
theorem dX12_unwinds_36 : decode cX12_unwinds 36 = .ok (.getfield 52, 3) := okd_at mX12_unwinds_0 20 rfl
theorem dX12_unwinds_39 : decode cX12_unwinds 39 = .ok (.aload_n 0, 1) := okd_at mX12_unwinds_0 21 rfl
theorem dX12_unwinds_40 : decode cX12_unwinds 40 = .ok (.getfield 132, 3) := okd_at mX12_unwinds_0 22 rfl
theorem dX12_unwinds_43 : decode cX12_unwinds 43 = .ok (.iaload, 1) := okd_at mX12_unwinds_0 23 rfl
theorem dX12_unwinds_44 : decode cX12_unwinds 44 = .ok (.istore_n 2, 1) := okd_at mX12_unwinds_0 24 rfl
theorem dX12_unwinds_45 : decode cX12_unwinds 45 = .ok (.aload_n 0, 1) := okd_at mX12_unwinds_0 25 rfl
theorem dX12_unwinds_46 : decode cX12_unwinds 46 = .ok (.dup, 1) := okd_at mX12_unwinds_0 26 rfl
theorem dX12_unwinds_47 : decode cX12_unwinds 47 = .ok (.getfield 139, 3) := okd_at mX12_unwinds_0 27 rfl
theorem dX12_unwinds_50 : decode cX12_unwinds 50 = .ok (.iload_n 2, 1) := okd_at mX12_unwinds_0 28 rfl
theorem dX12_unwinds_51 : decode cX12_unwinds 51 = .ok (.bipush 13, 2) := okd_at mX12_unwinds_0 29 rfl
theorem dX12_unwinds_53 : decode cX12_unwinds 53 = .ok (.if_icmp .eq 9, 3) := okd_at mX12_unwinds_0 30 rfl
theorem dX12_unwinds_56 : decode cX12_unwinds 56 = .ok (.iload_n 2, 1) := okd_at mX12_unwinds_0 31 rfl
theorem dX12_unwinds_57 : decode cX12_unwinds 57 = .ok (.bipush 19, 2) := okd_at mX12_unwinds_0 32 rfl
theorem dX12_unwinds_59 : decode cX12_unwinds 59 = .ok (.if_icmp .ne 7, 3) := okd_at mX12_unwinds_0 33 rfl
theorem dX12_unwinds_62 : decode cX12_unwinds 62 = .ok (.iconst 1, 1) := okd_at mX12_unwinds_0 34 rfl
theorem dX12_unwinds_63 : decode cX12_unwinds 63 = .ok (.goto 4, 3) := okd_at mX12_unwinds_0 35 rfl
theorem dX12_unwinds_66 : decode cX12_unwinds 66 = .ok (.iconst 0, 1) := okd_at mX12_unwinds_0 36 rfl
theorem dX12_unwinds_67 : decode cX12_unwinds 67 = .ok (.isub, 1) := okd_at mX12_unwinds_0 37 rfl
theorem dX12_unwinds_68 : decode cX12_unwinds 68 = .ok (.putfield 139, 3) := okd_at mX12_unwinds_0 38 rfl
theorem dX12_unwinds_71 : decode cX12_unwinds 71 = .ok (.aload_n 0, 1) := okd_at mX12_unwinds_0 39 rfl
theorem dX12_unwinds_72 : decode cX12_unwinds 72 = .ok (.iload_n 2, 1) := okd_at mX12_unwinds_0 40 rfl
theorem dX12_unwinds_73 : decode cX12_unwinds 73 = .ok (.invokevirtual 142, 3) := okd_at mX12_unwinds_0 41 rfl
theorem dX12_unwinds_76 : decode cX12_unwinds 76 = .ok (.goto (-76), 3) := okd_at mX12_unwinds_0 42 rfl
theorem dX12_unwinds_79 : decode cX12_unwinds 79 = .ok (.return_, 1) := okd_at mX12_unwinds_0 43 rfl
def lmX12_within_0 : List (Nat × Instr × Nat) := [(0, .iload_n 0, 1), (1, .iload_n 1, 1), (2, .if_icmp .ge 7, 3), (5, .iload_n 1, 1), (6, .goto 13, 3), (9, .iload_n 0, 1), (10, .iload_n 2, 1), (11, .if_icmp .le 7, 3), (14, .iload_n 2, 1), (15, .goto 4, 3), (18, .iload_n 0, 1), (19, .ireturn, 1)]
theorem mX12_within_0 : okd cX12_within lmX12_within_0 = true := by decide +kernel
theorem dX12_within_0 : decode cX12_within 0 = .ok (.iload_n 0, 1) := okd_at mX12_within_0 0 rfl
theorem dX12_within_1 : decode cX12_within 1 = .ok (.iload_n 1, 1) := okd_at mX12_within_0 1 rfl
theorem dX12_within_2 : decode cX12_within 2 = .ok (.if_icmp .ge 7, 3) := okd_at mX12_within_0 2 rfl
theorem dX12_within_5 : decode cX12_within 5 = .ok (.iload_n 1, 1) := okd_at mX12_within_0 3 rfl
theorem dX12_within_6 : decode cX12_within 6 = .ok (.goto 13, 3) := okd_at mX12_within_0 4 rfl
theorem dX12_within_9 : decode cX12_within 9 = .ok (.iload_n 0, 1) := okd_at mX12_within_0 5 rfl
theorem dX12_within_10 : decode cX12_within 10 = .ok (.iload_n 2, 1) := okd_at mX12_within_0 6 rfl
theorem dX12_within_11 : decode cX12_within 11 = .ok (.if_icmp .le 7, 3) := okd_at mX12_within_0 7 rfl
theorem dX12_within_14 : decode cX12_within 14 = .ok (.iload_n 2, 1) := okd_at mX12_within_0 8 rfl
theorem dX12_within_15 : decode cX12_within 15 = .ok (.goto 4, 3) := okd_at mX12_within_0 9 rfl
theorem dX12_within_18 : decode cX12_within 18 = .ok (.iload_n 0, 1) := okd_at mX12_within_0 10 rfl
theorem dX12_within_19 : decode cX12_within 19 = .ok (.ireturn, 1) := okd_at mX12_within_0 11 rfl
def lmX12_wordFrom_0 : List (Nat × Instr × Nat) := [(0, .iconst 0, 1), (1, .istore_n 3, 1), (2, .iload_n 3, 1), (3, .bipush 12, 2), (5, .if_icmp .ge 96, 3), (8, .iload_n 2, 1), (9, .iload_n 1, 1), (10, .isub, 1), (11, .bipush 8, 2), (13, .if_icmp .gt 7, 3), (16, .iconst 1, 1), (17, .goto 4, 3), (20, .iconst 0, 1), (21, .istore 4, 2), (23, .iconst 0, 1), (24, .istore 5, 2), (26, .iload 5, 2), (28, .bipush 8, 2), (30, .if_icmp .ge 58, 3), (33, .iload 4, 2), (35, .ifCond .eq 53, 3), (38, .aload_n 0, 1), (39, .getfield 49, 3), (42, .bipush 8, 2), (44, .iload_n 3, 1), (45, .imul, 1), (46, .iload 5, 2), (48, .iadd, 1), (49, .iaload, 1), (50, .iload_n 1, 1), (51, .iload 5, 2), (53, .iadd, 1), (54, .iload_n 2, 1), (55, .if_icmp .ge 15, 3), (58, .aload_n 0, 1), (59, .getfield 22, 3), (62, .iload_n 1, 1), (63, .iload 5, 2), (65, .iadd, 1), (66, .iaload, 1), (67, .goto 5, 3), (70, .bipush 32, 2), (72, .if_icmp .ne 7, 3), (75, .iconst 1, 1), (76, .goto 4, 3), (79, .iconst 0, 1), (80, .istore 4, 2), (82, .iinc 5 1, 3), (85, .goto (-59), 3), (88, .iload 4, 2), (90, .ifCond .eq 5, 3), (93, .iload_n 3, 1), (94, .ireturn, 1), (95, .iinc 3 1, 3), (98, .goto (-96), 3), (101, .bipush 12, 2), (103, .ireturn, 1)]
theorem mX12_wordFrom_0 : okd cX12_wordFrom lmX12_wordFrom_0 = true := by decide +kernel
theorem dX12_wordFrom_0 : decode cX12_wordFrom 0 = .ok (.iconst 0, 1) := okd_at mX12_wordFrom_0 0 rfl
theorem dX12_wordFrom_1 : decode cX12_wordFrom 1 = .ok (.istore_n 3, 1) := okd_at mX12_wordFrom_0 1 rfl
theorem dX12_wordFrom_2 : decode cX12_wordFrom 2 = .ok (.iload_n 3, 1) := okd_at mX12_wordFrom_0 2 rfl
theorem dX12_wordFrom_3 : decode cX12_wordFrom 3 = .ok (.bipush 12, 2) := okd_at mX12_wordFrom_0 3 rfl
theorem dX12_wordFrom_5 : decode cX12_wordFrom 5 = .ok (.if_icmp .ge 96, 3) := okd_at mX12_wordFrom_0 4 rfl
theorem dX12_wordFrom_8 : decode cX12_wordFrom 8 = .ok (.iload_n 2, 1) := okd_at mX12_wordFrom_0 5 rfl
theorem dX12_wordFrom_9 : decode cX12_wordFrom 9 = .ok (.iload_n 1, 1) := okd_at mX12_wordFrom_0 6 rfl
theorem dX12_wordFrom_10 : decode cX12_wordFrom 10 = .ok (.isub, 1) := okd_at mX12_wordFrom_0 7 rfl
theorem dX12_wordFrom_11 : decode cX12_wordFrom 11 = .ok (.bipush 8, 2) := okd_at mX12_wordFrom_0 8 rfl
theorem dX12_wordFrom_13 : decode cX12_wordFrom 13 = .ok (.if_icmp .gt 7, 3) := okd_at mX12_wordFrom_0 9 rfl
theorem dX12_wordFrom_16 : decode cX12_wordFrom 16 = .ok (.iconst 1, 1) := okd_at mX12_wordFrom_0 10 rfl
theorem dX12_wordFrom_17 : decode cX12_wordFrom 17 = .ok (.goto 4, 3) := okd_at mX12_wordFrom_0 11 rfl
theorem dX12_wordFrom_20 : decode cX12_wordFrom 20 = .ok (.iconst 0, 1) := okd_at mX12_wordFrom_0 12 rfl
theorem dX12_wordFrom_21 : decode cX12_wordFrom 21 = .ok (.istore 4, 2) := okd_at mX12_wordFrom_0 13 rfl
theorem dX12_wordFrom_23 : decode cX12_wordFrom 23 = .ok (.iconst 0, 1) := okd_at mX12_wordFrom_0 14 rfl
theorem dX12_wordFrom_24 : decode cX12_wordFrom 24 = .ok (.istore 5, 2) := okd_at mX12_wordFrom_0 15 rfl
theorem dX12_wordFrom_26 : decode cX12_wordFrom 26 = .ok (.iload 5, 2) := okd_at mX12_wordFrom_0 16 rfl
theorem dX12_wordFrom_28 : decode cX12_wordFrom 28 = .ok (.bipush 8, 2) := okd_at mX12_wordFrom_0 17 rfl
theorem dX12_wordFrom_30 : decode cX12_wordFrom 30 = .ok (.if_icmp .ge 58, 3) := okd_at mX12_wordFrom_0 18 rfl
theorem dX12_wordFrom_33 : decode cX12_wordFrom 33 = .ok (.iload 4, 2) := okd_at mX12_wordFrom_0 19 rfl
theorem dX12_wordFrom_35 : decode cX12_wordFrom 35 = .ok (.ifCond .eq 53, 3) := okd_at mX12_wordFrom_0 20 rfl
theorem dX12_wordFrom_38 : decode cX12_wordFrom 38 = .ok (.aload_n 0, 1) := okd_at mX12_wordFrom_0 21 rfl
theorem dX12_wordFrom_39 : decode cX12_wordFrom 39 = .ok (.getfield 49, 3) := okd_at mX12_wordFrom_0 22 rfl
theorem dX12_wordFrom_42 : decode cX12_wordFrom 42 = .ok (.bipush 8, 2) := okd_at mX12_wordFrom_0 23 rfl
theorem dX12_wordFrom_44 : decode cX12_wordFrom 44 = .ok (.iload_n 3, 1) := okd_at mX12_wordFrom_0 24 rfl
theorem dX12_wordFrom_45 : decode cX12_wordFrom 45 = .ok (.imul, 1) := okd_at mX12_wordFrom_0 25 rfl
theorem dX12_wordFrom_46 : decode cX12_wordFrom 46 = .ok (.iload 5, 2) := okd_at mX12_wordFrom_0 26 rfl
theorem dX12_wordFrom_48 : decode cX12_wordFrom 48 = .ok (.iadd, 1) := okd_at mX12_wordFrom_0 27 rfl
theorem dX12_wordFrom_49 : decode cX12_wordFrom 49 = .ok (.iaload, 1) := okd_at mX12_wordFrom_0 28 rfl
theorem dX12_wordFrom_50 : decode cX12_wordFrom 50 = .ok (.iload_n 1, 1) := okd_at mX12_wordFrom_0 29 rfl
theorem dX12_wordFrom_51 : decode cX12_wordFrom 51 = .ok (.iload 5, 2) := okd_at mX12_wordFrom_0 30 rfl
theorem dX12_wordFrom_53 : decode cX12_wordFrom 53 = .ok (.iadd, 1) := okd_at mX12_wordFrom_0 31 rfl
theorem dX12_wordFrom_54 : decode cX12_wordFrom 54 = .ok (.iload_n 2, 1) := okd_at mX12_wordFrom_0 32 rfl
theorem dX12_wordFrom_55 : decode cX12_wordFrom 55 = .ok (.if_icmp .ge 15, 3) := okd_at mX12_wordFrom_0 33 rfl
theorem dX12_wordFrom_58 : decode cX12_wordFrom 58 = .ok (.aload_n 0, 1) := okd_at mX12_wordFrom_0 34 rfl
theorem dX12_wordFrom_59 : decode cX12_wordFrom 59 = .ok (.getfield 22, 3) := okd_at mX12_wordFrom_0 35 rfl
theorem dX12_wordFrom_62 : decode cX12_wordFrom 62 = .ok (.iload_n 1, 1) := okd_at mX12_wordFrom_0 36 rfl
theorem dX12_wordFrom_63 : decode cX12_wordFrom 63 = .ok (.iload 5, 2) := okd_at mX12_wordFrom_0 37 rfl
theorem dX12_wordFrom_65 : decode cX12_wordFrom 65 = .ok (.iadd, 1) := okd_at mX12_wordFrom_0 38 rfl
theorem dX12_wordFrom_66 : decode cX12_wordFrom 66 = .ok (.iaload, 1) := okd_at mX12_wordFrom_0 39 rfl
theorem dX12_wordFrom_67 : decode cX12_wordFrom 67 = .ok (.goto 5, 3) := okd_at mX12_wordFrom_0 40 rfl
theorem dX12_wordFrom_70 : decode cX12_wordFrom 70 = .ok (.bipush 32, 2) := okd_at mX12_wordFrom_0 41 rfl
theorem dX12_wordFrom_72 : decode cX12_wordFrom 72 = .ok (.if_icmp .ne 7, 3) := okd_at mX12_wordFrom_0 42 rfl
theorem dX12_wordFrom_75 : decode cX12_wordFrom 75 = .ok (.iconst 1, 1) := okd_at mX12_wordFrom_0 43 rfl
theorem dX12_wordFrom_76 : decode cX12_wordFrom 76 = .ok (.goto 4, 3) := okd_at mX12_wordFrom_0 44 rfl
theorem dX12_wordFrom_79 : decode cX12_wordFrom 79 = .ok (.iconst 0, 1) := okd_at mX12_wordFrom_0 45 rfl
theorem dX12_wordFrom_80 : decode cX12_wordFrom 80 = .ok (.istore 4, 2) := okd_at mX12_wordFrom_0 46 rfl
theorem dX12_wordFrom_82 : decode cX12_wordFrom 82 = .ok (.iinc 5 1, 3) := okd_at mX12_wordFrom_0 47 rfl
theorem dX12_wordFrom_85 : decode cX12_wordFrom 85 = .ok (.goto (-59), 3) := okd_at mX12_wordFrom_0 48 rfl
theorem dX12_wordFrom_88 : decode cX12_wordFrom 88 = .ok (.iload 4, 2) := okd_at mX12_wordFrom_0 49 rfl
theorem dX12_wordFrom_90 : decode cX12_wordFrom 90 = .ok (.ifCond .eq 5, 3) := okd_at mX12_wordFrom_0 50 rfl
theorem dX12_wordFrom_93 : decode cX12_wordFrom 93 = .ok (.iload_n 3, 1) := okd_at mX12_wordFrom_0 51 rfl
theorem dX12_wordFrom_94 : decode cX12_wordFrom 94 = .ok (.ireturn, 1) := okd_at mX12_wordFrom_0 52 rfl
theorem dX12_wordFrom_95 : decode cX12_wordFrom 95 = .ok (.iinc 3 1, 3) := okd_at mX12_wordFrom_0 53 rfl
theorem dX12_wordFrom_98 : decode cX12_wordFrom 98 = .ok (.goto (-96), 3) := okd_at mX12_wordFrom_0 54 rfl
theorem dX12_wordFrom_101 : decode cX12_wordFrom 101 = .ok (.bipush 12, 2) := okd_at mX12_wordFrom_0 55 rfl
theorem dX12_wordFrom_103 : decode cX12_wordFrom 103 = .ok (.ireturn, 1) := okd_at mX12_wordFrom_0 56 rfl
