def lmJ0_charAt_5068e_0 : List (Nat × Instr × Nat) := [(0, .aload_n 0, 1), (1, .invokevirtual 492, 3), (4, .ifCond .eq 12, 3), (7, .aload_n 0, 1), (8, .getfield 9, 3), (11, .iload_n 1, 1), (12, .invokestatic 495, 3), (15, .ireturn, 1), (16, .aload_n 0, 1), (17, .getfield 9, 3), (20, .iload_n 1, 1), (21, .invokestatic 498, 3), (24, .ireturn, 1)]
theorem mJ0_charAt_5068e_0 : okd cJ0_charAt_5068e lmJ0_charAt_5068e_0 = true := by decide +kernel
theorem dJ0_charAt_5068e_0 : decode cJ0_charAt_5068e 0 = .ok (.aload_n 0, 1) := okd_at mJ0_charAt_5068e_0 0 rfl
theorem dJ0_charAt_5068e_1 : decode cJ0_charAt_5068e 1 = .ok (.invokevirtual 492, 3) := okd_at mJ0_charAt_5068e_0 1 rfl
theorem dJ0_charAt_5068e_4 : decode cJ0_charAt_5068e 4 = .ok (.ifCond .eq 12, 3) := okd_at mJ0_charAt_5068e_0 2 rfl
theorem dJ0_charAt_5068e_7 : decode cJ0_charAt_5068e 7 = .ok (.aload_n 0, 1) := okd_at mJ0_charAt_5068e_0 3 rfl
theorem dJ0_charAt_5068e_8 : decode cJ0_charAt_5068e 8 = .ok (.getfield 9, 3) := okd_at mJ0_charAt_5068e_0 4 rfl
theorem dJ0_charAt_5068e_11 : decode cJ0_charAt_5068e 11 = .ok (.iload_n 1, 1) := okd_at mJ0_charAt_5068e_0 5 rfl
theorem dJ0_charAt_5068e_12 : decode cJ0_charAt_5068e 12 = .ok (.invokestatic 495, 3) := okd_at mJ0_charAt_5068e_0 6 rfl
theorem dJ0_charAt_5068e_15 : decode cJ0_charAt_5068e 15 = .ok (.ireturn, 1) := okd_at mJ0_charAt_5068e_0 7 rfl
theorem dJ0_charAt_5068e_16 : decode cJ0_charAt_5068e 16 = .ok (.aload_n 0, 1) := okd_at mJ0_charAt_5068e_0 8 rfl
theorem dJ0_charAt_5068e_17 : decode cJ0_charAt_5068e 17 = .ok (.getfield 9, 3) := okd_at mJ0_charAt_5068e_0 9 rfl
theorem dJ0_charAt_5068e_20 : decode cJ0_charAt_5068e 20 = .ok (.iload_n 1, 1) := okd_at mJ0_charAt_5068e_0 10 rfl
theorem dJ0_charAt_5068e_21 : decode cJ0_charAt_5068e 21 = .ok (.invokestatic 498, 3) := okd_at mJ0_charAt_5068e_0 11 rfl
theorem dJ0_charAt_5068e_24 : decode cJ0_charAt_5068e 24 = .ok (.ireturn, 1) := okd_at mJ0_charAt_5068e_0 12 rfl
def lmJ0_checkIndex_df160_0 : List (Nat × Instr × Nat) := [(0, .iload_n 0, 1), (1, .iload_n 1, 1), (2, .getstatic 1053, 3), (5, .invokestatic 1059, 3), (8, .pop, 1), (9, .return_, 1)]
theorem mJ0_checkIndex_df160_0 : okd cJ0_checkIndex_df160 lmJ0_checkIndex_df160_0 = true := by decide +kernel
theorem dJ0_checkIndex_df160_0 : decode cJ0_checkIndex_df160 0 = .ok (.iload_n 0, 1) := okd_at mJ0_checkIndex_df160_0 0 rfl
theorem dJ0_checkIndex_df160_1 : decode cJ0_checkIndex_df160 1 = .ok (.iload_n 1, 1) := okd_at mJ0_checkIndex_df160_0 1 rfl
theorem dJ0_checkIndex_df160_2 : decode cJ0_checkIndex_df160 2 = .ok (.getstatic 1053, 3) := okd_at mJ0_checkIndex_df160_0 2 rfl
theorem dJ0_checkIndex_df160_5 : decode cJ0_checkIndex_df160 5 = .ok (.invokestatic 1059, 3) := okd_at mJ0_checkIndex_df160_0 3 rfl
theorem dJ0_checkIndex_df160_8 : decode cJ0_checkIndex_df160 8 = .ok (.pop, 1) := okd_at mJ0_checkIndex_df160_0 4 rfl
theorem dJ0_checkIndex_df160_9 : decode cJ0_checkIndex_df160 9 = .ok (.return_, 1) := okd_at mJ0_checkIndex_df160_0 5 rfl
def lmJ0_coder_7d493_0 : List (Nat × Instr × Nat) := [(0, .getstatic 38, 3), (3, .ifCond .eq 10, 3), (6, .aload_n 0, 1), (7, .getfield 15, 3), (10, .goto 4, 3), (13, .iconst 1, 1), (14, .ireturn, 1)]
theorem mJ0_coder_7d493_0 : okd cJ0_coder_7d493 lmJ0_coder_7d493_0 = true := by decide +kernel
theorem dJ0_coder_7d493_0 : decode cJ0_coder_7d493 0 = .ok (.getstatic 38, 3) := okd_at mJ0_coder_7d493_0 0 rfl
theorem dJ0_coder_7d493_3 : decode cJ0_coder_7d493 3 = .ok (.ifCond .eq 10, 3) := okd_at mJ0_coder_7d493_0 1 rfl
theorem dJ0_coder_7d493_6 : decode cJ0_coder_7d493 6 = .ok (.aload_n 0, 1) := okd_at mJ0_coder_7d493_0 2 rfl
theorem dJ0_coder_7d493_7 : decode cJ0_coder_7d493 7 = .ok (.getfield 15, 3) := okd_at mJ0_coder_7d493_0 3 rfl
theorem dJ0_coder_7d493_10 : decode cJ0_coder_7d493 10 = .ok (.goto 4, 3) := okd_at mJ0_coder_7d493_0 4 rfl
theorem dJ0_coder_7d493_13 : decode cJ0_coder_7d493 13 = .ok (.iconst 1, 1) := okd_at mJ0_coder_7d493_0 5 rfl
theorem dJ0_coder_7d493_14 : decode cJ0_coder_7d493 14 = .ok (.ireturn, 1) := okd_at mJ0_coder_7d493_0 6 rfl
def lmJ0_isLatin1_aae02_0 : List (Nat × Instr × Nat) := [(0, .getstatic 38, 3), (3, .ifCond .eq 14, 3), (6, .aload_n 0, 1), (7, .getfield 15, 3), (10, .ifCond .ne 7, 3), (13, .iconst 1, 1), (14, .goto 4, 3), (17, .iconst 0, 1), (18, .ireturn, 1)]
theorem mJ0_isLatin1_aae02_0 : okd cJ0_isLatin1_aae02 lmJ0_isLatin1_aae02_0 = true := by decide +kernel
theorem dJ0_isLatin1_aae02_0 : decode cJ0_isLatin1_aae02 0 = .ok (.getstatic 38, 3) := okd_at mJ0_isLatin1_aae02_0 0 rfl
theorem dJ0_isLatin1_aae02_3 : decode cJ0_isLatin1_aae02 3 = .ok (.ifCond .eq 14, 3) := okd_at mJ0_isLatin1_aae02_0 1 rfl
theorem dJ0_isLatin1_aae02_6 : decode cJ0_isLatin1_aae02 6 = .ok (.aload_n 0, 1) := okd_at mJ0_isLatin1_aae02_0 2 rfl
theorem dJ0_isLatin1_aae02_7 : decode cJ0_isLatin1_aae02 7 = .ok (.getfield 15, 3) := okd_at mJ0_isLatin1_aae02_0 3 rfl
theorem dJ0_isLatin1_aae02_10 : decode cJ0_isLatin1_aae02 10 = .ok (.ifCond .ne 7, 3) := okd_at mJ0_isLatin1_aae02_0 4 rfl
theorem dJ0_isLatin1_aae02_13 : decode cJ0_isLatin1_aae02 13 = .ok (.iconst 1, 1) := okd_at mJ0_isLatin1_aae02_0 5 rfl
theorem dJ0_isLatin1_aae02_14 : decode cJ0_isLatin1_aae02 14 = .ok (.goto 4, 3) := okd_at mJ0_isLatin1_aae02_0 6 rfl
theorem dJ0_isLatin1_aae02_17 : decode cJ0_isLatin1_aae02 17 = .ok (.iconst 0, 1) := okd_at mJ0_isLatin1_aae02_0 7 rfl
theorem dJ0_isLatin1_aae02_18 : decode cJ0_isLatin1_aae02 18 = .ok (.ireturn, 1) := okd_at mJ0_isLatin1_aae02_0 8 rfl
def lmJ0_length_8abf5_0 : List (Nat × Instr × Nat) := [(0, .aload_n 0, 1), (1, .getfield 9, 3), (4, .arraylength, 1), (5, .aload_n 0, 1), (6, .invokevirtual 335, 3), (9, .ishr, 1), (10, .ireturn, 1)]
theorem mJ0_length_8abf5_0 : okd cJ0_length_8abf5 lmJ0_length_8abf5_0 = true := by decide +kernel
theorem dJ0_length_8abf5_0 : decode cJ0_length_8abf5 0 = .ok (.aload_n 0, 1) := okd_at mJ0_length_8abf5_0 0 rfl
theorem dJ0_length_8abf5_1 : decode cJ0_length_8abf5 1 = .ok (.getfield 9, 3) := okd_at mJ0_length_8abf5_0 1 rfl
theorem dJ0_length_8abf5_4 : decode cJ0_length_8abf5 4 = .ok (.arraylength, 1) := okd_at mJ0_length_8abf5_0 2 rfl
theorem dJ0_length_8abf5_5 : decode cJ0_length_8abf5 5 = .ok (.aload_n 0, 1) := okd_at mJ0_length_8abf5_0 3 rfl
theorem dJ0_length_8abf5_6 : decode cJ0_length_8abf5 6 = .ok (.invokevirtual 335, 3) := okd_at mJ0_length_8abf5_0 4 rfl
theorem dJ0_length_8abf5_9 : decode cJ0_length_8abf5 9 = .ok (.ishr, 1) := okd_at mJ0_length_8abf5_0 5 rfl
theorem dJ0_length_8abf5_10 : decode cJ0_length_8abf5 10 = .ok (.ireturn, 1) := okd_at mJ0_length_8abf5_0 6 rfl
def lmJ1_charAt_3b067_0 : List (Nat × Instr × Nat) := [(0, .iload_n 1, 1), (1, .aload_n 0, 1), (2, .arraylength, 1), (3, .invokestatic 9, 3), (6, .aload_n 0, 1), (7, .iload_n 1, 1), (8, .baload, 1), (9, .sipush 255, 3), (12, .iand, 1), (13, .i2c, 1), (14, .ireturn, 1)]
theorem mJ1_charAt_3b067_0 : okd cJ1_charAt_3b067 lmJ1_charAt_3b067_0 = true := by decide +kernel
theorem dJ1_charAt_3b067_0 : decode cJ1_charAt_3b067 0 = .ok (.iload_n 1, 1) := okd_at mJ1_charAt_3b067_0 0 rfl
theorem dJ1_charAt_3b067_1 : decode cJ1_charAt_3b067 1 = .ok (.aload_n 0, 1) := okd_at mJ1_charAt_3b067_0 1 rfl
theorem dJ1_charAt_3b067_2 : decode cJ1_charAt_3b067 2 = .ok (.arraylength, 1) := okd_at mJ1_charAt_3b067_0 2 rfl
theorem dJ1_charAt_3b067_3 : decode cJ1_charAt_3b067 3 = .ok (.invokestatic 9, 3) := okd_at mJ1_charAt_3b067_0 3 rfl
theorem dJ1_charAt_3b067_6 : decode cJ1_charAt_3b067 6 = .ok (.aload_n 0, 1) := okd_at mJ1_charAt_3b067_0 4 rfl
theorem dJ1_charAt_3b067_7 : decode cJ1_charAt_3b067 7 = .ok (.iload_n 1, 1) := okd_at mJ1_charAt_3b067_0 5 rfl
theorem dJ1_charAt_3b067_8 : decode cJ1_charAt_3b067 8 = .ok (.baload, 1) := okd_at mJ1_charAt_3b067_0 6 rfl
theorem dJ1_charAt_3b067_9 : decode cJ1_charAt_3b067 9 = .ok (.sipush 255, 3) := okd_at mJ1_charAt_3b067_0 7 rfl
theorem dJ1_charAt_3b067_12 : decode cJ1_charAt_3b067 12 = .ok (.iand, 1) := okd_at mJ1_charAt_3b067_0 8 rfl
theorem dJ1_charAt_3b067_13 : decode cJ1_charAt_3b067 13 = .ok (.i2c, 1) := okd_at mJ1_charAt_3b067_0 9 rfl
theorem dJ1_charAt_3b067_14 : decode cJ1_charAt_3b067 14 = .ok (.ireturn, 1) := okd_at mJ1_charAt_3b067_0 10 rfl
def lmJ3_checkIndex_8e157_0 : List (Nat × Instr × Nat) := [(0, .iload_n 0, 1), (1, .ifCond .lt 8, 3), (4, .iload_n 0, 1), (5, .iload_n 1, 1), (6, .if_icmp .lt 10, 3), (9, .aload_n 2, 1), (10, .iload_n 0, 1), (11, .iload_n 1, 1), (12, .invokestatic 95, 3), (15, .athrow, 1), (16, .iload_n 0, 1), (17, .ireturn, 1)]
theorem mJ3_checkIndex_8e157_0 : okd cJ3_checkIndex_8e157 lmJ3_checkIndex_8e157_0 = true := by decide +kernel
theorem dJ3_checkIndex_8e157_0 : decode cJ3_checkIndex_8e157 0 = .ok (.iload_n 0, 1) := okd_at mJ3_checkIndex_8e157_0 0 rfl
theorem dJ3_checkIndex_8e157_1 : decode cJ3_checkIndex_8e157 1 = .ok (.ifCond .lt 8, 3) := okd_at mJ3_checkIndex_8e157_0 1 rfl
theorem dJ3_checkIndex_8e157_4 : decode cJ3_checkIndex_8e157 4 = .ok (.iload_n 0, 1) := okd_at mJ3_checkIndex_8e157_0 2 rfl
theorem dJ3_checkIndex_8e157_5 : decode cJ3_checkIndex_8e157 5 = .ok (.iload_n 1, 1) := okd_at mJ3_checkIndex_8e157_0 3 rfl
theorem dJ3_checkIndex_8e157_6 : decode cJ3_checkIndex_8e157 6 = .ok (.if_icmp .lt 10, 3) := okd_at mJ3_checkIndex_8e157_0 4 rfl
theorem dJ3_checkIndex_8e157_9 : decode cJ3_checkIndex_8e157 9 = .ok (.aload_n 2, 1) := okd_at mJ3_checkIndex_8e157_0 5 rfl
theorem dJ3_checkIndex_8e157_10 : decode cJ3_checkIndex_8e157 10 = .ok (.iload_n 0, 1) := okd_at mJ3_checkIndex_8e157_0 6 rfl
theorem dJ3_checkIndex_8e157_11 : decode cJ3_checkIndex_8e157 11 = .ok (.iload_n 1, 1) := okd_at mJ3_checkIndex_8e157_0 7 rfl
theorem dJ3_checkIndex_8e157_12 : decode cJ3_checkIndex_8e157 12 = .ok (.invokestatic 95, 3) := okd_at mJ3_checkIndex_8e157_0 8 rfl
theorem dJ3_checkIndex_8e157_15 : decode cJ3_checkIndex_8e157 15 = .ok (.athrow, 1) := okd_at mJ3_checkIndex_8e157_0 9 rfl
theorem dJ3_checkIndex_8e157_16 : decode cJ3_checkIndex_8e157 16 = .ok (.iload_n 0, 1) := okd_at mJ3_checkIndex_8e157_0 10 rfl
theorem dJ3_checkIndex_8e157_17 : decode cJ3_checkIndex_8e157 17 = .ok (.ireturn, 1) := okd_at mJ3_checkIndex_8e157_0 11 rfl
def lmJ6_bitCount_0f7a4_0 : List (Nat × Instr × Nat) := [(0, .iload_n 0, 1), (1, .iload_n 0, 1), (2, .iconst 1, 1), (3, .iushr, 1), (4, .ldc_w 265, 3), (7, .iand, 1), (8, .isub, 1), (9, .istore_n 0, 1), (10, .iload_n 0, 1), (11, .ldc_w 266, 3), (14, .iand, 1), (15, .iload_n 0, 1), (16, .iconst 2, 1), (17, .iushr, 1), (18, .ldc_w 266, 3), (21, .iand, 1), (22, .iadd, 1), (23, .istore_n 0, 1), (24, .iload_n 0, 1), (25, .iload_n 0, 1), (26, .iconst 4, 1), (27, .iushr, 1), (28, .iadd, 1), (29, .ldc_w 267, 3), (32, .iand, 1), (33, .istore_n 0, 1), (34, .iload_n 0, 1), (35, .iload_n 0, 1), (36, .bipush 8, 2), (38, .iushr, 1), (39, .iadd, 1), (40, .istore_n 0, 1), (41, .iload_n 0, 1), (42, .iload_n 0, 1), (43, .bipush 16, 2), (45, .iushr, 1), (46, .iadd, 1), (47, .istore_n 0, 1), (48, .iload_n 0, 1), (49, .bipush 63, 2), (51, .iand, 1), (52, .ireturn, 1)]
theorem mJ6_bitCount_0f7a4_0 : okd cJ6_bitCount_0f7a4 lmJ6_bitCount_0f7a4_0 = true := by decide +kernel
theorem dJ6_bitCount_0f7a4_0 : decode cJ6_bitCount_0f7a4 0 = .ok (.iload_n 0, 1) := okd_at mJ6_bitCount_0f7a4_0 0 rfl
theorem dJ6_bitCount_0f7a4_1 : decode cJ6_bitCount_0f7a4 1 = .ok (.iload_n 0, 1) := okd_at mJ6_bitCount_0f7a4_0 1 rfl
theorem dJ6_bitCount_0f7a4_2 : decode cJ6_bitCount_0f7a4 2 = .ok (.iconst 1, 1) := okd_at mJ6_bitCount_0f7a4_0 2 rfl
theorem dJ6_bitCount_0f7a4_3 : decode cJ6_bitCount_0f7a4 3 = .ok (.iushr, 1) := okd_at mJ6_bitCount_0f7a4_0 3 rfl
theorem dJ6_bitCount_0f7a4_4 : decode cJ6_bitCount_0f7a4 4 = .ok (.ldc_w 265, 3) := okd_at mJ6_bitCount_0f7a4_0 4 rfl
theorem dJ6_bitCount_0f7a4_7 : decode cJ6_bitCount_0f7a4 7 = .ok (.iand, 1) := okd_at mJ6_bitCount_0f7a4_0 5 rfl
theorem dJ6_bitCount_0f7a4_8 : decode cJ6_bitCount_0f7a4 8 = .ok (.isub, 1) := okd_at mJ6_bitCount_0f7a4_0 6 rfl
theorem dJ6_bitCount_0f7a4_9 : decode cJ6_bitCount_0f7a4 9 = .ok (.istore_n 0, 1) := okd_at mJ6_bitCount_0f7a4_0 7 rfl
theorem dJ6_bitCount_0f7a4_10 : decode cJ6_bitCount_0f7a4 10 = .ok (.iload_n 0, 1) := okd_at mJ6_bitCount_0f7a4_0 8 rfl
theorem dJ6_bitCount_0f7a4_11 : decode cJ6_bitCount_0f7a4 11 = .ok (.ldc_w 266, 3) := okd_at mJ6_bitCount_0f7a4_0 9 rfl
theorem dJ6_bitCount_0f7a4_14 : decode cJ6_bitCount_0f7a4 14 = .ok (.iand, 1) := okd_at mJ6_bitCount_0f7a4_0 10 rfl
theorem dJ6_bitCount_0f7a4_15 : decode cJ6_bitCount_0f7a4 15 = .ok (.iload_n 0, 1) := okd_at mJ6_bitCount_0f7a4_0 11 rfl
theorem dJ6_bitCount_0f7a4_16 : decode cJ6_bitCount_0f7a4 16 = .ok (.iconst 2, 1) := okd_at mJ6_bitCount_0f7a4_0 12 rfl
theorem dJ6_bitCount_0f7a4_17 : decode cJ6_bitCount_0f7a4 17 = .ok (.iushr, 1) := okd_at mJ6_bitCount_0f7a4_0 13 rfl
theorem dJ6_bitCount_0f7a4_18 : decode cJ6_bitCount_0f7a4 18 = .ok (.ldc_w 266, 3) := okd_at mJ6_bitCount_0f7a4_0 14 rfl
theorem dJ6_bitCount_0f7a4_21 : decode cJ6_bitCount_0f7a4 21 = .ok (.iand, 1) := okd_at mJ6_bitCount_0f7a4_0 15 rfl
theorem dJ6_bitCount_0f7a4_22 : decode cJ6_bitCount_0f7a4 22 = .ok (.iadd, 1) := okd_at mJ6_bitCount_0f7a4_0 16 rfl
theorem dJ6_bitCount_0f7a4_23 : decode cJ6_bitCount_0f7a4 23 = .ok (.istore_n 0, 1) := okd_at mJ6_bitCount_0f7a4_0 17 rfl
theorem dJ6_bitCount_0f7a4_24 : decode cJ6_bitCount_0f7a4 24 = .ok (.iload_n 0, 1) := okd_at mJ6_bitCount_0f7a4_0 18 rfl
theorem dJ6_bitCount_0f7a4_25 : decode cJ6_bitCount_0f7a4 25 = .ok (.iload_n 0, 1) := okd_at mJ6_bitCount_0f7a4_0 19 rfl
theorem dJ6_bitCount_0f7a4_26 : decode cJ6_bitCount_0f7a4 26 = .ok (.iconst 4, 1) := okd_at mJ6_bitCount_0f7a4_0 20 rfl
theorem dJ6_bitCount_0f7a4_27 : decode cJ6_bitCount_0f7a4 27 = .ok (.iushr, 1) := okd_at mJ6_bitCount_0f7a4_0 21 rfl
theorem dJ6_bitCount_0f7a4_28 : decode cJ6_bitCount_0f7a4 28 = .ok (.iadd, 1) := okd_at mJ6_bitCount_0f7a4_0 22 rfl
theorem dJ6_bitCount_0f7a4_29 : decode cJ6_bitCount_0f7a4 29 = .ok (.ldc_w 267, 3) := okd_at mJ6_bitCount_0f7a4_0 23 rfl
theorem dJ6_bitCount_0f7a4_32 : decode cJ6_bitCount_0f7a4 32 = .ok (.iand, 1) := okd_at mJ6_bitCount_0f7a4_0 24 rfl
theorem dJ6_bitCount_0f7a4_33 : decode cJ6_bitCount_0f7a4 33 = .ok (.istore_n 0, 1) := okd_at mJ6_bitCount_0f7a4_0 25 rfl
theorem dJ6_bitCount_0f7a4_34 : decode cJ6_bitCount_0f7a4 34 = .ok (.iload_n 0, 1) := okd_at mJ6_bitCount_0f7a4_0 26 rfl
theorem dJ6_bitCount_0f7a4_35 : decode cJ6_bitCount_0f7a4 35 = .ok (.iload_n 0, 1) := okd_at mJ6_bitCount_0f7a4_0 27 rfl
theorem dJ6_bitCount_0f7a4_36 : decode cJ6_bitCount_0f7a4 36 = .ok (.bipush 8, 2) := okd_at mJ6_bitCount_0f7a4_0 28 rfl
theorem dJ6_bitCount_0f7a4_38 : decode cJ6_bitCount_0f7a4 38 = .ok (.iushr, 1) := okd_at mJ6_bitCount_0f7a4_0 29 rfl
theorem dJ6_bitCount_0f7a4_39 : decode cJ6_bitCount_0f7a4 39 = .ok (.iadd, 1) := okd_at mJ6_bitCount_0f7a4_0 30 rfl
theorem dJ6_bitCount_0f7a4_40 : decode cJ6_bitCount_0f7a4 40 = .ok (.istore_n 0, 1) := okd_at mJ6_bitCount_0f7a4_0 31 rfl
theorem dJ6_bitCount_0f7a4_41 : decode cJ6_bitCount_0f7a4 41 = .ok (.iload_n 0, 1) := okd_at mJ6_bitCount_0f7a4_0 32 rfl
theorem dJ6_bitCount_0f7a4_42 : decode cJ6_bitCount_0f7a4 42 = .ok (.iload_n 0, 1) := okd_at mJ6_bitCount_0f7a4_0 33 rfl
theorem dJ6_bitCount_0f7a4_43 : decode cJ6_bitCount_0f7a4 43 = .ok (.bipush 16, 2) := okd_at mJ6_bitCount_0f7a4_0 34 rfl
theorem dJ6_bitCount_0f7a4_45 : decode cJ6_bitCount_0f7a4 45 = .ok (.iushr, 1) := okd_at mJ6_bitCount_0f7a4_0 35 rfl
theorem dJ6_bitCount_0f7a4_46 : decode cJ6_bitCount_0f7a4 46 = .ok (.iadd, 1) := okd_at mJ6_bitCount_0f7a4_0 36 rfl
theorem dJ6_bitCount_0f7a4_47 : decode cJ6_bitCount_0f7a4 47 = .ok (.istore_n 0, 1) := okd_at mJ6_bitCount_0f7a4_0 37 rfl
theorem dJ6_bitCount_0f7a4_48 : decode cJ6_bitCount_0f7a4 48 = .ok (.iload_n 0, 1) := okd_at mJ6_bitCount_0f7a4_0 38 rfl
theorem dJ6_bitCount_0f7a4_49 : decode cJ6_bitCount_0f7a4 49 = .ok (.bipush 63, 2) := okd_at mJ6_bitCount_0f7a4_0 39 rfl
theorem dJ6_bitCount_0f7a4_51 : decode cJ6_bitCount_0f7a4 51 = .ok (.iand, 1) := okd_at mJ6_bitCount_0f7a4_0 40 rfl
theorem dJ6_bitCount_0f7a4_52 : decode cJ6_bitCount_0f7a4 52 = .ok (.ireturn, 1) := okd_at mJ6_bitCount_0f7a4_0 41 rfl
def lmX0_startFrom_0 : List (Nat × Instr × Nat) := [(0, .aload_n 0, 1), (1, .iconst (-1), 1), (2, .aload_n 1, 1), (3, .invokevirtual 9, 3), (6, .return_, 1)]
theorem mX0_startFrom_0 : okd cX0_startFrom lmX0_startFrom_0 = true := by decide +kernel
theorem dX0_startFrom_0 : decode cX0_startFrom 0 = .ok (.aload_n 0, 1) := okd_at mX0_startFrom_0 0 rfl
theorem dX0_startFrom_1 : decode cX0_startFrom 1 = .ok (.iconst (-1), 1) := okd_at mX0_startFrom_0 1 rfl
theorem dX0_startFrom_2 : decode cX0_startFrom 2 = .ok (.aload_n 1, 1) := okd_at mX0_startFrom_0 2 rfl
theorem dX0_startFrom_3 : decode cX0_startFrom 3 = .ok (.invokevirtual 9, 3) := okd_at mX0_startFrom_0 3 rfl
theorem dX0_startFrom_6 : decode cX0_startFrom 6 = .ok (.return_, 1) := okd_at mX0_startFrom_0 4 rfl
def lmX0_take_0 : List (Nat × Instr × Nat) := [(0, .aload_n 0, 1), (1, .iload_n 1, 1), (2, .putfield 26, 3), (5, .aload_n 0, 1), (6, .aload_n 2, 1), (7, .getfield 15, 3), (10, .putfield 21, 3), (13, .aload_n 0, 1), (14, .aload_n 2, 1), (15, .getfield 22, 3), (18, .putfield 25, 3), (21, .return_, 1)]
theorem mX0_take_0 : okd cX0_take lmX0_take_0 = true := by decide +kernel
theorem dX0_take_0 : decode cX0_take 0 = .ok (.aload_n 0, 1) := okd_at mX0_take_0 0 rfl
theorem dX0_take_1 : decode cX0_take 1 = .ok (.iload_n 1, 1) := okd_at mX0_take_0 1 rfl
theorem dX0_take_2 : decode cX0_take 2 = .ok (.putfield 26, 3) := okd_at mX0_take_0 2 rfl
theorem dX0_take_5 : decode cX0_take 5 = .ok (.aload_n 0, 1) := okd_at mX0_take_0 3 rfl
theorem dX0_take_6 : decode cX0_take 6 = .ok (.aload_n 2, 1) := okd_at mX0_take_0 4 rfl
theorem dX0_take_7 : decode cX0_take 7 = .ok (.getfield 15, 3) := okd_at mX0_take_0 5 rfl
theorem dX0_take_10 : decode cX0_take 10 = .ok (.putfield 21, 3) := okd_at mX0_take_0 6 rfl
theorem dX0_take_13 : decode cX0_take 13 = .ok (.aload_n 0, 1) := okd_at mX0_take_0 7 rfl
theorem dX0_take_14 : decode cX0_take 14 = .ok (.aload_n 2, 1) := okd_at mX0_take_0 8 rfl
theorem dX0_take_15 : decode cX0_take 15 = .ok (.getfield 22, 3) := okd_at mX0_take_0 9 rfl
theorem dX0_take_18 : decode cX0_take 18 = .ok (.putfield 25, 3) := okd_at mX0_take_0 10 rfl
theorem dX0_take_21 : decode cX0_take 21 = .ok (.return_, 1) := okd_at mX0_take_0 11 rfl
def lmX0_tells_0 : List (Nat × Instr × Nat) := [(0, .iload_n 1, 1), (1, .ifCond .ne 10, 3), (4, .aload_n 0, 1), (5, .getfield 26, 3), (8, .goto 19, 3), (11, .iload_n 1, 1), (12, .iconst 1, 1), (13, .if_icmp .ne 10, 3), (16, .aload_n 0, 1), (17, .getfield 21, 3), (20, .goto 7, 3), (23, .aload_n 0, 1), (24, .getfield 25, 3), (27, .ireturn, 1)]
theorem mX0_tells_0 : okd cX0_tells lmX0_tells_0 = true := by decide +kernel
theorem dX0_tells_0 : decode cX0_tells 0 = .ok (.iload_n 1, 1) := okd_at mX0_tells_0 0 rfl
theorem dX0_tells_1 : decode cX0_tells 1 = .ok (.ifCond .ne 10, 3) := okd_at mX0_tells_0 1 rfl
theorem dX0_tells_4 : decode cX0_tells 4 = .ok (.aload_n 0, 1) := okd_at mX0_tells_0 2 rfl
theorem dX0_tells_5 : decode cX0_tells 5 = .ok (.getfield 26, 3) := okd_at mX0_tells_0 3 rfl
theorem dX0_tells_8 : decode cX0_tells 8 = .ok (.goto 19, 3) := okd_at mX0_tells_0 4 rfl
theorem dX0_tells_11 : decode cX0_tells 11 = .ok (.iload_n 1, 1) := okd_at mX0_tells_0 5 rfl
theorem dX0_tells_12 : decode cX0_tells 12 = .ok (.iconst 1, 1) := okd_at mX0_tells_0 6 rfl
theorem dX0_tells_13 : decode cX0_tells 13 = .ok (.if_icmp .ne 10, 3) := okd_at mX0_tells_0 7 rfl
theorem dX0_tells_16 : decode cX0_tells 16 = .ok (.aload_n 0, 1) := okd_at mX0_tells_0 8 rfl
theorem dX0_tells_17 : decode cX0_tells 17 = .ok (.getfield 21, 3) := okd_at mX0_tells_0 9 rfl
theorem dX0_tells_20 : decode cX0_tells 20 = .ok (.goto 7, 3) := okd_at mX0_tells_0 10 rfl
theorem dX0_tells_23 : decode cX0_tells 23 = .ok (.aload_n 0, 1) := okd_at mX0_tells_0 11 rfl
theorem dX0_tells_24 : decode cX0_tells 24 = .ok (.getfield 25, 3) := okd_at mX0_tells_0 12 rfl
theorem dX0_tells_27 : decode cX0_tells 27 = .ok (.ireturn, 1) := okd_at mX0_tells_0 13 rfl
def lmX0_weigh_0 : List (Nat × Instr × Nat) := [(0, .aload_n 2, 1), (1, .getfield 15, 3), (4, .aload_n 0, 1), (5, .getfield 21, 3), (8, .if_icmp .lt 25, 3), (11, .aload_n 2, 1), (12, .getfield 15, 3), (15, .aload_n 0, 1), (16, .getfield 21, 3), (19, .if_icmp .ne 20, 3), (22, .aload_n 2, 1), (23, .getfield 22, 3), (26, .aload_n 0, 1), (27, .getfield 25, 3), (30, .if_icmp .le 9, 3), (33, .aload_n 0, 1), (34, .iload_n 1, 1), (35, .aload_n 2, 1), (36, .invokevirtual 9, 3), (39, .return_, 1)]
theorem mX0_weigh_0 : okd cX0_weigh lmX0_weigh_0 = true := by decide +kernel
theorem dX0_weigh_0 : decode cX0_weigh 0 = .ok (.aload_n 2, 1) := okd_at mX0_weigh_0 0 rfl
theorem dX0_weigh_1 : decode cX0_weigh 1 = .ok (.getfield 15, 3) := okd_at mX0_weigh_0 1 rfl
theorem dX0_weigh_4 : decode cX0_weigh 4 = .ok (.aload_n 0, 1) := okd_at mX0_weigh_0 2 rfl
theorem dX0_weigh_5 : decode cX0_weigh 5 = .ok (.getfield 21, 3) := okd_at mX0_weigh_0 3 rfl
theorem dX0_weigh_8 : decode cX0_weigh 8 = .ok (.if_icmp .lt 25, 3) := okd_at mX0_weigh_0 4 rfl
theorem dX0_weigh_11 : decode cX0_weigh 11 = .ok (.aload_n 2, 1) := okd_at mX0_weigh_0 5 rfl
theorem dX0_weigh_12 : decode cX0_weigh 12 = .ok (.getfield 15, 3) := okd_at mX0_weigh_0 6 rfl
theorem dX0_weigh_15 : decode cX0_weigh 15 = .ok (.aload_n 0, 1) := okd_at mX0_weigh_0 7 rfl
theorem dX0_weigh_16 : decode cX0_weigh 16 = .ok (.getfield 21, 3) := okd_at mX0_weigh_0 8 rfl
theorem dX0_weigh_19 : decode cX0_weigh 19 = .ok (.if_icmp .ne 20, 3) := okd_at mX0_weigh_0 9 rfl
theorem dX0_weigh_22 : decode cX0_weigh 22 = .ok (.aload_n 2, 1) := okd_at mX0_weigh_0 10 rfl
theorem dX0_weigh_23 : decode cX0_weigh 23 = .ok (.getfield 22, 3) := okd_at mX0_weigh_0 11 rfl
theorem dX0_weigh_26 : decode cX0_weigh 26 = .ok (.aload_n 0, 1) := okd_at mX0_weigh_0 12 rfl
theorem dX0_weigh_27 : decode cX0_weigh 27 = .ok (.getfield 25, 3) := okd_at mX0_weigh_0 13 rfl
theorem dX0_weigh_30 : decode cX0_weigh 30 = .ok (.if_icmp .le 9, 3) := okd_at mX0_weigh_0 14 rfl
theorem dX0_weigh_33 : decode cX0_weigh 33 = .ok (.aload_n 0, 1) := okd_at mX0_weigh_0 15 rfl
theorem dX0_weigh_34 : decode cX0_weigh 34 = .ok (.iload_n 1, 1) := okd_at mX0_weigh_0 16 rfl
theorem dX0_weigh_35 : decode cX0_weigh 35 = .ok (.aload_n 2, 1) := okd_at mX0_weigh_0 17 rfl
theorem dX0_weigh_36 : decode cX0_weigh 36 = .ok (.invokevirtual 9, 3) := okd_at mX0_weigh_0 18 rfl
theorem dX0_weigh_39 : decode cX0_weigh 39 = .ok (.return_, 1) := okd_at mX0_weigh_0 19 rfl
def lmX10_keepNext_0 : List (Nat × Instr × Nat) := [(0, .aload_n 0, 1), (1, .dup, 1), (2, .getfield 18, 3), (5, .dup_x1, 1), (6, .iconst 1, 1), (7, .iadd, 1), (8, .putfield 18, 3), (11, .ireturn, 1)]
theorem mX10_keepNext_0 : okd cX10_keepNext lmX10_keepNext_0 = true := by decide +kernel
theorem dX10_keepNext_0 : decode cX10_keepNext 0 = .ok (.aload_n 0, 1) := okd_at mX10_keepNext_0 0 rfl
theorem dX10_keepNext_1 : decode cX10_keepNext 1 = .ok (.dup, 1) := okd_at mX10_keepNext_0 1 rfl
theorem dX10_keepNext_2 : decode cX10_keepNext 2 = .ok (.getfield 18, 3) := okd_at mX10_keepNext_0 2 rfl
theorem dX10_keepNext_5 : decode cX10_keepNext 5 = .ok (.dup_x1, 1) := okd_at mX10_keepNext_0 3 rfl
theorem dX10_keepNext_6 : decode cX10_keepNext 6 = .ok (.iconst 1, 1) := okd_at mX10_keepNext_0 4 rfl
theorem dX10_keepNext_7 : decode cX10_keepNext 7 = .ok (.iadd, 1) := okd_at mX10_keepNext_0 5 rfl
theorem dX10_keepNext_8 : decode cX10_keepNext 8 = .ok (.putfield 18, 3) := okd_at mX10_keepNext_0 6 rfl
theorem dX10_keepNext_11 : decode cX10_keepNext 11 = .ok (.ireturn, 1) := okd_at mX10_keepNext_0 7 rfl
def lmX10_next_0 : List (Nat × Instr × Nat) := [(0, .aload_n 0, 1), (1, .aload_n 0, 1), (2, .getfield 18, 3), (5, .invokevirtual 22, 3), (8, .areturn, 1)]
theorem mX10_next_0 : okd cX10_next lmX10_next_0 = true := by decide +kernel
theorem dX10_next_0 : decode cX10_next 0 = .ok (.aload_n 0, 1) := okd_at mX10_next_0 0 rfl
theorem dX10_next_1 : decode cX10_next 1 = .ok (.aload_n 0, 1) := okd_at mX10_next_0 1 rfl
theorem dX10_next_2 : decode cX10_next 2 = .ok (.getfield 18, 3) := okd_at mX10_next_0 2 rfl
theorem dX10_next_5 : decode cX10_next 5 = .ok (.invokevirtual 22, 3) := okd_at mX10_next_0 3 rfl
theorem dX10_next_8 : decode cX10_next 8 = .ok (.areturn, 1) := okd_at mX10_next_0 4 rfl
def lmX10_textAt_0 : List (Nat × Instr × Nat) := [(0, .iload_n 1, 1), (1, .ifCond .lt 21, 3), (4, .iload_n 1, 1), (5, .aload_n 0, 1), (6, .getfield 11, 3), (9, .arraylength, 1), (10, .if_icmp .ge 12, 3), (13, .aload_n 0, 1), (14, .getfield 11, 3), (17, .iload_n 1, 1), (18, .aaload, 1), (19, .goto 4, 3), (22, .aconst_null, 1), (23, .areturn, 1)]
theorem mX10_textAt_0 : okd cX10_textAt lmX10_textAt_0 = true := by decide +kernel
theorem dX10_textAt_0 : decode cX10_textAt 0 = .ok (.iload_n 1, 1) := okd_at mX10_textAt_0 0 rfl
theorem dX10_textAt_1 : decode cX10_textAt 1 = .ok (.ifCond .lt 21, 3) := okd_at mX10_textAt_0 1 rfl
theorem dX10_textAt_4 : decode cX10_textAt 4 = .ok (.iload_n 1, 1) := okd_at mX10_textAt_0 2 rfl
theorem dX10_textAt_5 : decode cX10_textAt 5 = .ok (.aload_n 0, 1) := okd_at mX10_textAt_0 3 rfl
theorem dX10_textAt_6 : decode cX10_textAt 6 = .ok (.getfield 11, 3) := okd_at mX10_textAt_0 4 rfl
theorem dX10_textAt_9 : decode cX10_textAt 9 = .ok (.arraylength, 1) := okd_at mX10_textAt_0 5 rfl
theorem dX10_textAt_10 : decode cX10_textAt 10 = .ok (.if_icmp .ge 12, 3) := okd_at mX10_textAt_0 6 rfl
theorem dX10_textAt_13 : decode cX10_textAt 13 = .ok (.aload_n 0, 1) := okd_at mX10_textAt_0 7 rfl
theorem dX10_textAt_14 : decode cX10_textAt 14 = .ok (.getfield 11, 3) := okd_at mX10_textAt_0 8 rfl
theorem dX10_textAt_17 : decode cX10_textAt 17 = .ok (.iload_n 1, 1) := okd_at mX10_textAt_0 9 rfl
theorem dX10_textAt_18 : decode cX10_textAt 18 = .ok (.aaload, 1) := okd_at mX10_textAt_0 10 rfl
theorem dX10_textAt_19 : decode cX10_textAt 19 = .ok (.goto 4, 3) := okd_at mX10_textAt_0 11 rfl
theorem dX10_textAt_22 : decode cX10_textAt 22 = .ok (.aconst_null, 1) := okd_at mX10_textAt_0 12 rfl
theorem dX10_textAt_23 : decode cX10_textAt 23 = .ok (.areturn, 1) := okd_at mX10_textAt_0 13 rfl
def lmX10_theLaw_0 : List (Nat × Instr × Nat) := [(0, .aload_n 0, 1), (1, .aload_n 0, 1), (2, .getfield 26, 3), (5, .invokevirtual 22, 3), (8, .areturn, 1)]
theorem mX10_theLaw_0 : okd cX10_theLaw lmX10_theLaw_0 = true := by decide +kernel
theorem dX10_theLaw_0 : decode cX10_theLaw 0 = .ok (.aload_n 0, 1) := okd_at mX10_theLaw_0 0 rfl
theorem dX10_theLaw_1 : decode cX10_theLaw 1 = .ok (.aload_n 0, 1) := okd_at mX10_theLaw_0 1 rfl
theorem dX10_theLaw_2 : decode cX10_theLaw 2 = .ok (.getfield 26, 3) := okd_at mX10_theLaw_0 2 rfl
theorem dX10_theLaw_5 : decode cX10_theLaw 5 = .ok (.invokevirtual 22, 3) := okd_at mX10_theLaw_0 3 rfl
theorem dX10_theLaw_8 : decode cX10_theLaw 8 = .ok (.areturn, 1) := okd_at mX10_theLaw_0 4 rfl
def lmX11_areChildren_0 : List (Nat × Instr × Nat) := [(0, .iload_n 1, 1), (1, .iconst 0, 1), (2, .iconst 1, 1), (3, .aload_n 0, 1), (4, .getfield 10, 3), (7, .getfield 111, 3), (10, .ishl, 1), (11, .iconst 1, 1), (12, .isub, 1), (13, .invokestatic 119, 3), (16, .ireturn, 1)]
theorem mX11_areChildren_0 : okd cX11_areChildren lmX11_areChildren_0 = true := by decide +kernel
theorem dX11_areChildren_0 : decode cX11_areChildren 0 = .ok (.iload_n 1, 1) := okd_at mX11_areChildren_0 0 rfl
theorem dX11_areChildren_1 : decode cX11_areChildren 1 = .ok (.iconst 0, 1) := okd_at mX11_areChildren_0 1 rfl
theorem dX11_areChildren_2 : decode cX11_areChildren 2 = .ok (.iconst 1, 1) := okd_at mX11_areChildren_0 2 rfl
theorem dX11_areChildren_3 : decode cX11_areChildren 3 = .ok (.aload_n 0, 1) := okd_at mX11_areChildren_0 3 rfl
theorem dX11_areChildren_4 : decode cX11_areChildren 4 = .ok (.getfield 10, 3) := okd_at mX11_areChildren_0 4 rfl
theorem dX11_areChildren_7 : decode cX11_areChildren 7 = .ok (.getfield 111, 3) := okd_at mX11_areChildren_0 5 rfl
theorem dX11_areChildren_10 : decode cX11_areChildren 10 = .ok (.ishl, 1) := okd_at mX11_areChildren_0 6 rfl
theorem dX11_areChildren_11 : decode cX11_areChildren 11 = .ok (.iconst 1, 1) := okd_at mX11_areChildren_0 7 rfl
theorem dX11_areChildren_12 : decode cX11_areChildren 12 = .ok (.isub, 1) := okd_at mX11_areChildren_0 8 rfl
theorem dX11_areChildren_13 : decode cX11_areChildren 13 = .ok (.invokestatic 119, 3) := okd_at mX11_areChildren_0 9 rfl
theorem dX11_areChildren_16 : decode cX11_areChildren 16 = .ok (.ireturn, 1) := okd_at mX11_areChildren_0 10 rfl
def lmX11_asks_0 : List (Nat × Instr × Nat) := [(0, .iload_n 1, 1), (1, .iconst 0, 1), (2, .iconst 2, 1), (3, .invokestatic 119, 3), (6, .ifCond .eq 39, 3), (9, .aload_n 0, 1), (10, .iload_n 2, 1), (11, .invokevirtual 126, 3), (14, .ifCond .eq 31, 3), (17, .iload_n 3, 1), (18, .iconst (-1), 1), (19, .if_icmp .eq 11, 3), (22, .aload_n 0, 1), (23, .iload_n 3, 1), (24, .invokevirtual 145, 3), (27, .ifCond .eq 18, 3), (30, .iload 4, 2), (32, .iconst 0, 1), (33, .bipush 6, 2), (35, .invokestatic 119, 3), (38, .ifCond .eq 7, 3), (41, .iconst 1, 1), (42, .goto 4, 3), (45, .iconst 0, 1), (46, .istore 5, 2), (48, .iload 5, 2), (50, .ifCond .eq 18, 3), (53, .aload_n 0, 1), (54, .getfield 51, 3), (57, .iload_n 1, 1), (58, .iload_n 2, 1), (59, .iload_n 3, 1), (60, .iload 4, 2), (62, .invokevirtual 148, 3), (65, .goto 6, 3), (68, .sipush (-1000), 3), (71, .ireturn, 1)]
theorem mX11_asks_0 : okd cX11_asks lmX11_asks_0 = true := by decide +kernel
theorem dX11_asks_0 : decode cX11_asks 0 = .ok (.iload_n 1, 1) := okd_at mX11_asks_0 0 rfl
theorem dX11_asks_1 : decode cX11_asks 1 = .ok (.iconst 0, 1) := okd_at mX11_asks_0 1 rfl
theorem dX11_asks_2 : decode cX11_asks 2 = .ok (.iconst 2, 1) := okd_at mX11_asks_0 2 rfl
theorem dX11_asks_3 : decode cX11_asks 3 = .ok (.invokestatic 119, 3) := okd_at mX11_asks_0 3 rfl
theorem dX11_asks_6 : decode cX11_asks 6 = .ok (.ifCond .eq 39, 3) := okd_at mX11_asks_0 4 rfl
theorem dX11_asks_9 : decode cX11_asks 9 = .ok (.aload_n 0, 1) := okd_at mX11_asks_0 5 rfl
theorem dX11_asks_10 : decode cX11_asks 10 = .ok (.iload_n 2, 1) := okd_at mX11_asks_0 6 rfl
theorem dX11_asks_11 : decode cX11_asks 11 = .ok (.invokevirtual 126, 3) := okd_at mX11_asks_0 7 rfl
theorem dX11_asks_14 : decode cX11_asks 14 = .ok (.ifCond .eq 31, 3) := okd_at mX11_asks_0 8 rfl
theorem dX11_asks_17 : decode cX11_asks 17 = .ok (.iload_n 3, 1) := okd_at mX11_asks_0 9 rfl
theorem dX11_asks_18 : decode cX11_asks 18 = .ok (.iconst (-1), 1) := okd_at mX11_asks_0 10 rfl
theorem dX11_asks_19 : decode cX11_asks 19 = .ok (.if_icmp .eq 11, 3) := okd_at mX11_asks_0 11 rfl
theorem dX11_asks_22 : decode cX11_asks 22 = .ok (.aload_n 0, 1) := okd_at mX11_asks_0 12 rfl
theorem dX11_asks_23 : decode cX11_asks 23 = .ok (.iload_n 3, 1) := okd_at mX11_asks_0 13 rfl
theorem dX11_asks_24 : decode cX11_asks 24 = .ok (.invokevirtual 145, 3) := okd_at mX11_asks_0 14 rfl
theorem dX11_asks_27 : decode cX11_asks 27 = .ok (.ifCond .eq 18, 3) := okd_at mX11_asks_0 15 rfl
theorem dX11_asks_30 : decode cX11_asks 30 = .ok (.iload 4, 2) := okd_at mX11_asks_0 16 rfl
theorem dX11_asks_32 : decode cX11_asks 32 = .ok (.iconst 0, 1) := okd_at mX11_asks_0 17 rfl
theorem dX11_asks_33 : decode cX11_asks 33 = .ok (.bipush 6, 2) := okd_at mX11_asks_0 18 rfl
theorem dX11_asks_35 : decode cX11_asks 35 = .ok (.invokestatic 119, 3) := okd_at mX11_asks_0 19 rfl
theorem dX11_asks_38 : decode cX11_asks 38 = .ok (.ifCond .eq 7, 3) := okd_at mX11_asks_0 20 rfl
theorem dX11_asks_41 : decode cX11_asks 41 = .ok (.iconst 1, 1) := okd_at mX11_asks_0 21 rfl
theorem dX11_asks_42 : decode cX11_asks 42 = .ok (.goto 4, 3) := okd_at mX11_asks_0 22 rfl
theorem dX11_asks_45 : decode cX11_asks 45 = .ok (.iconst 0, 1) := okd_at mX11_asks_0 23 rfl
theorem dX11_asks_46 : decode cX11_asks 46 = .ok (.istore 5, 2) := okd_at mX11_asks_0 24 rfl
theorem dX11_asks_48 : decode cX11_asks 48 = .ok (.iload 5, 2) := okd_at mX11_asks_0 25 rfl
theorem dX11_asks_50 : decode cX11_asks 50 = .ok (.ifCond .eq 18, 3) := okd_at mX11_asks_0 26 rfl
theorem dX11_asks_53 : decode cX11_asks 53 = .ok (.aload_n 0, 1) := okd_at mX11_asks_0 27 rfl
theorem dX11_asks_54 : decode cX11_asks 54 = .ok (.getfield 51, 3) := okd_at mX11_asks_0 28 rfl
theorem dX11_asks_57 : decode cX11_asks 57 = .ok (.iload_n 1, 1) := okd_at mX11_asks_0 29 rfl
theorem dX11_asks_58 : decode cX11_asks 58 = .ok (.iload_n 2, 1) := okd_at mX11_asks_0 30 rfl
theorem dX11_asks_59 : decode cX11_asks 59 = .ok (.iload_n 3, 1) := okd_at mX11_asks_0 31 rfl
theorem dX11_asks_60 : decode cX11_asks 60 = .ok (.iload 4, 2) := okd_at mX11_asks_0 32 rfl
theorem dX11_asks_62 : decode cX11_asks 62 = .ok (.invokevirtual 148, 3) := okd_at mX11_asks_0 33 rfl
theorem dX11_asks_65 : decode cX11_asks 65 = .ok (.goto 6, 3) := okd_at mX11_asks_0 34 rfl
theorem dX11_asks_68 : decode cX11_asks 68 = .ok (.sipush (-1000), 3) := okd_at mX11_asks_0 35 rfl
theorem dX11_asks_71 : decode cX11_asks 71 = .ok (.ireturn, 1) := okd_at mX11_asks_0 36 rfl
def lmX11_at_0 : List (Nat × Instr × Nat) := [(0, .iload_n 1, 1), (1, .ifCond .lt 15, 3), (4, .iload_n 1, 1), (5, .aload_n 0, 1), (6, .arraylength, 1), (7, .if_icmp .ge 9, 3), (10, .aload_n 0, 1), (11, .iload_n 1, 1), (12, .iaload, 1), (13, .goto 4, 3), (16, .iconst 0, 1), (17, .ireturn, 1)]
theorem mX11_at_0 : okd cX11_at lmX11_at_0 = true := by decide +kernel
theorem dX11_at_0 : decode cX11_at 0 = .ok (.iload_n 1, 1) := okd_at mX11_at_0 0 rfl
theorem dX11_at_1 : decode cX11_at 1 = .ok (.ifCond .lt 15, 3) := okd_at mX11_at_0 1 rfl
theorem dX11_at_4 : decode cX11_at 4 = .ok (.iload_n 1, 1) := okd_at mX11_at_0 2 rfl
theorem dX11_at_5 : decode cX11_at 5 = .ok (.aload_n 0, 1) := okd_at mX11_at_0 3 rfl
theorem dX11_at_6 : decode cX11_at 6 = .ok (.arraylength, 1) := okd_at mX11_at_0 4 rfl
theorem dX11_at_7 : decode cX11_at 7 = .ok (.if_icmp .ge 9, 3) := okd_at mX11_at_0 5 rfl
theorem dX11_at_10 : decode cX11_at 10 = .ok (.aload_n 0, 1) := okd_at mX11_at_0 6 rfl
theorem dX11_at_11 : decode cX11_at 11 = .ok (.iload_n 1, 1) := okd_at mX11_at_0 7 rfl
theorem dX11_at_12 : decode cX11_at 12 = .ok (.iaload, 1) := okd_at mX11_at_0 8 rfl
theorem dX11_at_13 : decode cX11_at 13 = .ok (.goto 4, 3) := okd_at mX11_at_0 9 rfl
theorem dX11_at_16 : decode cX11_at 16 = .ok (.iconst 0, 1) := okd_at mX11_at_0 10 rfl
theorem dX11_at_17 : decode cX11_at 17 = .ok (.ireturn, 1) := okd_at mX11_at_0 11 rfl
def lmX11_back_0 : List (Nat × Instr × Nat) := [(0, .aload_n 0, 1), (1, .getfield 289, 3), (4, .ifCond .ne 6, 3), (7, .bipush (-3), 2), (9, .ireturn, 1), (10, .aload_n 0, 1), (11, .getfield 10, 3), (14, .aload_n 0, 1), (15, .getfield 81, 3), (18, .invokevirtual 280, 3), (21, .aload_n 0, 1), (22, .getfield 19, 3), (25, .aload_n 0, 1), (26, .getfield 84, 3), (29, .invokevirtual 283, 3), (32, .aload_n 0, 1), (33, .getfield 26, 3), (36, .aload_n 0, 1), (37, .getfield 286, 3), (40, .putfield 113, 3), (43, .aload_n 0, 1), (44, .getfield 19, 3), (47, .getfield 107, 3), (50, .ireturn, 1)]
theorem mX11_back_0 : okd cX11_back lmX11_back_0 = true := by decide +kernel
theorem dX11_back_0 : decode cX11_back 0 = .ok (.aload_n 0, 1) := okd_at mX11_back_0 0 rfl
theorem dX11_back_1 : decode cX11_back 1 = .ok (.getfield 289, 3) := okd_at mX11_back_0 1 rfl
theorem dX11_back_4 : decode cX11_back 4 = .ok (.ifCond .ne 6, 3) := okd_at mX11_back_0 2 rfl
theorem dX11_back_7 : decode cX11_back 7 = .ok (.bipush (-3), 2) := okd_at mX11_back_0 3 rfl
theorem dX11_back_9 : decode cX11_back 9 = .ok (.ireturn, 1) := okd_at mX11_back_0 4 rfl
theorem dX11_back_10 : decode cX11_back 10 = .ok (.aload_n 0, 1) := okd_at mX11_back_0 5 rfl
theorem dX11_back_11 : decode cX11_back 11 = .ok (.getfield 10, 3) := okd_at mX11_back_0 6 rfl
theorem dX11_back_14 : decode cX11_back 14 = .ok (.aload_n 0, 1) := okd_at mX11_back_0 7 rfl
theorem dX11_back_15 : decode cX11_back 15 = .ok (.getfield 81, 3) := okd_at mX11_back_0 8 rfl
theorem dX11_back_18 : decode cX11_back 18 = .ok (.invokevirtual 280, 3) := okd_at mX11_back_0 9 rfl
theorem dX11_back_21 : decode cX11_back 21 = .ok (.aload_n 0, 1) := okd_at mX11_back_0 10 rfl
theorem dX11_back_22 : decode cX11_back 22 = .ok (.getfield 19, 3) := okd_at mX11_back_0 11 rfl
theorem dX11_back_25 : decode cX11_back 25 = .ok (.aload_n 0, 1) := okd_at mX11_back_0 12 rfl
theorem dX11_back_26 : decode cX11_back 26 = .ok (.getfield 84, 3) := okd_at mX11_back_0 13 rfl
theorem dX11_back_29 : decode cX11_back 29 = .ok (.invokevirtual 283, 3) := okd_at mX11_back_0 14 rfl
theorem dX11_back_32 : decode cX11_back 32 = .ok (.aload_n 0, 1) := okd_at mX11_back_0 15 rfl
theorem dX11_back_33 : decode cX11_back 33 = .ok (.getfield 26, 3) := okd_at mX11_back_0 16 rfl
theorem dX11_back_36 : decode cX11_back 36 = .ok (.aload_n 0, 1) := okd_at mX11_back_0 17 rfl
theorem dX11_back_37 : decode cX11_back 37 = .ok (.getfield 286, 3) := okd_at mX11_back_0 18 rfl
theorem dX11_back_40 : decode cX11_back 40 = .ok (.putfield 113, 3) := okd_at mX11_back_0 19 rfl
theorem dX11_back_43 : decode cX11_back 43 = .ok (.aload_n 0, 1) := okd_at mX11_back_0 20 rfl
theorem dX11_back_44 : decode cX11_back 44 = .ok (.getfield 19, 3) := okd_at mX11_back_0 21 rfl
theorem dX11_back_47 : decode cX11_back 47 = .ok (.getfield 107, 3) := okd_at mX11_back_0 22 rfl
theorem dX11_back_50 : decode cX11_back 50 = .ok (.ireturn, 1) := okd_at mX11_back_0 23 rfl
def lmX11_bringLuckBack_0 : List (Nat × Instr × Nat) := [(0, .aload_n 0, 1), (1, .getfield 77, 3), (4, .aload_n 0, 1), (5, .getfield 10, 3), (8, .getfield 343, 3), (11, .invokestatic 346, 3), (14, .return_, 1)]
theorem mX11_bringLuckBack_0 : okd cX11_bringLuckBack lmX11_bringLuckBack_0 = true := by decide +kernel
theorem dX11_bringLuckBack_0 : decode cX11_bringLuckBack 0 = .ok (.aload_n 0, 1) := okd_at mX11_bringLuckBack_0 0 rfl
theorem dX11_bringLuckBack_1 : decode cX11_bringLuckBack 1 = .ok (.getfield 77, 3) := okd_at mX11_bringLuckBack_0 1 rfl
theorem dX11_bringLuckBack_4 : decode cX11_bringLuckBack 4 = .ok (.aload_n 0, 1) := okd_at mX11_bringLuckBack_0 2 rfl
theorem dX11_bringLuckBack_5 : decode cX11_bringLuckBack 5 = .ok (.getfield 10, 3) := okd_at mX11_bringLuckBack_0 3 rfl
theorem dX11_bringLuckBack_8 : decode cX11_bringLuckBack 8 = .ok (.getfield 343, 3) := okd_at mX11_bringLuckBack_0 4 rfl
theorem dX11_bringLuckBack_11 : decode cX11_bringLuckBack 11 = .ok (.invokestatic 346, 3) := okd_at mX11_bringLuckBack_0 5 rfl
theorem dX11_bringLuckBack_14 : decode cX11_bringLuckBack 14 = .ok (.return_, 1) := okd_at mX11_bringLuckBack_0 6 rfl
def lmX11_card_0 : List (Nat × Instr × Nat) := [(0, .aload_n 0, 1), (1, .iload_n 1, 1), (2, .invokevirtual 145, 3), (5, .ifCond .ne 6, 3), (8, .bipush (-6), 2), (10, .ireturn, 1), (11, .iload_n 2, 1), (12, .iconst 0, 1), (13, .iconst 3, 1), (14, .invokestatic 119, 3), (17, .ifCond .eq 18, 3), (20, .aload_n 0, 1), (21, .getfield 19, 3), (24, .iload_n 2, 1), (25, .invokevirtual 164, 3), (28, .iload_n 1, 1), (29, .invokestatic 138, 3), (32, .goto 5, 3), (35, .bipush (-7), 2), (37, .ireturn, 1)]
theorem mX11_card_0 : okd cX11_card lmX11_card_0 = true := by decide +kernel
theorem dX11_card_0 : decode cX11_card 0 = .ok (.aload_n 0, 1) := okd_at mX11_card_0 0 rfl
theorem dX11_card_1 : decode cX11_card 1 = .ok (.iload_n 1, 1) := okd_at mX11_card_0 1 rfl
theorem dX11_card_2 : decode cX11_card 2 = .ok (.invokevirtual 145, 3) := okd_at mX11_card_0 2 rfl
theorem dX11_card_5 : decode cX11_card 5 = .ok (.ifCond .ne 6, 3) := okd_at mX11_card_0 3 rfl
theorem dX11_card_8 : decode cX11_card 8 = .ok (.bipush (-6), 2) := okd_at mX11_card_0 4 rfl
theorem dX11_card_10 : decode cX11_card 10 = .ok (.ireturn, 1) := okd_at mX11_card_0 5 rfl
theorem dX11_card_11 : decode cX11_card 11 = .ok (.iload_n 2, 1) := okd_at mX11_card_0 6 rfl
theorem dX11_card_12 : decode cX11_card 12 = .ok (.iconst 0, 1) := okd_at mX11_card_0 7 rfl
theorem dX11_card_13 : decode cX11_card 13 = .ok (.iconst 3, 1) := okd_at mX11_card_0 8 rfl
theorem dX11_card_14 : decode cX11_card 14 = .ok (.invokestatic 119, 3) := okd_at mX11_card_0 9 rfl
theorem dX11_card_17 : decode cX11_card 17 = .ok (.ifCond .eq 18, 3) := okd_at mX11_card_0 10 rfl
theorem dX11_card_20 : decode cX11_card 20 = .ok (.aload_n 0, 1) := okd_at mX11_card_0 11 rfl
theorem dX11_card_21 : decode cX11_card 21 = .ok (.getfield 19, 3) := okd_at mX11_card_0 12 rfl
theorem dX11_card_24 : decode cX11_card 24 = .ok (.iload_n 2, 1) := okd_at mX11_card_0 13 rfl
theorem dX11_card_25 : decode cX11_card 25 = .ok (.invokevirtual 164, 3) := okd_at mX11_card_0 14 rfl
theorem dX11_card_28 : decode cX11_card 28 = .ok (.iload_n 1, 1) := okd_at mX11_card_0 15 rfl
theorem dX11_card_29 : decode cX11_card 29 = .ok (.invokestatic 138, 3) := okd_at mX11_card_0 16 rfl
theorem dX11_card_32 : decode cX11_card 32 = .ok (.goto 5, 3) := okd_at mX11_card_0 17 rfl
theorem dX11_card_35 : decode cX11_card 35 = .ok (.bipush (-7), 2) := okd_at mX11_card_0 18 rfl
theorem dX11_card_37 : decode cX11_card 37 = .ok (.ireturn, 1) := okd_at mX11_card_0 19 rfl
def lmX11_cell_0 : List (Nat × Instr × Nat) := [(0, .aload_n 0, 1), (1, .iload_n 1, 1), (2, .invokevirtual 223, 3), (5, .astore 4, 2), (7, .aload 4, 2), (9, .ifnonnull 6, 3), (12, .bipush (-2), 2), (14, .ireturn, 1), (15, .aload 4, 2), (17, .invokevirtual 296, 3), (20, .ifCond .eq 6, 3), (23, .bipush (-11), 2), (25, .ireturn, 1), (26, .iload_n 2, 1), (27, .iconst 0, 1), (28, .aload 4, 2), (30, .getfield 300, 3), (33, .iconst 1, 1), (34, .isub, 1), (35, .invokestatic 119, 3), (38, .ifCond .ne 6, 3), (41, .bipush (-12), 2), (43, .ireturn, 1), (44, .aload 4, 2), (46, .iload_n 2, 1), (47, .iload_n 3, 1), (48, .invokevirtual 262, 3), (51, .iconst 1, 1), (52, .ireturn, 1)]
theorem mX11_cell_0 : okd cX11_cell lmX11_cell_0 = true := by decide +kernel
theorem dX11_cell_0 : decode cX11_cell 0 = .ok (.aload_n 0, 1) := okd_at mX11_cell_0 0 rfl
theorem dX11_cell_1 : decode cX11_cell 1 = .ok (.iload_n 1, 1) := okd_at mX11_cell_0 1 rfl
theorem dX11_cell_2 : decode cX11_cell 2 = .ok (.invokevirtual 223, 3) := okd_at mX11_cell_0 2 rfl
theorem dX11_cell_5 : decode cX11_cell 5 = .ok (.astore 4, 2) := okd_at mX11_cell_0 3 rfl
theorem dX11_cell_7 : decode cX11_cell 7 = .ok (.aload 4, 2) := okd_at mX11_cell_0 4 rfl
theorem dX11_cell_9 : decode cX11_cell 9 = .ok (.ifnonnull 6, 3) := okd_at mX11_cell_0 5 rfl
theorem dX11_cell_12 : decode cX11_cell 12 = .ok (.bipush (-2), 2) := okd_at mX11_cell_0 6 rfl
theorem dX11_cell_14 : decode cX11_cell 14 = .ok (.ireturn, 1) := okd_at mX11_cell_0 7 rfl
theorem dX11_cell_15 : decode cX11_cell 15 = .ok (.aload 4, 2) := okd_at mX11_cell_0 8 rfl
theorem dX11_cell_17 : decode cX11_cell 17 = .ok (.invokevirtual 296, 3) := okd_at mX11_cell_0 9 rfl
theorem dX11_cell_20 : decode cX11_cell 20 = .ok (.ifCond .eq 6, 3) := okd_at mX11_cell_0 10 rfl
theorem dX11_cell_23 : decode cX11_cell 23 = .ok (.bipush (-11), 2) := okd_at mX11_cell_0 11 rfl
theorem dX11_cell_25 : decode cX11_cell 25 = .ok (.ireturn, 1) := okd_at mX11_cell_0 12 rfl
theorem dX11_cell_26 : decode cX11_cell 26 = .ok (.iload_n 2, 1) := okd_at mX11_cell_0 13 rfl
theorem dX11_cell_27 : decode cX11_cell 27 = .ok (.iconst 0, 1) := okd_at mX11_cell_0 14 rfl
theorem dX11_cell_28 : decode cX11_cell 28 = .ok (.aload 4, 2) := okd_at mX11_cell_0 15 rfl
theorem dX11_cell_30 : decode cX11_cell 30 = .ok (.getfield 300, 3) := okd_at mX11_cell_0 16 rfl
theorem dX11_cell_33 : decode cX11_cell 33 = .ok (.iconst 1, 1) := okd_at mX11_cell_0 17 rfl
theorem dX11_cell_34 : decode cX11_cell 34 = .ok (.isub, 1) := okd_at mX11_cell_0 18 rfl
theorem dX11_cell_35 : decode cX11_cell 35 = .ok (.invokestatic 119, 3) := okd_at mX11_cell_0 19 rfl
theorem dX11_cell_38 : decode cX11_cell 38 = .ok (.ifCond .ne 6, 3) := okd_at mX11_cell_0 20 rfl
theorem dX11_cell_41 : decode cX11_cell 41 = .ok (.bipush (-12), 2) := okd_at mX11_cell_0 21 rfl
theorem dX11_cell_43 : decode cX11_cell 43 = .ok (.ireturn, 1) := okd_at mX11_cell_0 22 rfl
theorem dX11_cell_44 : decode cX11_cell 44 = .ok (.aload 4, 2) := okd_at mX11_cell_0 23 rfl
theorem dX11_cell_46 : decode cX11_cell 46 = .ok (.iload_n 2, 1) := okd_at mX11_cell_0 24 rfl
theorem dX11_cell_47 : decode cX11_cell 47 = .ok (.iload_n 3, 1) := okd_at mX11_cell_0 25 rfl
theorem dX11_cell_48 : decode cX11_cell 48 = .ok (.invokevirtual 262, 3) := okd_at mX11_cell_0 26 rfl
theorem dX11_cell_51 : decode cX11_cell 51 = .ok (.iconst 1, 1) := okd_at mX11_cell_0 27 rfl
theorem dX11_cell_52 : decode cX11_cell 52 = .ok (.ireturn, 1) := okd_at mX11_cell_0 28 rfl
def lmX11_changingRunners_0 : List (Nat × Instr × Nat) := [(0, .aload_n 0, 1), (1, .getfield 51, 3), (4, .invokevirtual 178, 3), (7, .aload_n 0, 1), (8, .getfield 58, 3), (11, .aload_n 0, 1), (12, .getfield 51, 3), (15, .invokevirtual 198, 3), (18, .iconst 0, 1), (19, .istore_n 3, 1), (20, .iload_n 3, 1), (21, .aload_n 0, 1), (22, .getfield 19, 3), (25, .getfield 107, 3), (28, .if_icmp .ge 119, 3), (31, .aload_n 0, 1), (32, .getfield 19, 3), (35, .getfield 158, 3), (38, .iload_n 3, 1), (39, .invokestatic 138, 3), (42, .istore 4, 2), (44, .iconst 0, 1), (45, .istore 5, 2), (47, .iload 5, 2), (49, .aload_n 0, 1), (50, .getfield 10, 3), (53, .getfield 111, 3), (56, .if_icmp .ge 72, 3), (59, .iload 4, 2), (61, .iload 5, 2), (63, .invokestatic 340, 3), (66, .iload_n 2, 1), (67, .iconst 1, 1), (68, .if_icmp .ne 7, 3), (71, .iconst 1, 1), (72, .goto 4, 3), (75, .iconst 0, 1), (76, .if_icmp .ne 46, 3), (79, .aload_n 0, 1), (80, .getfield 19, 3), (83, .getfield 158, 3), (86, .iload_n 3, 1), (87, .iload 4, 2), (89, .iconst 1, 1), (90, .iload 5, 2), (92, .ishl, 1), (93, .ixor, 1), (94, .invokestatic 216, 3), (97, .aload_n 0, 1), (98, .getfield 51, 3), (101, .invokevirtual 178, 3), (104, .aload_n 0, 1), (105, .getfield 58, 3), (108, .bipush 10, 2), (110, .iload_n 3, 1), (111, .imul, 1), (112, .iload 5, 2), (114, .iadd, 1), (115, .aload_n 0, 1), (116, .getfield 51, 3)]
theorem mX11_changingRunners_0 : okd cX11_changingRunners lmX11_changingRunners_0 = true := by decide +kernel
theorem dX11_changingRunners_0 : decode cX11_changingRunners 0 = .ok (.aload_n 0, 1) := okd_at mX11_changingRunners_0 0 rfl
theorem dX11_changingRunners_1 : decode cX11_changingRunners 1 = .ok (.getfield 51, 3) := okd_at mX11_changingRunners_0 1 rfl
theorem dX11_changingRunners_4 : decode cX11_changingRunners 4 = .ok (.invokevirtual 178, 3) := okd_at mX11_changingRunners_0 2 rfl
theorem dX11_changingRunners_7 : decode cX11_changingRunners 7 = .ok (.aload_n 0, 1) := okd_at mX11_changingRunners_0 3 rfl
theorem dX11_changingRunners_8 : decode cX11_changingRunners 8 = .ok (.getfield 58, 3) := okd_at mX11_changingRunners_0 4 rfl
theorem dX11_changingRunners_11 : decode cX11_changingRunners 11 = .ok (.aload_n 0, 1) := okd_at mX11_changingRunners_0 5 rfl
theorem dX11_changingRunners_12 : decode cX11_changingRunners 12 = .ok (.getfield 51, 3) := okd_at mX11_changingRunners_0 6 rfl
theorem dX11_changingRunners_15 : decode cX11_changingRunners 15 = .ok (.invokevirtual 198, 3) := okd_at mX11_changingRunners_0 7 rfl
theorem dX11_changingRunners_18 : decode cX11_changingRunners 18 = .ok (.iconst 0, 1) := okd_at mX11_changingRunners_0 8 rfl
theorem dX11_changingRunners_19 : decode cX11_changingRunners 19 = .ok (.istore_n 3, 1) := okd_at mX11_changingRunners_0 9 rfl
theorem dX11_changingRunners_20 : decode cX11_changingRunners 20 = .ok (.iload_n 3, 1) := okd_at mX11_changingRunners_0 10 rfl
theorem dX11_changingRunners_21 : decode cX11_changingRunners 21 = .ok (.aload_n 0, 1) := okd_at mX11_changingRunners_0 11 rfl
theorem dX11_changingRunners_22 : decode cX11_changingRunners 22 = .ok (.getfield 19, 3) := okd_at mX11_changingRunners_0 12 rfl
theorem dX11_changingRunners_25 : decode cX11_changingRunners 25 = .ok (.getfield 107, 3) := okd_at mX11_changingRunners_0 13 rfl
theorem dX11_changingRunners_28 : decode cX11_changingRunners 28 = .ok (.if_icmp .ge 119, 3) := okd_at mX11_changingRunners_0 14 rfl
theorem dX11_changingRunners_31 : decode cX11_changingRunners 31 = .ok (.aload_n 0, 1) := okd_at mX11_changingRunners_0 15 rfl
theorem dX11_changingRunners_32 : decode cX11_changingRunners 32 = .ok (.getfield 19, 3) := okd_at mX11_changingRunners_0 16 rfl
theorem dX11_changingRunners_35 : decode cX11_changingRunners 35 = .ok (.getfield 158, 3) := okd_at mX11_changingRunners_0 17 rfl
theorem dX11_changingRunners_38 : decode cX11_changingRunners 38 = .ok (.iload_n 3, 1) := okd_at mX11_changingRunners_0 18 rfl
theorem dX11_changingRunners_39 : decode cX11_changingRunners 39 = .ok (.invokestatic 138, 3) := okd_at mX11_changingRunners_0 19 rfl
theorem dX11_changingRunners_42 : decode cX11_changingRunners 42 = .ok (.istore 4, 2) := okd_at mX11_changingRunners_0 20 rfl
theorem dX11_changingRunners_44 : decode cX11_changingRunners 44 = .ok (.iconst 0, 1) := okd_at mX11_changingRunners_0 21 rfl
theorem dX11_changingRunners_45 : decode cX11_changingRunners 45 = .ok (.istore 5, 2) := okd_at mX11_changingRunners_0 22 rfl
theorem dX11_changingRunners_47 : decode cX11_changingRunners 47 = .ok (.iload 5, 2) := okd_at mX11_changingRunners_0 23 rfl
theorem dX11_changingRunners_49 : decode cX11_changingRunners 49 = .ok (.aload_n 0, 1) := okd_at mX11_changingRunners_0 24 rfl
theorem dX11_changingRunners_50 : decode cX11_changingRunners 50 = .ok (.getfield 10, 3) := okd_at mX11_changingRunners_0 25 rfl
theorem dX11_changingRunners_53 : decode cX11_changingRunners 53 = .ok (.getfield 111, 3) := okd_at mX11_changingRunners_0 26 rfl
theorem dX11_changingRunners_56 : decode cX11_changingRunners 56 = .ok (.if_icmp .ge 72, 3) := okd_at mX11_changingRunners_0 27 rfl
theorem dX11_changingRunners_59 : decode cX11_changingRunners 59 = .ok (.iload 4, 2) := okd_at mX11_changingRunners_0 28 rfl
theorem dX11_changingRunners_61 : decode cX11_changingRunners 61 = .ok (.iload 5, 2) := okd_at mX11_changingRunners_0 29 rfl
theorem dX11_changingRunners_63 : decode cX11_changingRunners 63 = .ok (.invokestatic 340, 3) := okd_at mX11_changingRunners_0 30 rfl
theorem dX11_changingRunners_66 : decode cX11_changingRunners 66 = .ok (.iload_n 2, 1) := okd_at mX11_changingRunners_0 31 rfl
theorem dX11_changingRunners_67 : decode cX11_changingRunners 67 = .ok (.iconst 1, 1) := okd_at mX11_changingRunners_0 32 rfl
theorem dX11_changingRunners_68 : decode cX11_changingRunners 68 = .ok (.if_icmp .ne 7, 3) := okd_at mX11_changingRunners_0 33 rfl
theorem dX11_changingRunners_71 : decode cX11_changingRunners 71 = .ok (.iconst 1, 1) := okd_at mX11_changingRunners_0 34 rfl
theorem dX11_changingRunners_72 : decode cX11_changingRunners 72 = .ok (.goto 4, 3) := okd_at mX11_changingRunners_0 35 rfl
theorem dX11_changingRunners_75 : decode cX11_changingRunners 75 = .ok (.iconst 0, 1) := okd_at mX11_changingRunners_0 36 rfl
theorem dX11_changingRunners_76 : decode cX11_changingRunners 76 = .ok (.if_icmp .ne 46, 3) := okd_at mX11_changingRunners_0 37 rfl
theorem dX11_changingRunners_79 : decode cX11_changingRunners 79 = .ok (.aload_n 0, 1) := okd_at mX11_changingRunners_0 38 rfl
theorem dX11_changingRunners_80 : decode cX11_changingRunners 80 = .ok (.getfield 19, 3) := okd_at mX11_changingRunners_0 39 rfl
theorem dX11_changingRunners_83 : decode cX11_changingRunners 83 = .ok (.getfield 158, 3) := okd_at mX11_changingRunners_0 40 rfl
theorem dX11_changingRunners_86 : decode cX11_changingRunners 86 = .ok (.iload_n 3, 1) := okd_at mX11_changingRunners_0 41 rfl
theorem dX11_changingRunners_87 : decode cX11_changingRunners 87 = .ok (.iload 4, 2) := okd_at mX11_changingRunners_0 42 rfl
theorem dX11_changingRunners_89 : decode cX11_changingRunners 89 = .ok (.iconst 1, 1) := okd_at mX11_changingRunners_0 43 rfl
theorem dX11_changingRunners_90 : decode cX11_changingRunners 90 = .ok (.iload 5, 2) := okd_at mX11_changingRunners_0 44 rfl
theorem dX11_changingRunners_92 : decode cX11_changingRunners 92 = .ok (.ishl, 1) := okd_at mX11_changingRunners_0 45 rfl
theorem dX11_changingRunners_93 : decode cX11_changingRunners 93 = .ok (.ixor, 1) := okd_at mX11_changingRunners_0 46 rfl
theorem dX11_changingRunners_94 : decode cX11_changingRunners 94 = .ok (.invokestatic 216, 3) := okd_at mX11_changingRunners_0 47 rfl
theorem dX11_changingRunners_97 : decode cX11_changingRunners 97 = .ok (.aload_n 0, 1) := okd_at mX11_changingRunners_0 48 rfl
theorem dX11_changingRunners_98 : decode cX11_changingRunners 98 = .ok (.getfield 51, 3) := okd_at mX11_changingRunners_0 49 rfl
theorem dX11_changingRunners_101 : decode cX11_changingRunners 101 = .ok (.invokevirtual 178, 3) := okd_at mX11_changingRunners_0 50 rfl
theorem dX11_changingRunners_104 : decode cX11_changingRunners 104 = .ok (.aload_n 0, 1) := okd_at mX11_changingRunners_0 51 rfl
theorem dX11_changingRunners_105 : decode cX11_changingRunners 105 = .ok (.getfield 58, 3) := okd_at mX11_changingRunners_0 52 rfl
theorem dX11_changingRunners_108 : decode cX11_changingRunners 108 = .ok (.bipush 10, 2) := okd_at mX11_changingRunners_0 53 rfl
theorem dX11_changingRunners_110 : decode cX11_changingRunners 110 = .ok (.iload_n 3, 1) := okd_at mX11_changingRunners_0 54 rfl
theorem dX11_changingRunners_111 : decode cX11_changingRunners 111 = .ok (.imul, 1) := okd_at mX11_changingRunners_0 55 rfl
theorem dX11_changingRunners_112 : decode cX11_changingRunners 112 = .ok (.iload 5, 2) := okd_at mX11_changingRunners_0 56 rfl
theorem dX11_changingRunners_114 : decode cX11_changingRunners 114 = .ok (.iadd, 1) := okd_at mX11_changingRunners_0 57 rfl
theorem dX11_changingRunners_115 : decode cX11_changingRunners 115 = .ok (.aload_n 0, 1) := okd_at mX11_changingRunners_0 58 rfl
theorem dX11_changingRunners_116 : decode cX11_changingRunners 116 = .ok (.getfield 51, 3) := okd_at mX11_changingRunners_0 59 rfl
def lmX11_changingRunners_1 : List (Nat × Instr × Nat) := [(119, .invokevirtual 205, 3), (122, .iinc 5 1, 3), (125, .goto (-78), 3), (128, .aload_n 0, 1), (129, .getfield 19, 3), (132, .getfield 158, 3), (135, .iload_n 3, 1), (136, .iload 4, 2), (138, .invokestatic 216, 3), (141, .iinc 3 1, 3), (144, .goto (-124), 3), (147, .aload_n 0, 1), (148, .getfield 58, 3), (151, .iload_n 1, 1), (152, .invokevirtual 209, 3), (155, .ireturn, 1)]
theorem mX11_changingRunners_1 : okd cX11_changingRunners lmX11_changingRunners_1 = true := by decide +kernel
theorem dX11_changingRunners_119 : decode cX11_changingRunners 119 = .ok (.invokevirtual 205, 3) := okd_at mX11_changingRunners_1 0 rfl
theorem dX11_changingRunners_122 : decode cX11_changingRunners 122 = .ok (.iinc 5 1, 3) := okd_at mX11_changingRunners_1 1 rfl
theorem dX11_changingRunners_125 : decode cX11_changingRunners 125 = .ok (.goto (-78), 3) := okd_at mX11_changingRunners_1 2 rfl
theorem dX11_changingRunners_128 : decode cX11_changingRunners 128 = .ok (.aload_n 0, 1) := okd_at mX11_changingRunners_1 3 rfl
theorem dX11_changingRunners_129 : decode cX11_changingRunners 129 = .ok (.getfield 19, 3) := okd_at mX11_changingRunners_1 4 rfl
theorem dX11_changingRunners_132 : decode cX11_changingRunners 132 = .ok (.getfield 158, 3) := okd_at mX11_changingRunners_1 5 rfl
theorem dX11_changingRunners_135 : decode cX11_changingRunners 135 = .ok (.iload_n 3, 1) := okd_at mX11_changingRunners_1 6 rfl
theorem dX11_changingRunners_136 : decode cX11_changingRunners 136 = .ok (.iload 4, 2) := okd_at mX11_changingRunners_1 7 rfl
theorem dX11_changingRunners_138 : decode cX11_changingRunners 138 = .ok (.invokestatic 216, 3) := okd_at mX11_changingRunners_1 8 rfl
theorem dX11_changingRunners_141 : decode cX11_changingRunners 141 = .ok (.iinc 3 1, 3) := okd_at mX11_changingRunners_1 9 rfl
theorem dX11_changingRunners_144 : decode cX11_changingRunners 144 = .ok (.goto (-124), 3) := okd_at mX11_changingRunners_1 10 rfl
theorem dX11_changingRunners_147 : decode cX11_changingRunners 147 = .ok (.aload_n 0, 1) := okd_at mX11_changingRunners_1 11 rfl
theorem dX11_changingRunners_148 : decode cX11_changingRunners 148 = .ok (.getfield 58, 3) := okd_at mX11_changingRunners_1 12 rfl
theorem dX11_changingRunners_151 : decode cX11_changingRunners 151 = .ok (.iload_n 1, 1) := okd_at mX11_changingRunners_1 13 rfl
theorem dX11_changingRunners_152 : decode cX11_changingRunners 152 = .ok (.invokevirtual 209, 3) := okd_at mX11_changingRunners_1 14 rfl
theorem dX11_changingRunners_155 : decode cX11_changingRunners 155 = .ok (.ireturn, 1) := okd_at mX11_changingRunners_1 15 rfl
def lmX11_child_0 : List (Nat × Instr × Nat) := [(0, .iload_n 1, 1), (1, .iconst 0, 1), (2, .sipush 9999, 3), (5, .invokestatic 119, 3), (8, .ifCond .ne 6, 3), (11, .bipush (-2), 2), (13, .ireturn, 1), (14, .aload_n 0, 1), (15, .getfield 10, 3), (18, .iload_n 1, 1), (19, .bipush 100, 2), (21, .idiv, 1), (22, .iload_n 1, 1), (23, .bipush 100, 2), (25, .irem, 1), (26, .invokevirtual 123, 3), (29, .ireturn, 1)]
theorem mX11_child_0 : okd cX11_child lmX11_child_0 = true := by decide +kernel
theorem dX11_child_0 : decode cX11_child 0 = .ok (.iload_n 1, 1) := okd_at mX11_child_0 0 rfl
theorem dX11_child_1 : decode cX11_child 1 = .ok (.iconst 0, 1) := okd_at mX11_child_0 1 rfl
theorem dX11_child_2 : decode cX11_child 2 = .ok (.sipush 9999, 3) := okd_at mX11_child_0 2 rfl
theorem dX11_child_5 : decode cX11_child 5 = .ok (.invokestatic 119, 3) := okd_at mX11_child_0 3 rfl
theorem dX11_child_8 : decode cX11_child 8 = .ok (.ifCond .ne 6, 3) := okd_at mX11_child_0 4 rfl
theorem dX11_child_11 : decode cX11_child 11 = .ok (.bipush (-2), 2) := okd_at mX11_child_0 5 rfl
theorem dX11_child_13 : decode cX11_child 13 = .ok (.ireturn, 1) := okd_at mX11_child_0 6 rfl
theorem dX11_child_14 : decode cX11_child 14 = .ok (.aload_n 0, 1) := okd_at mX11_child_0 7 rfl
theorem dX11_child_15 : decode cX11_child 15 = .ok (.getfield 10, 3) := okd_at mX11_child_0 8 rfl
theorem dX11_child_18 : decode cX11_child 18 = .ok (.iload_n 1, 1) := okd_at mX11_child_0 9 rfl
theorem dX11_child_19 : decode cX11_child 19 = .ok (.bipush 100, 2) := okd_at mX11_child_0 10 rfl
theorem dX11_child_21 : decode cX11_child 21 = .ok (.idiv, 1) := okd_at mX11_child_0 11 rfl
theorem dX11_child_22 : decode cX11_child 22 = .ok (.iload_n 1, 1) := okd_at mX11_child_0 12 rfl
theorem dX11_child_23 : decode cX11_child 23 = .ok (.bipush 100, 2) := okd_at mX11_child_0 13 rfl
theorem dX11_child_25 : decode cX11_child 25 = .ok (.irem, 1) := okd_at mX11_child_0 14 rfl
theorem dX11_child_26 : decode cX11_child 26 = .ok (.invokevirtual 123, 3) := okd_at mX11_child_0 15 rfl
theorem dX11_child_29 : decode cX11_child 29 = .ok (.ireturn, 1) := okd_at mX11_child_0 16 rfl
def lmX11_childrenBy_0 : List (Nat × Instr × Nat) := [(0, .aload_n 0, 1), (1, .iload_n 1, 1), (2, .invokevirtual 223, 3), (5, .astore 5, 2), (7, .aload 5, 2), (9, .ifnull 23, 3), (12, .iload_n 2, 1), (13, .iconst 0, 1), (14, .iconst 2, 1), (15, .invokestatic 119, 3), (18, .ifCond .eq 14, 3), (21, .iload 4, 2), (23, .iconst 0, 1), (24, .bipush 8, 2), (26, .invokestatic 119, 3), (29, .ifCond .ne 6, 3), (32, .bipush (-2), 2), (34, .ireturn, 1), (35, .aload 5, 2), (37, .invokevirtual 296, 3), (40, .ifCond .eq 6, 3), (43, .bipush (-11), 2), (45, .ireturn, 1), (46, .aload 5, 2), (48, .getfield 301, 3), (51, .iload_n 2, 1), (52, .if_icmp .eq 6, 3), (55, .bipush (-13), 2), (57, .ireturn, 1), (58, .iconst 0, 1), (59, .istore 6, 2), (61, .iconst 0, 1), (62, .istore 7, 2), (64, .iload 7, 2), (66, .iload 4, 2), (68, .if_icmp .ge 56, 3), (71, .iload_n 3, 1), (72, .iconst 0, 1), (73, .aload 5, 2), (75, .getfield 300, 3), (78, .iconst 1, 1), (79, .isub, 1), (80, .iload 7, 2), (82, .isub, 1), (83, .invokestatic 119, 3), (86, .ifCond .ne 6, 3), (89, .bipush (-12), 2), (91, .ireturn, 1), (92, .iload 6, 2), (94, .aload_n 0, 1), (95, .aload 5, 2), (97, .iload_n 3, 1), (98, .iload 7, 2), (100, .iadd, 1), (101, .invokevirtual 317, 3), (104, .invokevirtual 320, 3), (107, .ifCond .lt 7, 3), (110, .iconst 1, 1), (111, .goto 4, 3), (114, .iconst 0, 1)]
theorem mX11_childrenBy_0 : okd cX11_childrenBy lmX11_childrenBy_0 = true := by decide +kernel
theorem dX11_childrenBy_0 : decode cX11_childrenBy 0 = .ok (.aload_n 0, 1) := okd_at mX11_childrenBy_0 0 rfl
theorem dX11_childrenBy_1 : decode cX11_childrenBy 1 = .ok (.iload_n 1, 1) := okd_at mX11_childrenBy_0 1 rfl
theorem dX11_childrenBy_2 : decode cX11_childrenBy 2 = .ok (.invokevirtual 223, 3) := okd_at mX11_childrenBy_0 2 rfl
theorem dX11_childrenBy_5 : decode cX11_childrenBy 5 = .ok (.astore 5, 2) := okd_at mX11_childrenBy_0 3 rfl
theorem dX11_childrenBy_7 : decode cX11_childrenBy 7 = .ok (.aload 5, 2) := okd_at mX11_childrenBy_0 4 rfl
theorem dX11_childrenBy_9 : decode cX11_childrenBy 9 = .ok (.ifnull 23, 3) := okd_at mX11_childrenBy_0 5 rfl
theorem dX11_childrenBy_12 : decode cX11_childrenBy 12 = .ok (.iload_n 2, 1) := okd_at mX11_childrenBy_0 6 rfl
theorem dX11_childrenBy_13 : decode cX11_childrenBy 13 = .ok (.iconst 0, 1) := okd_at mX11_childrenBy_0 7 rfl
theorem dX11_childrenBy_14 : decode cX11_childrenBy 14 = .ok (.iconst 2, 1) := okd_at mX11_childrenBy_0 8 rfl
theorem dX11_childrenBy_15 : decode cX11_childrenBy 15 = .ok (.invokestatic 119, 3) := okd_at mX11_childrenBy_0 9 rfl
theorem dX11_childrenBy_18 : decode cX11_childrenBy 18 = .ok (.ifCond .eq 14, 3) := okd_at mX11_childrenBy_0 10 rfl
theorem dX11_childrenBy_21 : decode cX11_childrenBy 21 = .ok (.iload 4, 2) := okd_at mX11_childrenBy_0 11 rfl
theorem dX11_childrenBy_23 : decode cX11_childrenBy 23 = .ok (.iconst 0, 1) := okd_at mX11_childrenBy_0 12 rfl
theorem dX11_childrenBy_24 : decode cX11_childrenBy 24 = .ok (.bipush 8, 2) := okd_at mX11_childrenBy_0 13 rfl
theorem dX11_childrenBy_26 : decode cX11_childrenBy 26 = .ok (.invokestatic 119, 3) := okd_at mX11_childrenBy_0 14 rfl
theorem dX11_childrenBy_29 : decode cX11_childrenBy 29 = .ok (.ifCond .ne 6, 3) := okd_at mX11_childrenBy_0 15 rfl
theorem dX11_childrenBy_32 : decode cX11_childrenBy 32 = .ok (.bipush (-2), 2) := okd_at mX11_childrenBy_0 16 rfl
theorem dX11_childrenBy_34 : decode cX11_childrenBy 34 = .ok (.ireturn, 1) := okd_at mX11_childrenBy_0 17 rfl
theorem dX11_childrenBy_35 : decode cX11_childrenBy 35 = .ok (.aload 5, 2) := okd_at mX11_childrenBy_0 18 rfl
theorem dX11_childrenBy_37 : decode cX11_childrenBy 37 = .ok (.invokevirtual 296, 3) := okd_at mX11_childrenBy_0 19 rfl
theorem dX11_childrenBy_40 : decode cX11_childrenBy 40 = .ok (.ifCond .eq 6, 3) := okd_at mX11_childrenBy_0 20 rfl
theorem dX11_childrenBy_43 : decode cX11_childrenBy 43 = .ok (.bipush (-11), 2) := okd_at mX11_childrenBy_0 21 rfl
theorem dX11_childrenBy_45 : decode cX11_childrenBy 45 = .ok (.ireturn, 1) := okd_at mX11_childrenBy_0 22 rfl
theorem dX11_childrenBy_46 : decode cX11_childrenBy 46 = .ok (.aload 5, 2) := okd_at mX11_childrenBy_0 23 rfl
theorem dX11_childrenBy_48 : decode cX11_childrenBy 48 = .ok (.getfield 301, 3) := okd_at mX11_childrenBy_0 24 rfl
theorem dX11_childrenBy_51 : decode cX11_childrenBy 51 = .ok (.iload_n 2, 1) := okd_at mX11_childrenBy_0 25 rfl
theorem dX11_childrenBy_52 : decode cX11_childrenBy 52 = .ok (.if_icmp .eq 6, 3) := okd_at mX11_childrenBy_0 26 rfl
theorem dX11_childrenBy_55 : decode cX11_childrenBy 55 = .ok (.bipush (-13), 2) := okd_at mX11_childrenBy_0 27 rfl
theorem dX11_childrenBy_57 : decode cX11_childrenBy 57 = .ok (.ireturn, 1) := okd_at mX11_childrenBy_0 28 rfl
theorem dX11_childrenBy_58 : decode cX11_childrenBy 58 = .ok (.iconst 0, 1) := okd_at mX11_childrenBy_0 29 rfl
theorem dX11_childrenBy_59 : decode cX11_childrenBy 59 = .ok (.istore 6, 2) := okd_at mX11_childrenBy_0 30 rfl
theorem dX11_childrenBy_61 : decode cX11_childrenBy 61 = .ok (.iconst 0, 1) := okd_at mX11_childrenBy_0 31 rfl
theorem dX11_childrenBy_62 : decode cX11_childrenBy 62 = .ok (.istore 7, 2) := okd_at mX11_childrenBy_0 32 rfl
theorem dX11_childrenBy_64 : decode cX11_childrenBy 64 = .ok (.iload 7, 2) := okd_at mX11_childrenBy_0 33 rfl
theorem dX11_childrenBy_66 : decode cX11_childrenBy 66 = .ok (.iload 4, 2) := okd_at mX11_childrenBy_0 34 rfl
theorem dX11_childrenBy_68 : decode cX11_childrenBy 68 = .ok (.if_icmp .ge 56, 3) := okd_at mX11_childrenBy_0 35 rfl
theorem dX11_childrenBy_71 : decode cX11_childrenBy 71 = .ok (.iload_n 3, 1) := okd_at mX11_childrenBy_0 36 rfl
theorem dX11_childrenBy_72 : decode cX11_childrenBy 72 = .ok (.iconst 0, 1) := okd_at mX11_childrenBy_0 37 rfl
theorem dX11_childrenBy_73 : decode cX11_childrenBy 73 = .ok (.aload 5, 2) := okd_at mX11_childrenBy_0 38 rfl
theorem dX11_childrenBy_75 : decode cX11_childrenBy 75 = .ok (.getfield 300, 3) := okd_at mX11_childrenBy_0 39 rfl
theorem dX11_childrenBy_78 : decode cX11_childrenBy 78 = .ok (.iconst 1, 1) := okd_at mX11_childrenBy_0 40 rfl
theorem dX11_childrenBy_79 : decode cX11_childrenBy 79 = .ok (.isub, 1) := okd_at mX11_childrenBy_0 41 rfl
theorem dX11_childrenBy_80 : decode cX11_childrenBy 80 = .ok (.iload 7, 2) := okd_at mX11_childrenBy_0 42 rfl
theorem dX11_childrenBy_82 : decode cX11_childrenBy 82 = .ok (.isub, 1) := okd_at mX11_childrenBy_0 43 rfl
theorem dX11_childrenBy_83 : decode cX11_childrenBy 83 = .ok (.invokestatic 119, 3) := okd_at mX11_childrenBy_0 44 rfl
theorem dX11_childrenBy_86 : decode cX11_childrenBy 86 = .ok (.ifCond .ne 6, 3) := okd_at mX11_childrenBy_0 45 rfl
theorem dX11_childrenBy_89 : decode cX11_childrenBy 89 = .ok (.bipush (-12), 2) := okd_at mX11_childrenBy_0 46 rfl
theorem dX11_childrenBy_91 : decode cX11_childrenBy 91 = .ok (.ireturn, 1) := okd_at mX11_childrenBy_0 47 rfl
theorem dX11_childrenBy_92 : decode cX11_childrenBy 92 = .ok (.iload 6, 2) := okd_at mX11_childrenBy_0 48 rfl
theorem dX11_childrenBy_94 : decode cX11_childrenBy 94 = .ok (.aload_n 0, 1) := okd_at mX11_childrenBy_0 49 rfl
theorem dX11_childrenBy_95 : decode cX11_childrenBy 95 = .ok (.aload 5, 2) := okd_at mX11_childrenBy_0 50 rfl
theorem dX11_childrenBy_97 : decode cX11_childrenBy 97 = .ok (.iload_n 3, 1) := okd_at mX11_childrenBy_0 51 rfl
theorem dX11_childrenBy_98 : decode cX11_childrenBy 98 = .ok (.iload 7, 2) := okd_at mX11_childrenBy_0 52 rfl
theorem dX11_childrenBy_100 : decode cX11_childrenBy 100 = .ok (.iadd, 1) := okd_at mX11_childrenBy_0 53 rfl
theorem dX11_childrenBy_101 : decode cX11_childrenBy 101 = .ok (.invokevirtual 317, 3) := okd_at mX11_childrenBy_0 54 rfl
theorem dX11_childrenBy_104 : decode cX11_childrenBy 104 = .ok (.invokevirtual 320, 3) := okd_at mX11_childrenBy_0 55 rfl
theorem dX11_childrenBy_107 : decode cX11_childrenBy 107 = .ok (.ifCond .lt 7, 3) := okd_at mX11_childrenBy_0 56 rfl
theorem dX11_childrenBy_110 : decode cX11_childrenBy 110 = .ok (.iconst 1, 1) := okd_at mX11_childrenBy_0 57 rfl
theorem dX11_childrenBy_111 : decode cX11_childrenBy 111 = .ok (.goto 4, 3) := okd_at mX11_childrenBy_0 58 rfl
theorem dX11_childrenBy_114 : decode cX11_childrenBy 114 = .ok (.iconst 0, 1) := okd_at mX11_childrenBy_0 59 rfl
def lmX11_childrenBy_1 : List (Nat × Instr × Nat) := [(115, .iadd, 1), (116, .istore 6, 2), (118, .iinc 7 1, 3), (121, .goto (-57), 3), (124, .iload 6, 2), (126, .ireturn, 1)]
theorem mX11_childrenBy_1 : okd cX11_childrenBy lmX11_childrenBy_1 = true := by decide +kernel
theorem dX11_childrenBy_115 : decode cX11_childrenBy 115 = .ok (.iadd, 1) := okd_at mX11_childrenBy_1 0 rfl
theorem dX11_childrenBy_116 : decode cX11_childrenBy 116 = .ok (.istore 6, 2) := okd_at mX11_childrenBy_1 1 rfl
theorem dX11_childrenBy_118 : decode cX11_childrenBy 118 = .ok (.iinc 7 1, 3) := okd_at mX11_childrenBy_1 2 rfl
theorem dX11_childrenBy_121 : decode cX11_childrenBy 121 = .ok (.goto (-57), 3) := okd_at mX11_childrenBy_1 3 rfl
theorem dX11_childrenBy_124 : decode cX11_childrenBy 124 = .ok (.iload 6, 2) := okd_at mX11_childrenBy_1 4 rfl
theorem dX11_childrenBy_126 : decode cX11_childrenBy 126 = .ok (.ireturn, 1) := okd_at mX11_childrenBy_1 5 rfl
def lmX11_comes_0 : List (Nat × Instr × Nat) := [(0, .aload_n 0, 1), (1, .iload_n 1, 1), (2, .invokevirtual 145, 3), (5, .ifCond .ne 6, 3), (8, .bipush (-6), 2), (10, .ireturn, 1), (11, .iload_n 2, 1), (12, .iconst 0, 1), (13, .bipush 7, 2), (15, .invokestatic 119, 3), (18, .ifCond .ne 6, 3), (21, .bipush (-7), 2), (23, .ireturn, 1), (24, .aload_n 0, 1), (25, .getfield 51, 3), (28, .invokevirtual 165, 3), (31, .iload_n 2, 1), (32, .aload_n 0, 1), (33, .getfield 51, 3), (36, .iload_n 1, 1), (37, .invokevirtual 168, 3), (40, .if_icmp .ge 17, 3), (43, .aload_n 0, 1), (44, .getfield 51, 3), (47, .getfield 172, 3), (50, .iload_n 2, 1), (51, .invokestatic 138, 3), (54, .goto 4, 3), (57, .iconst (-1), 1), (58, .ireturn, 1)]
theorem mX11_comes_0 : okd cX11_comes lmX11_comes_0 = true := by decide +kernel
theorem dX11_comes_0 : decode cX11_comes 0 = .ok (.aload_n 0, 1) := okd_at mX11_comes_0 0 rfl
theorem dX11_comes_1 : decode cX11_comes 1 = .ok (.iload_n 1, 1) := okd_at mX11_comes_0 1 rfl
theorem dX11_comes_2 : decode cX11_comes 2 = .ok (.invokevirtual 145, 3) := okd_at mX11_comes_0 2 rfl
theorem dX11_comes_5 : decode cX11_comes 5 = .ok (.ifCond .ne 6, 3) := okd_at mX11_comes_0 3 rfl
theorem dX11_comes_8 : decode cX11_comes 8 = .ok (.bipush (-6), 2) := okd_at mX11_comes_0 4 rfl
theorem dX11_comes_10 : decode cX11_comes 10 = .ok (.ireturn, 1) := okd_at mX11_comes_0 5 rfl
theorem dX11_comes_11 : decode cX11_comes 11 = .ok (.iload_n 2, 1) := okd_at mX11_comes_0 6 rfl
theorem dX11_comes_12 : decode cX11_comes 12 = .ok (.iconst 0, 1) := okd_at mX11_comes_0 7 rfl
theorem dX11_comes_13 : decode cX11_comes 13 = .ok (.bipush 7, 2) := okd_at mX11_comes_0 8 rfl
theorem dX11_comes_15 : decode cX11_comes 15 = .ok (.invokestatic 119, 3) := okd_at mX11_comes_0 9 rfl
theorem dX11_comes_18 : decode cX11_comes 18 = .ok (.ifCond .ne 6, 3) := okd_at mX11_comes_0 10 rfl
theorem dX11_comes_21 : decode cX11_comes 21 = .ok (.bipush (-7), 2) := okd_at mX11_comes_0 11 rfl
theorem dX11_comes_23 : decode cX11_comes 23 = .ok (.ireturn, 1) := okd_at mX11_comes_0 12 rfl
theorem dX11_comes_24 : decode cX11_comes 24 = .ok (.aload_n 0, 1) := okd_at mX11_comes_0 13 rfl
theorem dX11_comes_25 : decode cX11_comes 25 = .ok (.getfield 51, 3) := okd_at mX11_comes_0 14 rfl
theorem dX11_comes_28 : decode cX11_comes 28 = .ok (.invokevirtual 165, 3) := okd_at mX11_comes_0 15 rfl
theorem dX11_comes_31 : decode cX11_comes 31 = .ok (.iload_n 2, 1) := okd_at mX11_comes_0 16 rfl
theorem dX11_comes_32 : decode cX11_comes 32 = .ok (.aload_n 0, 1) := okd_at mX11_comes_0 17 rfl
theorem dX11_comes_33 : decode cX11_comes 33 = .ok (.getfield 51, 3) := okd_at mX11_comes_0 18 rfl
theorem dX11_comes_36 : decode cX11_comes 36 = .ok (.iload_n 1, 1) := okd_at mX11_comes_0 19 rfl
theorem dX11_comes_37 : decode cX11_comes 37 = .ok (.invokevirtual 168, 3) := okd_at mX11_comes_0 20 rfl
theorem dX11_comes_40 : decode cX11_comes 40 = .ok (.if_icmp .ge 17, 3) := okd_at mX11_comes_0 21 rfl
theorem dX11_comes_43 : decode cX11_comes 43 = .ok (.aload_n 0, 1) := okd_at mX11_comes_0 22 rfl
theorem dX11_comes_44 : decode cX11_comes 44 = .ok (.getfield 51, 3) := okd_at mX11_comes_0 23 rfl
theorem dX11_comes_47 : decode cX11_comes 47 = .ok (.getfield 172, 3) := okd_at mX11_comes_0 24 rfl
theorem dX11_comes_50 : decode cX11_comes 50 = .ok (.iload_n 2, 1) := okd_at mX11_comes_0 25 rfl
theorem dX11_comes_51 : decode cX11_comes 51 = .ok (.invokestatic 138, 3) := okd_at mX11_comes_0 26 rfl
theorem dX11_comes_54 : decode cX11_comes 54 = .ok (.goto 4, 3) := okd_at mX11_comes_0 27 rfl
theorem dX11_comes_57 : decode cX11_comes 57 = .ok (.iconst (-1), 1) := okd_at mX11_comes_0 28 rfl
theorem dX11_comes_58 : decode cX11_comes 58 = .ok (.ireturn, 1) := okd_at mX11_comes_0 29 rfl
def lmX11_commonDivisor_0 : List (Nat × Instr × Nat) := [(0, .iload_n 0, 1), (1, .istore_n 2, 1), (2, .iload_n 1, 1), (3, .istore_n 3, 1), (4, .iconst 0, 1), (5, .istore 4, 2), (7, .iload 4, 2), (9, .iload_n 1, 1), (10, .if_icmp .ge 23, 3), (13, .iload_n 3, 1), (14, .ifCond .eq 19, 3), (17, .iload_n 2, 1), (18, .iload_n 3, 1), (19, .irem, 1), (20, .istore 5, 2), (22, .iload_n 3, 1), (23, .istore_n 2, 1), (24, .iload 5, 2), (26, .istore_n 3, 1), (27, .iinc 4 1, 3), (30, .goto (-23), 3), (33, .iload_n 2, 1), (34, .ireturn, 1)]
theorem mX11_commonDivisor_0 : okd cX11_commonDivisor lmX11_commonDivisor_0 = true := by decide +kernel
theorem dX11_commonDivisor_0 : decode cX11_commonDivisor 0 = .ok (.iload_n 0, 1) := okd_at mX11_commonDivisor_0 0 rfl
theorem dX11_commonDivisor_1 : decode cX11_commonDivisor 1 = .ok (.istore_n 2, 1) := okd_at mX11_commonDivisor_0 1 rfl
theorem dX11_commonDivisor_2 : decode cX11_commonDivisor 2 = .ok (.iload_n 1, 1) := okd_at mX11_commonDivisor_0 2 rfl
theorem dX11_commonDivisor_3 : decode cX11_commonDivisor 3 = .ok (.istore_n 3, 1) := okd_at mX11_commonDivisor_0 3 rfl
theorem dX11_commonDivisor_4 : decode cX11_commonDivisor 4 = .ok (.iconst 0, 1) := okd_at mX11_commonDivisor_0 4 rfl
theorem dX11_commonDivisor_5 : decode cX11_commonDivisor 5 = .ok (.istore 4, 2) := okd_at mX11_commonDivisor_0 5 rfl
theorem dX11_commonDivisor_7 : decode cX11_commonDivisor 7 = .ok (.iload 4, 2) := okd_at mX11_commonDivisor_0 6 rfl
theorem dX11_commonDivisor_9 : decode cX11_commonDivisor 9 = .ok (.iload_n 1, 1) := okd_at mX11_commonDivisor_0 7 rfl
theorem dX11_commonDivisor_10 : decode cX11_commonDivisor 10 = .ok (.if_icmp .ge 23, 3) := okd_at mX11_commonDivisor_0 8 rfl
theorem dX11_commonDivisor_13 : decode cX11_commonDivisor 13 = .ok (.iload_n 3, 1) := okd_at mX11_commonDivisor_0 9 rfl
theorem dX11_commonDivisor_14 : decode cX11_commonDivisor 14 = .ok (.ifCond .eq 19, 3) := okd_at mX11_commonDivisor_0 10 rfl
theorem dX11_commonDivisor_17 : decode cX11_commonDivisor 17 = .ok (.iload_n 2, 1) := okd_at mX11_commonDivisor_0 11 rfl
theorem dX11_commonDivisor_18 : decode cX11_commonDivisor 18 = .ok (.iload_n 3, 1) := okd_at mX11_commonDivisor_0 12 rfl
theorem dX11_commonDivisor_19 : decode cX11_commonDivisor 19 = .ok (.irem, 1) := okd_at mX11_commonDivisor_0 13 rfl
theorem dX11_commonDivisor_20 : decode cX11_commonDivisor 20 = .ok (.istore 5, 2) := okd_at mX11_commonDivisor_0 14 rfl
theorem dX11_commonDivisor_22 : decode cX11_commonDivisor 22 = .ok (.iload_n 3, 1) := okd_at mX11_commonDivisor_0 15 rfl
theorem dX11_commonDivisor_23 : decode cX11_commonDivisor 23 = .ok (.istore_n 2, 1) := okd_at mX11_commonDivisor_0 16 rfl
theorem dX11_commonDivisor_24 : decode cX11_commonDivisor 24 = .ok (.iload 5, 2) := okd_at mX11_commonDivisor_0 17 rfl
theorem dX11_commonDivisor_26 : decode cX11_commonDivisor 26 = .ok (.istore_n 3, 1) := okd_at mX11_commonDivisor_0 18 rfl
theorem dX11_commonDivisor_27 : decode cX11_commonDivisor 27 = .ok (.iinc 4 1, 3) := okd_at mX11_commonDivisor_0 19 rfl
theorem dX11_commonDivisor_30 : decode cX11_commonDivisor 30 = .ok (.goto (-23), 3) := okd_at mX11_commonDivisor_0 20 rfl
theorem dX11_commonDivisor_33 : decode cX11_commonDivisor 33 = .ok (.iload_n 2, 1) := okd_at mX11_commonDivisor_0 21 rfl
theorem dX11_commonDivisor_34 : decode cX11_commonDivisor 34 = .ok (.ireturn, 1) := okd_at mX11_commonDivisor_0 22 rfl
def lmX11_copy_0 : List (Nat × Instr × Nat) := [(0, .aload_n 0, 1), (1, .iload_n 1, 1), (2, .invokevirtual 223, 3), (5, .astore 6, 2), (7, .aload_n 0, 1), (8, .iload_n 3, 1), (9, .invokevirtual 223, 3), (12, .astore 7, 2), (14, .aload 6, 2), (16, .ifnull 8, 3), (19, .aload 7, 2), (21, .ifnonnull 6, 3), (24, .bipush (-2), 2), (26, .ireturn, 1), (27, .aload 6, 2), (29, .invokevirtual 296, 3), (32, .ifCond .ne 11, 3), (35, .aload 7, 2), (37, .invokevirtual 296, 3), (40, .ifCond .eq 6, 3), (43, .bipush (-11), 2), (45, .ireturn, 1), (46, .aload 6, 2), (48, .getfield 301, 3), (51, .aload 7, 2), (53, .getfield 301, 3), (56, .if_icmp .eq 6, 3), (59, .bipush (-13), 2), (61, .ireturn, 1), (62, .aload 6, 2), (64, .iload_n 2, 1), (65, .iload 5, 2), (67, .invokevirtual 304, 3), (70, .ifCond .eq 15, 3), (73, .aload 7, 2), (75, .iload 4, 2), (77, .iload 5, 2), (79, .invokevirtual 304, 3), (82, .ifCond .ne 6, 3), (85, .bipush (-12), 2), (87, .ireturn, 1), (88, .aload 6, 2), (90, .getfield 308, 3), (93, .iload_n 2, 1), (94, .aload 7, 2), (96, .getfield 308, 3), (99, .iload 4, 2), (101, .iload 5, 2), (103, .invokestatic 311, 3), (106, .iload 5, 2), (108, .ireturn, 1)]
theorem mX11_copy_0 : okd cX11_copy lmX11_copy_0 = true := by decide +kernel
theorem dX11_copy_0 : decode cX11_copy 0 = .ok (.aload_n 0, 1) := okd_at mX11_copy_0 0 rfl
theorem dX11_copy_1 : decode cX11_copy 1 = .ok (.iload_n 1, 1) := okd_at mX11_copy_0 1 rfl
theorem dX11_copy_2 : decode cX11_copy 2 = .ok (.invokevirtual 223, 3) := okd_at mX11_copy_0 2 rfl
theorem dX11_copy_5 : decode cX11_copy 5 = .ok (.astore 6, 2) := okd_at mX11_copy_0 3 rfl
theorem dX11_copy_7 : decode cX11_copy 7 = .ok (.aload_n 0, 1) := okd_at mX11_copy_0 4 rfl
theorem dX11_copy_8 : decode cX11_copy 8 = .ok (.iload_n 3, 1) := okd_at mX11_copy_0 5 rfl
theorem dX11_copy_9 : decode cX11_copy 9 = .ok (.invokevirtual 223, 3) := okd_at mX11_copy_0 6 rfl
theorem dX11_copy_12 : decode cX11_copy 12 = .ok (.astore 7, 2) := okd_at mX11_copy_0 7 rfl
theorem dX11_copy_14 : decode cX11_copy 14 = .ok (.aload 6, 2) := okd_at mX11_copy_0 8 rfl
theorem dX11_copy_16 : decode cX11_copy 16 = .ok (.ifnull 8, 3) := okd_at mX11_copy_0 9 rfl
theorem dX11_copy_19 : decode cX11_copy 19 = .ok (.aload 7, 2) := okd_at mX11_copy_0 10 rfl
theorem dX11_copy_21 : decode cX11_copy 21 = .ok (.ifnonnull 6, 3) := okd_at mX11_copy_0 11 rfl
theorem dX11_copy_24 : decode cX11_copy 24 = .ok (.bipush (-2), 2) := okd_at mX11_copy_0 12 rfl
theorem dX11_copy_26 : decode cX11_copy 26 = .ok (.ireturn, 1) := okd_at mX11_copy_0 13 rfl
theorem dX11_copy_27 : decode cX11_copy 27 = .ok (.aload 6, 2) := okd_at mX11_copy_0 14 rfl
theorem dX11_copy_29 : decode cX11_copy 29 = .ok (.invokevirtual 296, 3) := okd_at mX11_copy_0 15 rfl
theorem dX11_copy_32 : decode cX11_copy 32 = .ok (.ifCond .ne 11, 3) := okd_at mX11_copy_0 16 rfl
theorem dX11_copy_35 : decode cX11_copy 35 = .ok (.aload 7, 2) := okd_at mX11_copy_0 17 rfl
theorem dX11_copy_37 : decode cX11_copy 37 = .ok (.invokevirtual 296, 3) := okd_at mX11_copy_0 18 rfl
theorem dX11_copy_40 : decode cX11_copy 40 = .ok (.ifCond .eq 6, 3) := okd_at mX11_copy_0 19 rfl
theorem dX11_copy_43 : decode cX11_copy 43 = .ok (.bipush (-11), 2) := okd_at mX11_copy_0 20 rfl
theorem dX11_copy_45 : decode cX11_copy 45 = .ok (.ireturn, 1) := okd_at mX11_copy_0 21 rfl
theorem dX11_copy_46 : decode cX11_copy 46 = .ok (.aload 6, 2) := okd_at mX11_copy_0 22 rfl
theorem dX11_copy_48 : decode cX11_copy 48 = .ok (.getfield 301, 3) := okd_at mX11_copy_0 23 rfl
theorem dX11_copy_51 : decode cX11_copy 51 = .ok (.aload 7, 2) := okd_at mX11_copy_0 24 rfl
theorem dX11_copy_53 : decode cX11_copy 53 = .ok (.getfield 301, 3) := okd_at mX11_copy_0 25 rfl
theorem dX11_copy_56 : decode cX11_copy 56 = .ok (.if_icmp .eq 6, 3) := okd_at mX11_copy_0 26 rfl
theorem dX11_copy_59 : decode cX11_copy 59 = .ok (.bipush (-13), 2) := okd_at mX11_copy_0 27 rfl
theorem dX11_copy_61 : decode cX11_copy 61 = .ok (.ireturn, 1) := okd_at mX11_copy_0 28 rfl
theorem dX11_copy_62 : decode cX11_copy 62 = .ok (.aload 6, 2) := okd_at mX11_copy_0 29 rfl
theorem dX11_copy_64 : decode cX11_copy 64 = .ok (.iload_n 2, 1) := okd_at mX11_copy_0 30 rfl
theorem dX11_copy_65 : decode cX11_copy 65 = .ok (.iload 5, 2) := okd_at mX11_copy_0 31 rfl
theorem dX11_copy_67 : decode cX11_copy 67 = .ok (.invokevirtual 304, 3) := okd_at mX11_copy_0 32 rfl
theorem dX11_copy_70 : decode cX11_copy 70 = .ok (.ifCond .eq 15, 3) := okd_at mX11_copy_0 33 rfl
theorem dX11_copy_73 : decode cX11_copy 73 = .ok (.aload 7, 2) := okd_at mX11_copy_0 34 rfl
theorem dX11_copy_75 : decode cX11_copy 75 = .ok (.iload 4, 2) := okd_at mX11_copy_0 35 rfl
theorem dX11_copy_77 : decode cX11_copy 77 = .ok (.iload 5, 2) := okd_at mX11_copy_0 36 rfl
theorem dX11_copy_79 : decode cX11_copy 79 = .ok (.invokevirtual 304, 3) := okd_at mX11_copy_0 37 rfl
theorem dX11_copy_82 : decode cX11_copy 82 = .ok (.ifCond .ne 6, 3) := okd_at mX11_copy_0 38 rfl
theorem dX11_copy_85 : decode cX11_copy 85 = .ok (.bipush (-12), 2) := okd_at mX11_copy_0 39 rfl
theorem dX11_copy_87 : decode cX11_copy 87 = .ok (.ireturn, 1) := okd_at mX11_copy_0 40 rfl
theorem dX11_copy_88 : decode cX11_copy 88 = .ok (.aload 6, 2) := okd_at mX11_copy_0 41 rfl
theorem dX11_copy_90 : decode cX11_copy 90 = .ok (.getfield 308, 3) := okd_at mX11_copy_0 42 rfl
theorem dX11_copy_93 : decode cX11_copy 93 = .ok (.iload_n 2, 1) := okd_at mX11_copy_0 43 rfl
theorem dX11_copy_94 : decode cX11_copy 94 = .ok (.aload 7, 2) := okd_at mX11_copy_0 44 rfl
theorem dX11_copy_96 : decode cX11_copy 96 = .ok (.getfield 308, 3) := okd_at mX11_copy_0 45 rfl
theorem dX11_copy_99 : decode cX11_copy 99 = .ok (.iload 4, 2) := okd_at mX11_copy_0 46 rfl
theorem dX11_copy_101 : decode cX11_copy 101 = .ok (.iload 5, 2) := okd_at mX11_copy_0 47 rfl
theorem dX11_copy_103 : decode cX11_copy 103 = .ok (.invokestatic 311, 3) := okd_at mX11_copy_0 48 rfl
theorem dX11_copy_106 : decode cX11_copy 106 = .ok (.iload 5, 2) := okd_at mX11_copy_0 49 rfl
theorem dX11_copy_108 : decode cX11_copy 108 = .ok (.ireturn, 1) := okd_at mX11_copy_0 50 rfl
def lmX11_copyRow_0 : List (Nat × Instr × Nat) := [(0, .iconst 0, 1), (1, .istore_n 2, 1), (2, .iload_n 2, 1), (3, .aload_n 0, 1), (4, .arraylength, 1), (5, .if_icmp .ge 21, 3), (8, .iload_n 2, 1), (9, .aload_n 1, 1), (10, .arraylength, 1), (11, .if_icmp .ge 15, 3), (14, .aload_n 1, 1), (15, .iload_n 2, 1), (16, .aload_n 0, 1), (17, .iload_n 2, 1), (18, .iaload, 1), (19, .iastore, 1), (20, .iinc 2 1, 3), (23, .goto (-21), 3), (26, .return_, 1)]
theorem mX11_copyRow_0 : okd cX11_copyRow lmX11_copyRow_0 = true := by decide +kernel
theorem dX11_copyRow_0 : decode cX11_copyRow 0 = .ok (.iconst 0, 1) := okd_at mX11_copyRow_0 0 rfl
theorem dX11_copyRow_1 : decode cX11_copyRow 1 = .ok (.istore_n 2, 1) := okd_at mX11_copyRow_0 1 rfl
theorem dX11_copyRow_2 : decode cX11_copyRow 2 = .ok (.iload_n 2, 1) := okd_at mX11_copyRow_0 2 rfl
theorem dX11_copyRow_3 : decode cX11_copyRow 3 = .ok (.aload_n 0, 1) := okd_at mX11_copyRow_0 3 rfl
theorem dX11_copyRow_4 : decode cX11_copyRow 4 = .ok (.arraylength, 1) := okd_at mX11_copyRow_0 4 rfl
theorem dX11_copyRow_5 : decode cX11_copyRow 5 = .ok (.if_icmp .ge 21, 3) := okd_at mX11_copyRow_0 5 rfl
theorem dX11_copyRow_8 : decode cX11_copyRow 8 = .ok (.iload_n 2, 1) := okd_at mX11_copyRow_0 6 rfl
theorem dX11_copyRow_9 : decode cX11_copyRow 9 = .ok (.aload_n 1, 1) := okd_at mX11_copyRow_0 7 rfl
theorem dX11_copyRow_10 : decode cX11_copyRow 10 = .ok (.arraylength, 1) := okd_at mX11_copyRow_0 8 rfl
theorem dX11_copyRow_11 : decode cX11_copyRow 11 = .ok (.if_icmp .ge 15, 3) := okd_at mX11_copyRow_0 9 rfl
theorem dX11_copyRow_14 : decode cX11_copyRow 14 = .ok (.aload_n 1, 1) := okd_at mX11_copyRow_0 10 rfl
theorem dX11_copyRow_15 : decode cX11_copyRow 15 = .ok (.iload_n 2, 1) := okd_at mX11_copyRow_0 11 rfl
theorem dX11_copyRow_16 : decode cX11_copyRow 16 = .ok (.aload_n 0, 1) := okd_at mX11_copyRow_0 12 rfl
theorem dX11_copyRow_17 : decode cX11_copyRow 17 = .ok (.iload_n 2, 1) := okd_at mX11_copyRow_0 13 rfl
theorem dX11_copyRow_18 : decode cX11_copyRow 18 = .ok (.iaload, 1) := okd_at mX11_copyRow_0 14 rfl
theorem dX11_copyRow_19 : decode cX11_copyRow 19 = .ok (.iastore, 1) := okd_at mX11_copyRow_0 15 rfl
theorem dX11_copyRow_20 : decode cX11_copyRow 20 = .ok (.iinc 2 1, 3) := okd_at mX11_copyRow_0 16 rfl
theorem dX11_copyRow_23 : decode cX11_copyRow 23 = .ok (.goto (-21), 3) := okd_at mX11_copyRow_0 17 rfl
theorem dX11_copyRow_26 : decode cX11_copyRow 26 = .ok (.return_, 1) := okd_at mX11_copyRow_0 18 rfl
def lmX11_count_0 : List (Nat × Instr × Nat) := [(0, .iload_n 1, 1), (1, .tableswitch 75 0 4 #[35, 43, 51, 59, 67], 35), (36, .aload_n 0, 1), (37, .getfield 19, 3), (40, .getfield 107, 3), (43, .ireturn, 1), (44, .aload_n 0, 1), (45, .getfield 10, 3), (48, .getfield 111, 3), (51, .ireturn, 1), (52, .aload_n 0, 1), (53, .getfield 26, 3), (56, .getfield 112, 3), (59, .ireturn, 1), (60, .aload_n 0, 1), (61, .getfield 26, 3), (64, .getfield 113, 3), (67, .ireturn, 1), (68, .aload_n 0, 1), (69, .getfield 33, 3), (72, .getfield 116, 3), (75, .ireturn, 1), (76, .bipush (-2), 2), (78, .ireturn, 1)]
theorem mX11_count_0 : okd cX11_count lmX11_count_0 = true := by decide +kernel
theorem dX11_count_0 : decode cX11_count 0 = .ok (.iload_n 1, 1) := okd_at mX11_count_0 0 rfl
theorem dX11_count_1 : decode cX11_count 1 = .ok (.tableswitch 75 0 4 #[35, 43, 51, 59, 67], 35) := okd_at mX11_count_0 1 rfl
theorem dX11_count_36 : decode cX11_count 36 = .ok (.aload_n 0, 1) := okd_at mX11_count_0 2 rfl
theorem dX11_count_37 : decode cX11_count 37 = .ok (.getfield 19, 3) := okd_at mX11_count_0 3 rfl
theorem dX11_count_40 : decode cX11_count 40 = .ok (.getfield 107, 3) := okd_at mX11_count_0 4 rfl
theorem dX11_count_43 : decode cX11_count 43 = .ok (.ireturn, 1) := okd_at mX11_count_0 5 rfl
theorem dX11_count_44 : decode cX11_count 44 = .ok (.aload_n 0, 1) := okd_at mX11_count_0 6 rfl
theorem dX11_count_45 : decode cX11_count 45 = .ok (.getfield 10, 3) := okd_at mX11_count_0 7 rfl
theorem dX11_count_48 : decode cX11_count 48 = .ok (.getfield 111, 3) := okd_at mX11_count_0 8 rfl
theorem dX11_count_51 : decode cX11_count 51 = .ok (.ireturn, 1) := okd_at mX11_count_0 9 rfl
theorem dX11_count_52 : decode cX11_count 52 = .ok (.aload_n 0, 1) := okd_at mX11_count_0 10 rfl
theorem dX11_count_53 : decode cX11_count 53 = .ok (.getfield 26, 3) := okd_at mX11_count_0 11 rfl
theorem dX11_count_56 : decode cX11_count 56 = .ok (.getfield 112, 3) := okd_at mX11_count_0 12 rfl
theorem dX11_count_59 : decode cX11_count 59 = .ok (.ireturn, 1) := okd_at mX11_count_0 13 rfl
theorem dX11_count_60 : decode cX11_count 60 = .ok (.aload_n 0, 1) := okd_at mX11_count_0 14 rfl
theorem dX11_count_61 : decode cX11_count 61 = .ok (.getfield 26, 3) := okd_at mX11_count_0 15 rfl
theorem dX11_count_64 : decode cX11_count 64 = .ok (.getfield 113, 3) := okd_at mX11_count_0 16 rfl
theorem dX11_count_67 : decode cX11_count 67 = .ok (.ireturn, 1) := okd_at mX11_count_0 17 rfl
theorem dX11_count_68 : decode cX11_count 68 = .ok (.aload_n 0, 1) := okd_at mX11_count_0 18 rfl
theorem dX11_count_69 : decode cX11_count 69 = .ok (.getfield 33, 3) := okd_at mX11_count_0 19 rfl
theorem dX11_count_72 : decode cX11_count 72 = .ok (.getfield 116, 3) := okd_at mX11_count_0 20 rfl
theorem dX11_count_75 : decode cX11_count 75 = .ok (.ireturn, 1) := okd_at mX11_count_0 21 rfl
theorem dX11_count_76 : decode cX11_count 76 = .ok (.bipush (-2), 2) := okd_at mX11_count_0 22 rfl
theorem dX11_count_78 : decode cX11_count 78 = .ok (.ireturn, 1) := okd_at mX11_count_0 23 rfl
def lmX11_day_0 : List (Nat × Instr × Nat) := [(0, .iload_n 1, 1), (1, .iconst 0, 1), (2, .iconst 3, 1), (3, .invokestatic 119, 3), (6, .ifCond .ne 18, 3), (9, .aload_n 0, 1), (10, .iload_n 1, 1), (11, .bipush 10, 2), (13, .isub, 1), (14, .invokevirtual 126, 3), (17, .ifCond .ne 7, 3), (20, .sipush (-1000), 3), (23, .ireturn, 1), (24, .aload_n 0, 1), (25, .getfield 51, 3), (28, .invokevirtual 178, 3), (31, .iload_n 1, 1), (32, .tableswitch 64 0 3 #[32, 40, 48, 56], 32), (64, .aload_n 0, 1), (65, .getfield 51, 3), (68, .getfield 181, 3), (71, .ireturn, 1), (72, .aload_n 0, 1), (73, .getfield 51, 3), (76, .getfield 184, 3), (79, .ireturn, 1), (80, .aload_n 0, 1), (81, .getfield 51, 3), (84, .getfield 187, 3), (87, .ireturn, 1), (88, .aload_n 0, 1), (89, .getfield 51, 3), (92, .getfield 190, 3), (95, .ireturn, 1), (96, .aload_n 0, 1), (97, .getfield 51, 3), (100, .getfield 192, 3), (103, .iload_n 1, 1), (104, .bipush 10, 2), (106, .isub, 1), (107, .invokestatic 138, 3), (110, .ireturn, 1)]
theorem mX11_day_0 : okd cX11_day lmX11_day_0 = true := by decide +kernel
theorem dX11_day_0 : decode cX11_day 0 = .ok (.iload_n 1, 1) := okd_at mX11_day_0 0 rfl
theorem dX11_day_1 : decode cX11_day 1 = .ok (.iconst 0, 1) := okd_at mX11_day_0 1 rfl
theorem dX11_day_2 : decode cX11_day 2 = .ok (.iconst 3, 1) := okd_at mX11_day_0 2 rfl
theorem dX11_day_3 : decode cX11_day 3 = .ok (.invokestatic 119, 3) := okd_at mX11_day_0 3 rfl
theorem dX11_day_6 : decode cX11_day 6 = .ok (.ifCond .ne 18, 3) := okd_at mX11_day_0 4 rfl
theorem dX11_day_9 : decode cX11_day 9 = .ok (.aload_n 0, 1) := okd_at mX11_day_0 5 rfl
theorem dX11_day_10 : decode cX11_day 10 = .ok (.iload_n 1, 1) := okd_at mX11_day_0 6 rfl
theorem dX11_day_11 : decode cX11_day 11 = .ok (.bipush 10, 2) := okd_at mX11_day_0 7 rfl
theorem dX11_day_13 : decode cX11_day 13 = .ok (.isub, 1) := okd_at mX11_day_0 8 rfl
theorem dX11_day_14 : decode cX11_day 14 = .ok (.invokevirtual 126, 3) := okd_at mX11_day_0 9 rfl
theorem dX11_day_17 : decode cX11_day 17 = .ok (.ifCond .ne 7, 3) := okd_at mX11_day_0 10 rfl
theorem dX11_day_20 : decode cX11_day 20 = .ok (.sipush (-1000), 3) := okd_at mX11_day_0 11 rfl
theorem dX11_day_23 : decode cX11_day 23 = .ok (.ireturn, 1) := okd_at mX11_day_0 12 rfl
theorem dX11_day_24 : decode cX11_day 24 = .ok (.aload_n 0, 1) := okd_at mX11_day_0 13 rfl
theorem dX11_day_25 : decode cX11_day 25 = .ok (.getfield 51, 3) := okd_at mX11_day_0 14 rfl
theorem dX11_day_28 : decode cX11_day 28 = .ok (.invokevirtual 178, 3) := okd_at mX11_day_0 15 rfl
theorem dX11_day_31 : decode cX11_day 31 = .ok (.iload_n 1, 1) := okd_at mX11_day_0 16 rfl
theorem dX11_day_32 : decode cX11_day 32 = .ok (.tableswitch 64 0 3 #[32, 40, 48, 56], 32) := okd_at mX11_day_0 17 rfl
theorem dX11_day_64 : decode cX11_day 64 = .ok (.aload_n 0, 1) := okd_at mX11_day_0 18 rfl
theorem dX11_day_65 : decode cX11_day 65 = .ok (.getfield 51, 3) := okd_at mX11_day_0 19 rfl
theorem dX11_day_68 : decode cX11_day 68 = .ok (.getfield 181, 3) := okd_at mX11_day_0 20 rfl
theorem dX11_day_71 : decode cX11_day 71 = .ok (.ireturn, 1) := okd_at mX11_day_0 21 rfl
theorem dX11_day_72 : decode cX11_day 72 = .ok (.aload_n 0, 1) := okd_at mX11_day_0 22 rfl
theorem dX11_day_73 : decode cX11_day 73 = .ok (.getfield 51, 3) := okd_at mX11_day_0 23 rfl
theorem dX11_day_76 : decode cX11_day 76 = .ok (.getfield 184, 3) := okd_at mX11_day_0 24 rfl
theorem dX11_day_79 : decode cX11_day 79 = .ok (.ireturn, 1) := okd_at mX11_day_0 25 rfl
theorem dX11_day_80 : decode cX11_day 80 = .ok (.aload_n 0, 1) := okd_at mX11_day_0 26 rfl
theorem dX11_day_81 : decode cX11_day 81 = .ok (.getfield 51, 3) := okd_at mX11_day_0 27 rfl
theorem dX11_day_84 : decode cX11_day 84 = .ok (.getfield 187, 3) := okd_at mX11_day_0 28 rfl
theorem dX11_day_87 : decode cX11_day 87 = .ok (.ireturn, 1) := okd_at mX11_day_0 29 rfl
theorem dX11_day_88 : decode cX11_day 88 = .ok (.aload_n 0, 1) := okd_at mX11_day_0 30 rfl
theorem dX11_day_89 : decode cX11_day 89 = .ok (.getfield 51, 3) := okd_at mX11_day_0 31 rfl
theorem dX11_day_92 : decode cX11_day 92 = .ok (.getfield 190, 3) := okd_at mX11_day_0 32 rfl
theorem dX11_day_95 : decode cX11_day 95 = .ok (.ireturn, 1) := okd_at mX11_day_0 33 rfl
theorem dX11_day_96 : decode cX11_day 96 = .ok (.aload_n 0, 1) := okd_at mX11_day_0 34 rfl
theorem dX11_day_97 : decode cX11_day 97 = .ok (.getfield 51, 3) := okd_at mX11_day_0 35 rfl
theorem dX11_day_100 : decode cX11_day 100 = .ok (.getfield 192, 3) := okd_at mX11_day_0 36 rfl
theorem dX11_day_103 : decode cX11_day 103 = .ok (.iload_n 1, 1) := okd_at mX11_day_0 37 rfl
theorem dX11_day_104 : decode cX11_day 104 = .ok (.bipush 10, 2) := okd_at mX11_day_0 38 rfl
theorem dX11_day_106 : decode cX11_day 106 = .ok (.isub, 1) := okd_at mX11_day_0 39 rfl
theorem dX11_day_107 : decode cX11_day 107 = .ok (.invokestatic 138, 3) := okd_at mX11_day_0 40 rfl
theorem dX11_day_110 : decode cX11_day 110 = .ok (.ireturn, 1) := okd_at mX11_day_0 41 rfl
def lmX11_does_0 : List (Nat × Instr × Nat) := [(0, .aload_n 0, 1), (1, .iload_n 1, 1), (2, .invokevirtual 126, 3), (5, .ifCond .ne 7, 3), (8, .sipush (-1005), 3), (11, .ireturn, 1), (12, .aload_n 0, 1), (13, .iload_n 2, 1), (14, .invokevirtual 145, 3), (17, .ifCond .ne 7, 3), (20, .sipush (-1006), 3), (23, .ireturn, 1), (24, .aload_n 0, 1), (25, .getfield 51, 3), (28, .iload_n 1, 1), (29, .iload_n 2, 1), (30, .aload_n 0, 1), (31, .getfield 51, 3), (34, .iconst 0, 1), (35, .iload_n 1, 1), (36, .iload_n 2, 1), (37, .iconst 0, 1), (38, .invokevirtual 148, 3), (41, .invokevirtual 175, 3), (44, .ireturn, 1)]
theorem mX11_does_0 : okd cX11_does lmX11_does_0 = true := by decide +kernel
theorem dX11_does_0 : decode cX11_does 0 = .ok (.aload_n 0, 1) := okd_at mX11_does_0 0 rfl
theorem dX11_does_1 : decode cX11_does 1 = .ok (.iload_n 1, 1) := okd_at mX11_does_0 1 rfl
theorem dX11_does_2 : decode cX11_does 2 = .ok (.invokevirtual 126, 3) := okd_at mX11_does_0 2 rfl
theorem dX11_does_5 : decode cX11_does 5 = .ok (.ifCond .ne 7, 3) := okd_at mX11_does_0 3 rfl
theorem dX11_does_8 : decode cX11_does 8 = .ok (.sipush (-1005), 3) := okd_at mX11_does_0 4 rfl
theorem dX11_does_11 : decode cX11_does 11 = .ok (.ireturn, 1) := okd_at mX11_does_0 5 rfl
theorem dX11_does_12 : decode cX11_does 12 = .ok (.aload_n 0, 1) := okd_at mX11_does_0 6 rfl
theorem dX11_does_13 : decode cX11_does 13 = .ok (.iload_n 2, 1) := okd_at mX11_does_0 7 rfl
theorem dX11_does_14 : decode cX11_does 14 = .ok (.invokevirtual 145, 3) := okd_at mX11_does_0 8 rfl
theorem dX11_does_17 : decode cX11_does 17 = .ok (.ifCond .ne 7, 3) := okd_at mX11_does_0 9 rfl
theorem dX11_does_20 : decode cX11_does 20 = .ok (.sipush (-1006), 3) := okd_at mX11_does_0 10 rfl
theorem dX11_does_23 : decode cX11_does 23 = .ok (.ireturn, 1) := okd_at mX11_does_0 11 rfl
theorem dX11_does_24 : decode cX11_does 24 = .ok (.aload_n 0, 1) := okd_at mX11_does_0 12 rfl
theorem dX11_does_25 : decode cX11_does 25 = .ok (.getfield 51, 3) := okd_at mX11_does_0 13 rfl
theorem dX11_does_28 : decode cX11_does 28 = .ok (.iload_n 1, 1) := okd_at mX11_does_0 14 rfl
theorem dX11_does_29 : decode cX11_does 29 = .ok (.iload_n 2, 1) := okd_at mX11_does_0 15 rfl
theorem dX11_does_30 : decode cX11_does 30 = .ok (.aload_n 0, 1) := okd_at mX11_does_0 16 rfl
theorem dX11_does_31 : decode cX11_does 31 = .ok (.getfield 51, 3) := okd_at mX11_does_0 17 rfl
theorem dX11_does_34 : decode cX11_does 34 = .ok (.iconst 0, 1) := okd_at mX11_does_0 18 rfl
theorem dX11_does_35 : decode cX11_does 35 = .ok (.iload_n 1, 1) := okd_at mX11_does_0 19 rfl
theorem dX11_does_36 : decode cX11_does 36 = .ok (.iload_n 2, 1) := okd_at mX11_does_0 20 rfl
theorem dX11_does_37 : decode cX11_does 37 = .ok (.iconst 0, 1) := okd_at mX11_does_0 21 rfl
theorem dX11_does_38 : decode cX11_does 38 = .ok (.invokevirtual 148, 3) := okd_at mX11_does_0 22 rfl
theorem dX11_does_41 : decode cX11_does 41 = .ok (.invokevirtual 175, 3) := okd_at mX11_does_0 23 rfl
theorem dX11_does_44 : decode cX11_does 44 = .ok (.ireturn, 1) := okd_at mX11_does_0 24 rfl
def lmX11_drawn_0 : List (Nat × Instr × Nat) := [(0, .iload_n 1, 1), (1, .iconst 0, 1), (2, .ldc_w 265, 3), (5, .invokestatic 119, 3), (8, .ifCond .eq 12, 3), (11, .iload_n 2, 1), (12, .iconst 0, 1), (13, .iconst 1, 1), (14, .invokestatic 119, 3), (17, .ifCond .ne 7, 3), (20, .sipush (-1000), 3), (23, .ireturn, 1), (24, .aload_n 0, 1), (25, .invokevirtual 266, 3), (28, .aload_n 0, 1), (29, .iload_n 1, 1), (30, .invokevirtual 269, 3), (33, .aload_n 0, 1), (34, .invokevirtual 272, 3), (37, .iload_n 2, 1), (38, .ifCond .ne 13, 3), (41, .aload_n 0, 1), (42, .getfield 51, 3), (45, .getfield 184, 3), (48, .goto 10, 3), (51, .aload_n 0, 1), (52, .getfield 51, 3), (55, .getfield 187, 3), (58, .ireturn, 1)]
theorem mX11_drawn_0 : okd cX11_drawn lmX11_drawn_0 = true := by decide +kernel
theorem dX11_drawn_0 : decode cX11_drawn 0 = .ok (.iload_n 1, 1) := okd_at mX11_drawn_0 0 rfl
theorem dX11_drawn_1 : decode cX11_drawn 1 = .ok (.iconst 0, 1) := okd_at mX11_drawn_0 1 rfl
theorem dX11_drawn_2 : decode cX11_drawn 2 = .ok (.ldc_w 265, 3) := okd_at mX11_drawn_0 2 rfl
theorem dX11_drawn_5 : decode cX11_drawn 5 = .ok (.invokestatic 119, 3) := okd_at mX11_drawn_0 3 rfl
theorem dX11_drawn_8 : decode cX11_drawn 8 = .ok (.ifCond .eq 12, 3) := okd_at mX11_drawn_0 4 rfl
theorem dX11_drawn_11 : decode cX11_drawn 11 = .ok (.iload_n 2, 1) := okd_at mX11_drawn_0 5 rfl
theorem dX11_drawn_12 : decode cX11_drawn 12 = .ok (.iconst 0, 1) := okd_at mX11_drawn_0 6 rfl
theorem dX11_drawn_13 : decode cX11_drawn 13 = .ok (.iconst 1, 1) := okd_at mX11_drawn_0 7 rfl
theorem dX11_drawn_14 : decode cX11_drawn 14 = .ok (.invokestatic 119, 3) := okd_at mX11_drawn_0 8 rfl
theorem dX11_drawn_17 : decode cX11_drawn 17 = .ok (.ifCond .ne 7, 3) := okd_at mX11_drawn_0 9 rfl
theorem dX11_drawn_20 : decode cX11_drawn 20 = .ok (.sipush (-1000), 3) := okd_at mX11_drawn_0 10 rfl
theorem dX11_drawn_23 : decode cX11_drawn 23 = .ok (.ireturn, 1) := okd_at mX11_drawn_0 11 rfl
theorem dX11_drawn_24 : decode cX11_drawn 24 = .ok (.aload_n 0, 1) := okd_at mX11_drawn_0 12 rfl
theorem dX11_drawn_25 : decode cX11_drawn 25 = .ok (.invokevirtual 266, 3) := okd_at mX11_drawn_0 13 rfl
theorem dX11_drawn_28 : decode cX11_drawn 28 = .ok (.aload_n 0, 1) := okd_at mX11_drawn_0 14 rfl
theorem dX11_drawn_29 : decode cX11_drawn 29 = .ok (.iload_n 1, 1) := okd_at mX11_drawn_0 15 rfl
theorem dX11_drawn_30 : decode cX11_drawn 30 = .ok (.invokevirtual 269, 3) := okd_at mX11_drawn_0 16 rfl
theorem dX11_drawn_33 : decode cX11_drawn 33 = .ok (.aload_n 0, 1) := okd_at mX11_drawn_0 17 rfl
theorem dX11_drawn_34 : decode cX11_drawn 34 = .ok (.invokevirtual 272, 3) := okd_at mX11_drawn_0 18 rfl
theorem dX11_drawn_37 : decode cX11_drawn 37 = .ok (.iload_n 2, 1) := okd_at mX11_drawn_0 19 rfl
theorem dX11_drawn_38 : decode cX11_drawn 38 = .ok (.ifCond .ne 13, 3) := okd_at mX11_drawn_0 20 rfl
theorem dX11_drawn_41 : decode cX11_drawn 41 = .ok (.aload_n 0, 1) := okd_at mX11_drawn_0 21 rfl
theorem dX11_drawn_42 : decode cX11_drawn 42 = .ok (.getfield 51, 3) := okd_at mX11_drawn_0 22 rfl
theorem dX11_drawn_45 : decode cX11_drawn 45 = .ok (.getfield 184, 3) := okd_at mX11_drawn_0 23 rfl
theorem dX11_drawn_48 : decode cX11_drawn 48 = .ok (.goto 10, 3) := okd_at mX11_drawn_0 24 rfl
theorem dX11_drawn_51 : decode cX11_drawn 51 = .ok (.aload_n 0, 1) := okd_at mX11_drawn_0 25 rfl
theorem dX11_drawn_52 : decode cX11_drawn 52 = .ok (.getfield 51, 3) := okd_at mX11_drawn_0 26 rfl
theorem dX11_drawn_55 : decode cX11_drawn 55 = .ok (.getfield 187, 3) := okd_at mX11_drawn_0 27 rfl
theorem dX11_drawn_58 : decode cX11_drawn 58 = .ok (.ireturn, 1) := okd_at mX11_drawn_0 28 rfl
def lmX11_drop_0 : List (Nat × Instr × Nat) := [(0, .iload_n 1, 1), (1, .iconst 0, 1), (2, .iconst 2, 1), (3, .invokestatic 119, 3), (6, .ifCond .ne 7, 3), (9, .sipush (-1000), 3), (12, .ireturn, 1), (13, .aload_n 0, 1), (14, .getfield 51, 3), (17, .invokevirtual 178, 3), (20, .aload_n 0, 1), (21, .getfield 58, 3), (24, .aload_n 0, 1), (25, .getfield 51, 3), (28, .invokevirtual 198, 3), (31, .iconst 0, 1), (32, .istore_n 2, 1), (33, .iload_n 2, 1), (34, .aload_n 0, 1), (35, .getfield 19, 3), (38, .getfield 107, 3), (41, .if_icmp .ge 29, 3), (44, .aload_n 0, 1), (45, .getfield 51, 3), (48, .iload_n 2, 1), (49, .invokevirtual 202, 3), (52, .aload_n 0, 1), (53, .getfield 58, 3), (56, .iload_n 2, 1), (57, .aload_n 0, 1), (58, .getfield 51, 3), (61, .invokevirtual 205, 3), (64, .iinc 2 1, 3), (67, .goto (-34), 3), (70, .aload_n 0, 1), (71, .getfield 58, 3), (74, .iload_n 1, 1), (75, .invokevirtual 209, 3), (78, .ireturn, 1)]
theorem mX11_drop_0 : okd cX11_drop lmX11_drop_0 = true := by decide +kernel
theorem dX11_drop_0 : decode cX11_drop 0 = .ok (.iload_n 1, 1) := okd_at mX11_drop_0 0 rfl
theorem dX11_drop_1 : decode cX11_drop 1 = .ok (.iconst 0, 1) := okd_at mX11_drop_0 1 rfl
theorem dX11_drop_2 : decode cX11_drop 2 = .ok (.iconst 2, 1) := okd_at mX11_drop_0 2 rfl
theorem dX11_drop_3 : decode cX11_drop 3 = .ok (.invokestatic 119, 3) := okd_at mX11_drop_0 3 rfl
theorem dX11_drop_6 : decode cX11_drop 6 = .ok (.ifCond .ne 7, 3) := okd_at mX11_drop_0 4 rfl
theorem dX11_drop_9 : decode cX11_drop 9 = .ok (.sipush (-1000), 3) := okd_at mX11_drop_0 5 rfl
theorem dX11_drop_12 : decode cX11_drop 12 = .ok (.ireturn, 1) := okd_at mX11_drop_0 6 rfl
theorem dX11_drop_13 : decode cX11_drop 13 = .ok (.aload_n 0, 1) := okd_at mX11_drop_0 7 rfl
theorem dX11_drop_14 : decode cX11_drop 14 = .ok (.getfield 51, 3) := okd_at mX11_drop_0 8 rfl
theorem dX11_drop_17 : decode cX11_drop 17 = .ok (.invokevirtual 178, 3) := okd_at mX11_drop_0 9 rfl
theorem dX11_drop_20 : decode cX11_drop 20 = .ok (.aload_n 0, 1) := okd_at mX11_drop_0 10 rfl
theorem dX11_drop_21 : decode cX11_drop 21 = .ok (.getfield 58, 3) := okd_at mX11_drop_0 11 rfl
theorem dX11_drop_24 : decode cX11_drop 24 = .ok (.aload_n 0, 1) := okd_at mX11_drop_0 12 rfl
theorem dX11_drop_25 : decode cX11_drop 25 = .ok (.getfield 51, 3) := okd_at mX11_drop_0 13 rfl
theorem dX11_drop_28 : decode cX11_drop 28 = .ok (.invokevirtual 198, 3) := okd_at mX11_drop_0 14 rfl
theorem dX11_drop_31 : decode cX11_drop 31 = .ok (.iconst 0, 1) := okd_at mX11_drop_0 15 rfl
theorem dX11_drop_32 : decode cX11_drop 32 = .ok (.istore_n 2, 1) := okd_at mX11_drop_0 16 rfl
theorem dX11_drop_33 : decode cX11_drop 33 = .ok (.iload_n 2, 1) := okd_at mX11_drop_0 17 rfl
theorem dX11_drop_34 : decode cX11_drop 34 = .ok (.aload_n 0, 1) := okd_at mX11_drop_0 18 rfl
theorem dX11_drop_35 : decode cX11_drop 35 = .ok (.getfield 19, 3) := okd_at mX11_drop_0 19 rfl
theorem dX11_drop_38 : decode cX11_drop 38 = .ok (.getfield 107, 3) := okd_at mX11_drop_0 20 rfl
theorem dX11_drop_41 : decode cX11_drop 41 = .ok (.if_icmp .ge 29, 3) := okd_at mX11_drop_0 21 rfl
theorem dX11_drop_44 : decode cX11_drop 44 = .ok (.aload_n 0, 1) := okd_at mX11_drop_0 22 rfl
theorem dX11_drop_45 : decode cX11_drop 45 = .ok (.getfield 51, 3) := okd_at mX11_drop_0 23 rfl
theorem dX11_drop_48 : decode cX11_drop 48 = .ok (.iload_n 2, 1) := okd_at mX11_drop_0 24 rfl
theorem dX11_drop_49 : decode cX11_drop 49 = .ok (.invokevirtual 202, 3) := okd_at mX11_drop_0 25 rfl
theorem dX11_drop_52 : decode cX11_drop 52 = .ok (.aload_n 0, 1) := okd_at mX11_drop_0 26 rfl
theorem dX11_drop_53 : decode cX11_drop 53 = .ok (.getfield 58, 3) := okd_at mX11_drop_0 27 rfl
theorem dX11_drop_56 : decode cX11_drop 56 = .ok (.iload_n 2, 1) := okd_at mX11_drop_0 28 rfl
theorem dX11_drop_57 : decode cX11_drop 57 = .ok (.aload_n 0, 1) := okd_at mX11_drop_0 29 rfl
theorem dX11_drop_58 : decode cX11_drop 58 = .ok (.getfield 51, 3) := okd_at mX11_drop_0 30 rfl
theorem dX11_drop_61 : decode cX11_drop 61 = .ok (.invokevirtual 205, 3) := okd_at mX11_drop_0 31 rfl
theorem dX11_drop_64 : decode cX11_drop 64 = .ok (.iinc 2 1, 3) := okd_at mX11_drop_0 32 rfl
theorem dX11_drop_67 : decode cX11_drop 67 = .ok (.goto (-34), 3) := okd_at mX11_drop_0 33 rfl
theorem dX11_drop_70 : decode cX11_drop 70 = .ok (.aload_n 0, 1) := okd_at mX11_drop_0 34 rfl
theorem dX11_drop_71 : decode cX11_drop 71 = .ok (.getfield 58, 3) := okd_at mX11_drop_0 35 rfl
theorem dX11_drop_74 : decode cX11_drop 74 = .ok (.iload_n 1, 1) := okd_at mX11_drop_0 36 rfl
theorem dX11_drop_75 : decode cX11_drop 75 = .ok (.invokevirtual 209, 3) := okd_at mX11_drop_0 37 rfl
theorem dX11_drop_78 : decode cX11_drop 78 = .ok (.ireturn, 1) := okd_at mX11_drop_0 38 rfl
def lmX11_enter_0 : List (Nat × Instr × Nat) := [(0, .aload_n 0, 1), (1, .iload_n 1, 1), (2, .invokevirtual 145, 3), (5, .ifCond .ne 6, 3), (8, .bipush (-6), 2), (10, .ireturn, 1), (11, .iload_n 2, 1), (12, .ifCond .ne 24, 3), (15, .aload_n 0, 1), (16, .iload_n 3, 1), (17, .invokevirtual 152, 3), (20, .ifCond .eq 16, 3), (23, .aload_n 0, 1), (24, .getfield 19, 3), (27, .getfield 158, 3), (30, .iload_n 1, 1), (31, .iload_n 3, 1), (32, .invokestatic 134, 3), (35, .ireturn, 1), (36, .iload_n 2, 1), (37, .iconst 1, 1), (38, .if_icmp .ne 25, 3), (41, .iload_n 3, 1), (42, .iconst 0, 1), (43, .iconst 3, 1), (44, .invokestatic 119, 3), (47, .ifCond .eq 16, 3), (50, .aload_n 0, 1), (51, .getfield 19, 3), (54, .getfield 161, 3), (57, .iload_n 1, 1), (58, .iload_n 3, 1), (59, .invokestatic 134, 3), (62, .ireturn, 1), (63, .bipush (-7), 2), (65, .ireturn, 1)]
theorem mX11_enter_0 : okd cX11_enter lmX11_enter_0 = true := by decide +kernel
theorem dX11_enter_0 : decode cX11_enter 0 = .ok (.aload_n 0, 1) := okd_at mX11_enter_0 0 rfl
theorem dX11_enter_1 : decode cX11_enter 1 = .ok (.iload_n 1, 1) := okd_at mX11_enter_0 1 rfl
theorem dX11_enter_2 : decode cX11_enter 2 = .ok (.invokevirtual 145, 3) := okd_at mX11_enter_0 2 rfl
theorem dX11_enter_5 : decode cX11_enter 5 = .ok (.ifCond .ne 6, 3) := okd_at mX11_enter_0 3 rfl
theorem dX11_enter_8 : decode cX11_enter 8 = .ok (.bipush (-6), 2) := okd_at mX11_enter_0 4 rfl
theorem dX11_enter_10 : decode cX11_enter 10 = .ok (.ireturn, 1) := okd_at mX11_enter_0 5 rfl
theorem dX11_enter_11 : decode cX11_enter 11 = .ok (.iload_n 2, 1) := okd_at mX11_enter_0 6 rfl
theorem dX11_enter_12 : decode cX11_enter 12 = .ok (.ifCond .ne 24, 3) := okd_at mX11_enter_0 7 rfl
theorem dX11_enter_15 : decode cX11_enter 15 = .ok (.aload_n 0, 1) := okd_at mX11_enter_0 8 rfl
theorem dX11_enter_16 : decode cX11_enter 16 = .ok (.iload_n 3, 1) := okd_at mX11_enter_0 9 rfl
theorem dX11_enter_17 : decode cX11_enter 17 = .ok (.invokevirtual 152, 3) := okd_at mX11_enter_0 10 rfl
theorem dX11_enter_20 : decode cX11_enter 20 = .ok (.ifCond .eq 16, 3) := okd_at mX11_enter_0 11 rfl
theorem dX11_enter_23 : decode cX11_enter 23 = .ok (.aload_n 0, 1) := okd_at mX11_enter_0 12 rfl
theorem dX11_enter_24 : decode cX11_enter 24 = .ok (.getfield 19, 3) := okd_at mX11_enter_0 13 rfl
theorem dX11_enter_27 : decode cX11_enter 27 = .ok (.getfield 158, 3) := okd_at mX11_enter_0 14 rfl
theorem dX11_enter_30 : decode cX11_enter 30 = .ok (.iload_n 1, 1) := okd_at mX11_enter_0 15 rfl
theorem dX11_enter_31 : decode cX11_enter 31 = .ok (.iload_n 3, 1) := okd_at mX11_enter_0 16 rfl
theorem dX11_enter_32 : decode cX11_enter 32 = .ok (.invokestatic 134, 3) := okd_at mX11_enter_0 17 rfl
theorem dX11_enter_35 : decode cX11_enter 35 = .ok (.ireturn, 1) := okd_at mX11_enter_0 18 rfl
theorem dX11_enter_36 : decode cX11_enter 36 = .ok (.iload_n 2, 1) := okd_at mX11_enter_0 19 rfl
theorem dX11_enter_37 : decode cX11_enter 37 = .ok (.iconst 1, 1) := okd_at mX11_enter_0 20 rfl
theorem dX11_enter_38 : decode cX11_enter 38 = .ok (.if_icmp .ne 25, 3) := okd_at mX11_enter_0 21 rfl
theorem dX11_enter_41 : decode cX11_enter 41 = .ok (.iload_n 3, 1) := okd_at mX11_enter_0 22 rfl
theorem dX11_enter_42 : decode cX11_enter 42 = .ok (.iconst 0, 1) := okd_at mX11_enter_0 23 rfl
theorem dX11_enter_43 : decode cX11_enter 43 = .ok (.iconst 3, 1) := okd_at mX11_enter_0 24 rfl
theorem dX11_enter_44 : decode cX11_enter 44 = .ok (.invokestatic 119, 3) := okd_at mX11_enter_0 25 rfl
theorem dX11_enter_47 : decode cX11_enter 47 = .ok (.ifCond .eq 16, 3) := okd_at mX11_enter_0 26 rfl
theorem dX11_enter_50 : decode cX11_enter 50 = .ok (.aload_n 0, 1) := okd_at mX11_enter_0 27 rfl
theorem dX11_enter_51 : decode cX11_enter 51 = .ok (.getfield 19, 3) := okd_at mX11_enter_0 28 rfl
theorem dX11_enter_54 : decode cX11_enter 54 = .ok (.getfield 161, 3) := okd_at mX11_enter_0 29 rfl
theorem dX11_enter_57 : decode cX11_enter 57 = .ok (.iload_n 1, 1) := okd_at mX11_enter_0 30 rfl
theorem dX11_enter_58 : decode cX11_enter 58 = .ok (.iload_n 3, 1) := okd_at mX11_enter_0 31 rfl
theorem dX11_enter_59 : decode cX11_enter 59 = .ok (.invokestatic 134, 3) := okd_at mX11_enter_0 32 rfl
theorem dX11_enter_62 : decode cX11_enter 62 = .ok (.ireturn, 1) := okd_at mX11_enter_0 33 rfl
theorem dX11_enter_63 : decode cX11_enter 63 = .ok (.bipush (-7), 2) := okd_at mX11_enter_0 34 rfl
theorem dX11_enter_65 : decode cX11_enter 65 = .ok (.ireturn, 1) := okd_at mX11_enter_0 35 rfl
def lmX11_feed_0 : List (Nat × Instr × Nat) := [(0, .iload_n 1, 1), (1, .iconst 1, 1), (2, .iconst 5, 1), (3, .invokestatic 119, 3), (6, .ifCond .eq 41, 3), (9, .iload_n 2, 1), (10, .invokestatic 142, 3), (13, .ifCond .eq 34, 3), (16, .iload_n 3, 1), (17, .invokestatic 142, 3), (20, .ifCond .eq 27, 3), (23, .iload 4, 2), (25, .invokestatic 142, 3), (28, .ifCond .eq 19, 3), (31, .iload 5, 2), (33, .invokestatic 142, 3), (36, .ifCond .eq 11, 3), (39, .iload 6, 2), (41, .invokestatic 142, 3), (44, .ifCond .ne 6, 3), (47, .bipush (-2), 2), (49, .ireturn, 1), (50, .aload_n 0, 1), (51, .getfield 33, 3), (54, .getfield 116, 3), (57, .iload_n 1, 1), (58, .iadd, 1), (59, .sipush 160, 3), (62, .if_icmp .le 6, 3), (65, .bipush (-4), 2), (67, .ireturn, 1), (68, .iconst 0, 1), (69, .istore 7, 2), (71, .iload 7, 2), (73, .iload_n 1, 1), (74, .if_icmp .ge 59, 3), (77, .aload_n 0, 1), (78, .getfield 33, 3), (81, .iload 7, 2), (83, .ifCond .ne 7, 3), (86, .iload_n 2, 1), (87, .goto 37, 3), (90, .iload 7, 2), (92, .iconst 1, 1), (93, .if_icmp .ne 7, 3), (96, .iload_n 3, 1), (97, .goto 27, 3), (100, .iload 7, 2), (102, .iconst 2, 1), (103, .if_icmp .ne 8, 3), (106, .iload 4, 2), (108, .goto 16, 3), (111, .iload 7, 2), (113, .iconst 3, 1), (114, .if_icmp .ne 8, 3), (117, .iload 5, 2), (119, .goto 5, 3), (122, .iload 6, 2), (124, .invokevirtual 100, 3), (127, .iinc 7 1, 3)]
theorem mX11_feed_0 : okd cX11_feed lmX11_feed_0 = true := by decide +kernel
theorem dX11_feed_0 : decode cX11_feed 0 = .ok (.iload_n 1, 1) := okd_at mX11_feed_0 0 rfl
theorem dX11_feed_1 : decode cX11_feed 1 = .ok (.iconst 1, 1) := okd_at mX11_feed_0 1 rfl
theorem dX11_feed_2 : decode cX11_feed 2 = .ok (.iconst 5, 1) := okd_at mX11_feed_0 2 rfl
theorem dX11_feed_3 : decode cX11_feed 3 = .ok (.invokestatic 119, 3) := okd_at mX11_feed_0 3 rfl
theorem dX11_feed_6 : decode cX11_feed 6 = .ok (.ifCond .eq 41, 3) := okd_at mX11_feed_0 4 rfl
theorem dX11_feed_9 : decode cX11_feed 9 = .ok (.iload_n 2, 1) := okd_at mX11_feed_0 5 rfl
theorem dX11_feed_10 : decode cX11_feed 10 = .ok (.invokestatic 142, 3) := okd_at mX11_feed_0 6 rfl
theorem dX11_feed_13 : decode cX11_feed 13 = .ok (.ifCond .eq 34, 3) := okd_at mX11_feed_0 7 rfl
theorem dX11_feed_16 : decode cX11_feed 16 = .ok (.iload_n 3, 1) := okd_at mX11_feed_0 8 rfl
theorem dX11_feed_17 : decode cX11_feed 17 = .ok (.invokestatic 142, 3) := okd_at mX11_feed_0 9 rfl
theorem dX11_feed_20 : decode cX11_feed 20 = .ok (.ifCond .eq 27, 3) := okd_at mX11_feed_0 10 rfl
theorem dX11_feed_23 : decode cX11_feed 23 = .ok (.iload 4, 2) := okd_at mX11_feed_0 11 rfl
theorem dX11_feed_25 : decode cX11_feed 25 = .ok (.invokestatic 142, 3) := okd_at mX11_feed_0 12 rfl
theorem dX11_feed_28 : decode cX11_feed 28 = .ok (.ifCond .eq 19, 3) := okd_at mX11_feed_0 13 rfl
theorem dX11_feed_31 : decode cX11_feed 31 = .ok (.iload 5, 2) := okd_at mX11_feed_0 14 rfl
theorem dX11_feed_33 : decode cX11_feed 33 = .ok (.invokestatic 142, 3) := okd_at mX11_feed_0 15 rfl
theorem dX11_feed_36 : decode cX11_feed 36 = .ok (.ifCond .eq 11, 3) := okd_at mX11_feed_0 16 rfl
theorem dX11_feed_39 : decode cX11_feed 39 = .ok (.iload 6, 2) := okd_at mX11_feed_0 17 rfl
theorem dX11_feed_41 : decode cX11_feed 41 = .ok (.invokestatic 142, 3) := okd_at mX11_feed_0 18 rfl
theorem dX11_feed_44 : decode cX11_feed 44 = .ok (.ifCond .ne 6, 3) := okd_at mX11_feed_0 19 rfl
theorem dX11_feed_47 : decode cX11_feed 47 = .ok (.bipush (-2), 2) := okd_at mX11_feed_0 20 rfl
theorem dX11_feed_49 : decode cX11_feed 49 = .ok (.ireturn, 1) := okd_at mX11_feed_0 21 rfl
theorem dX11_feed_50 : decode cX11_feed 50 = .ok (.aload_n 0, 1) := okd_at mX11_feed_0 22 rfl
theorem dX11_feed_51 : decode cX11_feed 51 = .ok (.getfield 33, 3) := okd_at mX11_feed_0 23 rfl
theorem dX11_feed_54 : decode cX11_feed 54 = .ok (.getfield 116, 3) := okd_at mX11_feed_0 24 rfl
theorem dX11_feed_57 : decode cX11_feed 57 = .ok (.iload_n 1, 1) := okd_at mX11_feed_0 25 rfl
theorem dX11_feed_58 : decode cX11_feed 58 = .ok (.iadd, 1) := okd_at mX11_feed_0 26 rfl
theorem dX11_feed_59 : decode cX11_feed 59 = .ok (.sipush 160, 3) := okd_at mX11_feed_0 27 rfl
theorem dX11_feed_62 : decode cX11_feed 62 = .ok (.if_icmp .le 6, 3) := okd_at mX11_feed_0 28 rfl
theorem dX11_feed_65 : decode cX11_feed 65 = .ok (.bipush (-4), 2) := okd_at mX11_feed_0 29 rfl
theorem dX11_feed_67 : decode cX11_feed 67 = .ok (.ireturn, 1) := okd_at mX11_feed_0 30 rfl
theorem dX11_feed_68 : decode cX11_feed 68 = .ok (.iconst 0, 1) := okd_at mX11_feed_0 31 rfl
theorem dX11_feed_69 : decode cX11_feed 69 = .ok (.istore 7, 2) := okd_at mX11_feed_0 32 rfl
theorem dX11_feed_71 : decode cX11_feed 71 = .ok (.iload 7, 2) := okd_at mX11_feed_0 33 rfl
theorem dX11_feed_73 : decode cX11_feed 73 = .ok (.iload_n 1, 1) := okd_at mX11_feed_0 34 rfl
theorem dX11_feed_74 : decode cX11_feed 74 = .ok (.if_icmp .ge 59, 3) := okd_at mX11_feed_0 35 rfl
theorem dX11_feed_77 : decode cX11_feed 77 = .ok (.aload_n 0, 1) := okd_at mX11_feed_0 36 rfl
theorem dX11_feed_78 : decode cX11_feed 78 = .ok (.getfield 33, 3) := okd_at mX11_feed_0 37 rfl
theorem dX11_feed_81 : decode cX11_feed 81 = .ok (.iload 7, 2) := okd_at mX11_feed_0 38 rfl
theorem dX11_feed_83 : decode cX11_feed 83 = .ok (.ifCond .ne 7, 3) := okd_at mX11_feed_0 39 rfl
theorem dX11_feed_86 : decode cX11_feed 86 = .ok (.iload_n 2, 1) := okd_at mX11_feed_0 40 rfl
theorem dX11_feed_87 : decode cX11_feed 87 = .ok (.goto 37, 3) := okd_at mX11_feed_0 41 rfl
theorem dX11_feed_90 : decode cX11_feed 90 = .ok (.iload 7, 2) := okd_at mX11_feed_0 42 rfl
theorem dX11_feed_92 : decode cX11_feed 92 = .ok (.iconst 1, 1) := okd_at mX11_feed_0 43 rfl
theorem dX11_feed_93 : decode cX11_feed 93 = .ok (.if_icmp .ne 7, 3) := okd_at mX11_feed_0 44 rfl
theorem dX11_feed_96 : decode cX11_feed 96 = .ok (.iload_n 3, 1) := okd_at mX11_feed_0 45 rfl
theorem dX11_feed_97 : decode cX11_feed 97 = .ok (.goto 27, 3) := okd_at mX11_feed_0 46 rfl
theorem dX11_feed_100 : decode cX11_feed 100 = .ok (.iload 7, 2) := okd_at mX11_feed_0 47 rfl
theorem dX11_feed_102 : decode cX11_feed 102 = .ok (.iconst 2, 1) := okd_at mX11_feed_0 48 rfl
theorem dX11_feed_103 : decode cX11_feed 103 = .ok (.if_icmp .ne 8, 3) := okd_at mX11_feed_0 49 rfl
theorem dX11_feed_106 : decode cX11_feed 106 = .ok (.iload 4, 2) := okd_at mX11_feed_0 50 rfl
theorem dX11_feed_108 : decode cX11_feed 108 = .ok (.goto 16, 3) := okd_at mX11_feed_0 51 rfl
theorem dX11_feed_111 : decode cX11_feed 111 = .ok (.iload 7, 2) := okd_at mX11_feed_0 52 rfl
theorem dX11_feed_113 : decode cX11_feed 113 = .ok (.iconst 3, 1) := okd_at mX11_feed_0 53 rfl
theorem dX11_feed_114 : decode cX11_feed 114 = .ok (.if_icmp .ne 8, 3) := okd_at mX11_feed_0 54 rfl
theorem dX11_feed_117 : decode cX11_feed 117 = .ok (.iload 5, 2) := okd_at mX11_feed_0 55 rfl
theorem dX11_feed_119 : decode cX11_feed 119 = .ok (.goto 5, 3) := okd_at mX11_feed_0 56 rfl
theorem dX11_feed_122 : decode cX11_feed 122 = .ok (.iload 6, 2) := okd_at mX11_feed_0 57 rfl
theorem dX11_feed_124 : decode cX11_feed 124 = .ok (.invokevirtual 100, 3) := okd_at mX11_feed_0 58 rfl
theorem dX11_feed_127 : decode cX11_feed 127 = .ok (.iinc 7 1, 3) := okd_at mX11_feed_0 59 rfl
def lmX11_feed_1 : List (Nat × Instr × Nat) := [(130, .goto (-59), 3), (133, .aload_n 0, 1), (134, .getfield 33, 3), (137, .getfield 116, 3), (140, .ireturn, 1)]
theorem mX11_feed_1 : okd cX11_feed lmX11_feed_1 = true := by decide +kernel
theorem dX11_feed_130 : decode cX11_feed 130 = .ok (.goto (-59), 3) := okd_at mX11_feed_1 0 rfl
theorem dX11_feed_133 : decode cX11_feed 133 = .ok (.aload_n 0, 1) := okd_at mX11_feed_1 1 rfl
theorem dX11_feed_134 : decode cX11_feed 134 = .ok (.getfield 33, 3) := okd_at mX11_feed_1 2 rfl
theorem dX11_feed_137 : decode cX11_feed 137 = .ok (.getfield 116, 3) := okd_at mX11_feed_1 3 rfl
theorem dX11_feed_140 : decode cX11_feed 140 = .ok (.ireturn, 1) := okd_at mX11_feed_1 4 rfl
def lmX11_film_0 : List (Nat × Instr × Nat) := [(0, .aload_n 0, 1), (1, .iload_n 1, 1), (2, .invokevirtual 223, 3), (5, .astore_n 2, 1), (6, .aload_n 2, 1), (7, .ifnonnull 6, 3), (10, .bipush (-2), 2), (12, .ireturn, 1), (13, .aload_n 0, 1), (14, .getfield 51, 3), (17, .invokevirtual 178, 3), (20, .aload_n 2, 1), (21, .iconst 1, 1), (22, .aload_n 0, 1), (23, .getfield 19, 3), (26, .getfield 107, 3), (29, .invokevirtual 255, 3), (32, .iconst 0, 1), (33, .istore_n 3, 1), (34, .iload_n 3, 1), (35, .aload_n 0, 1), (36, .getfield 19, 3), (39, .getfield 107, 3), (42, .if_icmp .ge 25, 3), (45, .aload_n 2, 1), (46, .iload_n 3, 1), (47, .aload_n 0, 1), (48, .getfield 51, 3), (51, .getfield 259, 3), (54, .iload_n 3, 1), (55, .invokestatic 138, 3), (58, .invokevirtual 262, 3), (61, .iinc 3 1, 3), (64, .goto (-30), 3), (67, .aload_n 0, 1), (68, .getfield 51, 3), (71, .getfield 190, 3), (74, .ireturn, 1)]
theorem mX11_film_0 : okd cX11_film lmX11_film_0 = true := by decide +kernel
theorem dX11_film_0 : decode cX11_film 0 = .ok (.aload_n 0, 1) := okd_at mX11_film_0 0 rfl
theorem dX11_film_1 : decode cX11_film 1 = .ok (.iload_n 1, 1) := okd_at mX11_film_0 1 rfl
theorem dX11_film_2 : decode cX11_film 2 = .ok (.invokevirtual 223, 3) := okd_at mX11_film_0 2 rfl
theorem dX11_film_5 : decode cX11_film 5 = .ok (.astore_n 2, 1) := okd_at mX11_film_0 3 rfl
theorem dX11_film_6 : decode cX11_film 6 = .ok (.aload_n 2, 1) := okd_at mX11_film_0 4 rfl
theorem dX11_film_7 : decode cX11_film 7 = .ok (.ifnonnull 6, 3) := okd_at mX11_film_0 5 rfl
theorem dX11_film_10 : decode cX11_film 10 = .ok (.bipush (-2), 2) := okd_at mX11_film_0 6 rfl
theorem dX11_film_12 : decode cX11_film 12 = .ok (.ireturn, 1) := okd_at mX11_film_0 7 rfl
theorem dX11_film_13 : decode cX11_film 13 = .ok (.aload_n 0, 1) := okd_at mX11_film_0 8 rfl
theorem dX11_film_14 : decode cX11_film 14 = .ok (.getfield 51, 3) := okd_at mX11_film_0 9 rfl
theorem dX11_film_17 : decode cX11_film 17 = .ok (.invokevirtual 178, 3) := okd_at mX11_film_0 10 rfl
theorem dX11_film_20 : decode cX11_film 20 = .ok (.aload_n 2, 1) := okd_at mX11_film_0 11 rfl
theorem dX11_film_21 : decode cX11_film 21 = .ok (.iconst 1, 1) := okd_at mX11_film_0 12 rfl
theorem dX11_film_22 : decode cX11_film 22 = .ok (.aload_n 0, 1) := okd_at mX11_film_0 13 rfl
theorem dX11_film_23 : decode cX11_film 23 = .ok (.getfield 19, 3) := okd_at mX11_film_0 14 rfl
theorem dX11_film_26 : decode cX11_film 26 = .ok (.getfield 107, 3) := okd_at mX11_film_0 15 rfl
theorem dX11_film_29 : decode cX11_film 29 = .ok (.invokevirtual 255, 3) := okd_at mX11_film_0 16 rfl
theorem dX11_film_32 : decode cX11_film 32 = .ok (.iconst 0, 1) := okd_at mX11_film_0 17 rfl
theorem dX11_film_33 : decode cX11_film 33 = .ok (.istore_n 3, 1) := okd_at mX11_film_0 18 rfl
theorem dX11_film_34 : decode cX11_film 34 = .ok (.iload_n 3, 1) := okd_at mX11_film_0 19 rfl
theorem dX11_film_35 : decode cX11_film 35 = .ok (.aload_n 0, 1) := okd_at mX11_film_0 20 rfl
theorem dX11_film_36 : decode cX11_film 36 = .ok (.getfield 19, 3) := okd_at mX11_film_0 21 rfl
theorem dX11_film_39 : decode cX11_film 39 = .ok (.getfield 107, 3) := okd_at mX11_film_0 22 rfl
theorem dX11_film_42 : decode cX11_film 42 = .ok (.if_icmp .ge 25, 3) := okd_at mX11_film_0 23 rfl
theorem dX11_film_45 : decode cX11_film 45 = .ok (.aload_n 2, 1) := okd_at mX11_film_0 24 rfl
theorem dX11_film_46 : decode cX11_film 46 = .ok (.iload_n 3, 1) := okd_at mX11_film_0 25 rfl
theorem dX11_film_47 : decode cX11_film 47 = .ok (.aload_n 0, 1) := okd_at mX11_film_0 26 rfl
theorem dX11_film_48 : decode cX11_film 48 = .ok (.getfield 51, 3) := okd_at mX11_film_0 27 rfl
theorem dX11_film_51 : decode cX11_film 51 = .ok (.getfield 259, 3) := okd_at mX11_film_0 28 rfl
theorem dX11_film_54 : decode cX11_film 54 = .ok (.iload_n 3, 1) := okd_at mX11_film_0 29 rfl
theorem dX11_film_55 : decode cX11_film 55 = .ok (.invokestatic 138, 3) := okd_at mX11_film_0 30 rfl
theorem dX11_film_58 : decode cX11_film 58 = .ok (.invokevirtual 262, 3) := okd_at mX11_film_0 31 rfl
theorem dX11_film_61 : decode cX11_film 61 = .ok (.iinc 3 1, 3) := okd_at mX11_film_0 32 rfl
theorem dX11_film_64 : decode cX11_film 64 = .ok (.goto (-30), 3) := okd_at mX11_film_0 33 rfl
theorem dX11_film_67 : decode cX11_film 67 = .ok (.aload_n 0, 1) := okd_at mX11_film_0 34 rfl
theorem dX11_film_68 : decode cX11_film 68 = .ok (.getfield 51, 3) := okd_at mX11_film_0 35 rfl
theorem dX11_film_71 : decode cX11_film 71 = .ok (.getfield 190, 3) := okd_at mX11_film_0 36 rfl
theorem dX11_film_74 : decode cX11_film 74 = .ok (.ireturn, 1) := okd_at mX11_film_0 37 rfl
def lmX11_firstOtherwise_0 : List (Nat × Instr × Nat) := [(0, .iconst 0, 1), (1, .istore_n 2, 1), (2, .iload_n 2, 1), (3, .aload_n 0, 1), (4, .getfield 19, 3), (7, .getfield 107, 3), (10, .if_icmp .ge 30, 3), (13, .aload_n 1, 1), (14, .iload_n 2, 1), (15, .invokevirtual 317, 3), (18, .aload_n 0, 1), (19, .getfield 51, 3), (22, .getfield 259, 3), (25, .iload_n 2, 1), (26, .invokestatic 138, 3), (29, .if_icmp .eq 5, 3), (32, .iload_n 2, 1), (33, .ireturn, 1), (34, .iinc 2 1, 3), (37, .goto (-35), 3), (40, .iconst (-1), 1), (41, .ireturn, 1)]
theorem mX11_firstOtherwise_0 : okd cX11_firstOtherwise lmX11_firstOtherwise_0 = true := by decide +kernel
theorem dX11_firstOtherwise_0 : decode cX11_firstOtherwise 0 = .ok (.iconst 0, 1) := okd_at mX11_firstOtherwise_0 0 rfl
theorem dX11_firstOtherwise_1 : decode cX11_firstOtherwise 1 = .ok (.istore_n 2, 1) := okd_at mX11_firstOtherwise_0 1 rfl
theorem dX11_firstOtherwise_2 : decode cX11_firstOtherwise 2 = .ok (.iload_n 2, 1) := okd_at mX11_firstOtherwise_0 2 rfl
theorem dX11_firstOtherwise_3 : decode cX11_firstOtherwise 3 = .ok (.aload_n 0, 1) := okd_at mX11_firstOtherwise_0 3 rfl
theorem dX11_firstOtherwise_4 : decode cX11_firstOtherwise 4 = .ok (.getfield 19, 3) := okd_at mX11_firstOtherwise_0 4 rfl
theorem dX11_firstOtherwise_7 : decode cX11_firstOtherwise 7 = .ok (.getfield 107, 3) := okd_at mX11_firstOtherwise_0 5 rfl
theorem dX11_firstOtherwise_10 : decode cX11_firstOtherwise 10 = .ok (.if_icmp .ge 30, 3) := okd_at mX11_firstOtherwise_0 6 rfl
theorem dX11_firstOtherwise_13 : decode cX11_firstOtherwise 13 = .ok (.aload_n 1, 1) := okd_at mX11_firstOtherwise_0 7 rfl
theorem dX11_firstOtherwise_14 : decode cX11_firstOtherwise 14 = .ok (.iload_n 2, 1) := okd_at mX11_firstOtherwise_0 8 rfl
theorem dX11_firstOtherwise_15 : decode cX11_firstOtherwise 15 = .ok (.invokevirtual 317, 3) := okd_at mX11_firstOtherwise_0 9 rfl
theorem dX11_firstOtherwise_18 : decode cX11_firstOtherwise 18 = .ok (.aload_n 0, 1) := okd_at mX11_firstOtherwise_0 10 rfl
theorem dX11_firstOtherwise_19 : decode cX11_firstOtherwise 19 = .ok (.getfield 51, 3) := okd_at mX11_firstOtherwise_0 11 rfl
theorem dX11_firstOtherwise_22 : decode cX11_firstOtherwise 22 = .ok (.getfield 259, 3) := okd_at mX11_firstOtherwise_0 12 rfl
theorem dX11_firstOtherwise_25 : decode cX11_firstOtherwise 25 = .ok (.iload_n 2, 1) := okd_at mX11_firstOtherwise_0 13 rfl
theorem dX11_firstOtherwise_26 : decode cX11_firstOtherwise 26 = .ok (.invokestatic 138, 3) := okd_at mX11_firstOtherwise_0 14 rfl
theorem dX11_firstOtherwise_29 : decode cX11_firstOtherwise 29 = .ok (.if_icmp .eq 5, 3) := okd_at mX11_firstOtherwise_0 15 rfl
theorem dX11_firstOtherwise_32 : decode cX11_firstOtherwise 32 = .ok (.iload_n 2, 1) := okd_at mX11_firstOtherwise_0 16 rfl
theorem dX11_firstOtherwise_33 : decode cX11_firstOtherwise 33 = .ok (.ireturn, 1) := okd_at mX11_firstOtherwise_0 17 rfl
theorem dX11_firstOtherwise_34 : decode cX11_firstOtherwise 34 = .ok (.iinc 2 1, 3) := okd_at mX11_firstOtherwise_0 18 rfl
theorem dX11_firstOtherwise_37 : decode cX11_firstOtherwise 37 = .ok (.goto (-35), 3) := okd_at mX11_firstOtherwise_0 19 rfl
theorem dX11_firstOtherwise_40 : decode cX11_firstOtherwise 40 = .ok (.iconst (-1), 1) := okd_at mX11_firstOtherwise_0 20 rfl
theorem dX11_firstOtherwise_41 : decode cX11_firstOtherwise 41 = .ok (.ireturn, 1) := okd_at mX11_firstOtherwise_0 21 rfl
def lmX11_force_0 : List (Nat × Instr × Nat) := [(0, .iload_n 1, 1), (1, .iconst 0, 1), (2, .aload_n 0, 1), (3, .getfield 26, 3), (6, .getfield 112, 3), (9, .iconst 1, 1), (10, .isub, 1), (11, .invokestatic 119, 3), (14, .ifCond .ne 6, 3), (17, .bipush (-2), 2), (19, .ireturn, 1), (20, .aload_n 0, 1), (21, .getfield 26, 3), (24, .getfield 113, 3), (27, .istore_n 2, 1), (28, .aload_n 0, 1), (29, .getfield 26, 3), (32, .iload_n 1, 1), (33, .putfield 113, 3), (36, .iload_n 2, 1), (37, .ireturn, 1)]
theorem mX11_force_0 : okd cX11_force lmX11_force_0 = true := by decide +kernel
theorem dX11_force_0 : decode cX11_force 0 = .ok (.iload_n 1, 1) := okd_at mX11_force_0 0 rfl
theorem dX11_force_1 : decode cX11_force 1 = .ok (.iconst 0, 1) := okd_at mX11_force_0 1 rfl
theorem dX11_force_2 : decode cX11_force 2 = .ok (.aload_n 0, 1) := okd_at mX11_force_0 2 rfl
theorem dX11_force_3 : decode cX11_force 3 = .ok (.getfield 26, 3) := okd_at mX11_force_0 3 rfl
theorem dX11_force_6 : decode cX11_force 6 = .ok (.getfield 112, 3) := okd_at mX11_force_0 4 rfl
theorem dX11_force_9 : decode cX11_force 9 = .ok (.iconst 1, 1) := okd_at mX11_force_0 5 rfl
theorem dX11_force_10 : decode cX11_force 10 = .ok (.isub, 1) := okd_at mX11_force_0 6 rfl
theorem dX11_force_11 : decode cX11_force 11 = .ok (.invokestatic 119, 3) := okd_at mX11_force_0 7 rfl
theorem dX11_force_14 : decode cX11_force 14 = .ok (.ifCond .ne 6, 3) := okd_at mX11_force_0 8 rfl
theorem dX11_force_17 : decode cX11_force 17 = .ok (.bipush (-2), 2) := okd_at mX11_force_0 9 rfl
theorem dX11_force_19 : decode cX11_force 19 = .ok (.ireturn, 1) := okd_at mX11_force_0 10 rfl
theorem dX11_force_20 : decode cX11_force 20 = .ok (.aload_n 0, 1) := okd_at mX11_force_0 11 rfl
theorem dX11_force_21 : decode cX11_force 21 = .ok (.getfield 26, 3) := okd_at mX11_force_0 12 rfl
theorem dX11_force_24 : decode cX11_force 24 = .ok (.getfield 113, 3) := okd_at mX11_force_0 13 rfl
theorem dX11_force_27 : decode cX11_force 27 = .ok (.istore_n 2, 1) := okd_at mX11_force_0 14 rfl
theorem dX11_force_28 : decode cX11_force 28 = .ok (.aload_n 0, 1) := okd_at mX11_force_0 15 rfl
theorem dX11_force_29 : decode cX11_force 29 = .ok (.getfield 26, 3) := okd_at mX11_force_0 16 rfl
theorem dX11_force_32 : decode cX11_force 32 = .ok (.iload_n 1, 1) := okd_at mX11_force_0 17 rfl
theorem dX11_force_33 : decode cX11_force 33 = .ok (.putfield 113, 3) := okd_at mX11_force_0 18 rfl
theorem dX11_force_36 : decode cX11_force 36 = .ok (.iload_n 2, 1) := okd_at mX11_force_0 19 rfl
theorem dX11_force_37 : decode cX11_force 37 = .ok (.ireturn, 1) := okd_at mX11_force_0 20 rfl
def lmX11_has_0 : List (Nat × Instr × Nat) := [(0, .iload_n 0, 1), (1, .iload_n 1, 1), (2, .ishr, 1), (3, .iconst 1, 1), (4, .iand, 1), (5, .ifCond .eq 7, 3), (8, .iconst 1, 1), (9, .goto 4, 3), (12, .iconst 0, 1), (13, .ireturn, 1)]
theorem mX11_has_0 : okd cX11_has lmX11_has_0 = true := by decide +kernel
theorem dX11_has_0 : decode cX11_has 0 = .ok (.iload_n 0, 1) := okd_at mX11_has_0 0 rfl
theorem dX11_has_1 : decode cX11_has 1 = .ok (.iload_n 1, 1) := okd_at mX11_has_0 1 rfl
theorem dX11_has_2 : decode cX11_has 2 = .ok (.ishr, 1) := okd_at mX11_has_0 2 rfl
theorem dX11_has_3 : decode cX11_has 3 = .ok (.iconst 1, 1) := okd_at mX11_has_0 3 rfl
theorem dX11_has_4 : decode cX11_has 4 = .ok (.iand, 1) := okd_at mX11_has_0 4 rfl
theorem dX11_has_5 : decode cX11_has 5 = .ok (.ifCond .eq 7, 3) := okd_at mX11_has_0 5 rfl
theorem dX11_has_8 : decode cX11_has 8 = .ok (.iconst 1, 1) := okd_at mX11_has_0 6 rfl
theorem dX11_has_9 : decode cX11_has 9 = .ok (.goto 4, 3) := okd_at mX11_has_0 7 rfl
theorem dX11_has_12 : decode cX11_has 12 = .ok (.iconst 0, 1) := okd_at mX11_has_0 8 rfl
theorem dX11_has_13 : decode cX11_has 13 = .ok (.ireturn, 1) := okd_at mX11_has_0 9 rfl
def lmX11_image_0 : List (Nat × Instr × Nat) := [(0, .aload_n 0, 1), (1, .getfield 81, 3), (4, .aload_n 0, 1), (5, .getfield 10, 3), (8, .invokevirtual 280, 3), (11, .aload_n 0, 1), (12, .getfield 84, 3), (15, .aload_n 0, 1), (16, .getfield 19, 3), (19, .invokevirtual 283, 3), (22, .aload_n 0, 1), (23, .aload_n 0, 1), (24, .getfield 26, 3), (27, .getfield 113, 3), (30, .putfield 286, 3), (33, .aload_n 0, 1), (34, .iconst 1, 1), (35, .putfield 289, 3), (38, .aload_n 0, 1), (39, .getfield 19, 3), (42, .getfield 107, 3), (45, .ireturn, 1)]
theorem mX11_image_0 : okd cX11_image lmX11_image_0 = true := by decide +kernel
theorem dX11_image_0 : decode cX11_image 0 = .ok (.aload_n 0, 1) := okd_at mX11_image_0 0 rfl
theorem dX11_image_1 : decode cX11_image 1 = .ok (.getfield 81, 3) := okd_at mX11_image_0 1 rfl
theorem dX11_image_4 : decode cX11_image 4 = .ok (.aload_n 0, 1) := okd_at mX11_image_0 2 rfl
theorem dX11_image_5 : decode cX11_image 5 = .ok (.getfield 10, 3) := okd_at mX11_image_0 3 rfl
theorem dX11_image_8 : decode cX11_image 8 = .ok (.invokevirtual 280, 3) := okd_at mX11_image_0 4 rfl
theorem dX11_image_11 : decode cX11_image 11 = .ok (.aload_n 0, 1) := okd_at mX11_image_0 5 rfl
theorem dX11_image_12 : decode cX11_image 12 = .ok (.getfield 84, 3) := okd_at mX11_image_0 6 rfl
theorem dX11_image_15 : decode cX11_image 15 = .ok (.aload_n 0, 1) := okd_at mX11_image_0 7 rfl
theorem dX11_image_16 : decode cX11_image 16 = .ok (.getfield 19, 3) := okd_at mX11_image_0 8 rfl
theorem dX11_image_19 : decode cX11_image 19 = .ok (.invokevirtual 283, 3) := okd_at mX11_image_0 9 rfl
theorem dX11_image_22 : decode cX11_image 22 = .ok (.aload_n 0, 1) := okd_at mX11_image_0 10 rfl
theorem dX11_image_23 : decode cX11_image 23 = .ok (.aload_n 0, 1) := okd_at mX11_image_0 11 rfl
theorem dX11_image_24 : decode cX11_image 24 = .ok (.getfield 26, 3) := okd_at mX11_image_0 12 rfl
theorem dX11_image_27 : decode cX11_image 27 = .ok (.getfield 113, 3) := okd_at mX11_image_0 13 rfl
theorem dX11_image_30 : decode cX11_image 30 = .ok (.putfield 286, 3) := okd_at mX11_image_0 14 rfl
theorem dX11_image_33 : decode cX11_image 33 = .ok (.aload_n 0, 1) := okd_at mX11_image_0 15 rfl
theorem dX11_image_34 : decode cX11_image 34 = .ok (.iconst 1, 1) := okd_at mX11_image_0 16 rfl
theorem dX11_image_35 : decode cX11_image 35 = .ok (.putfield 289, 3) := okd_at mX11_image_0 17 rfl
theorem dX11_image_38 : decode cX11_image 38 = .ok (.aload_n 0, 1) := okd_at mX11_image_0 18 rfl
theorem dX11_image_39 : decode cX11_image 39 = .ok (.getfield 19, 3) := okd_at mX11_image_0 19 rfl
theorem dX11_image_42 : decode cX11_image 42 = .ok (.getfield 107, 3) := okd_at mX11_image_0 20 rfl
theorem dX11_image_45 : decode cX11_image 45 = .ok (.ireturn, 1) := okd_at mX11_image_0 21 rfl
def lmX11_isByte_0 : List (Nat × Instr × Nat) := [(0, .iload_n 0, 1), (1, .iconst 0, 1), (2, .sipush 255, 3), (5, .invokestatic 119, 3), (8, .ireturn, 1)]
theorem mX11_isByte_0 : okd cX11_isByte lmX11_isByte_0 = true := by decide +kernel
theorem dX11_isByte_0 : decode cX11_isByte 0 = .ok (.iload_n 0, 1) := okd_at mX11_isByte_0 0 rfl
theorem dX11_isByte_1 : decode cX11_isByte 1 = .ok (.iconst 0, 1) := okd_at mX11_isByte_0 1 rfl
theorem dX11_isByte_2 : decode cX11_isByte 2 = .ok (.sipush 255, 3) := okd_at mX11_isByte_0 2 rfl
theorem dX11_isByte_5 : decode cX11_isByte 5 = .ok (.invokestatic 119, 3) := okd_at mX11_isByte_0 3 rfl
theorem dX11_isByte_8 : decode cX11_isByte 8 = .ok (.ireturn, 1) := okd_at mX11_isByte_0 4 rfl
def lmX11_isChild_0 : List (Nat × Instr × Nat) := [(0, .iload_n 1, 1), (1, .iconst 0, 1), (2, .aload_n 0, 1), (3, .getfield 10, 3), (6, .getfield 111, 3), (9, .iconst 1, 1), (10, .isub, 1), (11, .invokestatic 119, 3), (14, .ireturn, 1)]
theorem mX11_isChild_0 : okd cX11_isChild lmX11_isChild_0 = true := by decide +kernel
theorem dX11_isChild_0 : decode cX11_isChild 0 = .ok (.iload_n 1, 1) := okd_at mX11_isChild_0 0 rfl
theorem dX11_isChild_1 : decode cX11_isChild 1 = .ok (.iconst 0, 1) := okd_at mX11_isChild_0 1 rfl
theorem dX11_isChild_2 : decode cX11_isChild 2 = .ok (.aload_n 0, 1) := okd_at mX11_isChild_0 2 rfl
theorem dX11_isChild_3 : decode cX11_isChild 3 = .ok (.getfield 10, 3) := okd_at mX11_isChild_0 3 rfl
theorem dX11_isChild_6 : decode cX11_isChild 6 = .ok (.getfield 111, 3) := okd_at mX11_isChild_0 4 rfl
theorem dX11_isChild_9 : decode cX11_isChild 9 = .ok (.iconst 1, 1) := okd_at mX11_isChild_0 5 rfl
theorem dX11_isChild_10 : decode cX11_isChild 10 = .ok (.isub, 1) := okd_at mX11_isChild_0 6 rfl
theorem dX11_isChild_11 : decode cX11_isChild 11 = .ok (.invokestatic 119, 3) := okd_at mX11_isChild_0 7 rfl
theorem dX11_isChild_14 : decode cX11_isChild 14 = .ok (.ireturn, 1) := okd_at mX11_isChild_0 8 rfl
def lmX11_isRace_0 : List (Nat × Instr × Nat) := [(0, .iload_n 1, 1), (1, .iconst 0, 1), (2, .aload_n 0, 1), (3, .getfield 19, 3), (6, .getfield 107, 3), (9, .iconst 1, 1), (10, .isub, 1), (11, .invokestatic 119, 3), (14, .ireturn, 1)]
theorem mX11_isRace_0 : okd cX11_isRace lmX11_isRace_0 = true := by decide +kernel
theorem dX11_isRace_0 : decode cX11_isRace 0 = .ok (.iload_n 1, 1) := okd_at mX11_isRace_0 0 rfl
theorem dX11_isRace_1 : decode cX11_isRace 1 = .ok (.iconst 0, 1) := okd_at mX11_isRace_0 1 rfl
theorem dX11_isRace_2 : decode cX11_isRace 2 = .ok (.aload_n 0, 1) := okd_at mX11_isRace_0 2 rfl
theorem dX11_isRace_3 : decode cX11_isRace 3 = .ok (.getfield 19, 3) := okd_at mX11_isRace_0 3 rfl
theorem dX11_isRace_6 : decode cX11_isRace 6 = .ok (.getfield 107, 3) := okd_at mX11_isRace_0 4 rfl
theorem dX11_isRace_9 : decode cX11_isRace 9 = .ok (.iconst 1, 1) := okd_at mX11_isRace_0 5 rfl
theorem dX11_isRace_10 : decode cX11_isRace 10 = .ok (.isub, 1) := okd_at mX11_isRace_0 6 rfl
theorem dX11_isRace_11 : decode cX11_isRace 11 = .ok (.invokestatic 119, 3) := okd_at mX11_isRace_0 7 rfl
theorem dX11_isRace_14 : decode cX11_isRace 14 = .ok (.ireturn, 1) := okd_at mX11_isRace_0 8 rfl
def lmX11_judge_0 : List (Nat × Instr × Nat) := [(0, .aload_n 0, 1), (1, .iload_n 1, 1), (2, .invokevirtual 223, 3), (5, .astore_n 2, 1), (6, .aload_n 0, 1), (7, .aload_n 2, 1), (8, .invokevirtual 227, 3), (11, .istore_n 3, 1), (12, .aload_n 2, 1), (13, .ifnull 7, 3), (16, .iload_n 3, 1), (17, .ifCond .eq 5, 3), (20, .iload_n 3, 1), (21, .ireturn, 1), (22, .aload_n 0, 1), (23, .getfield 51, 3), (26, .invokevirtual 178, 3), (29, .aload_n 0, 1), (30, .aload_n 2, 1), (31, .invokevirtual 231, 3), (34, .ireturn, 1)]
theorem mX11_judge_0 : okd cX11_judge lmX11_judge_0 = true := by decide +kernel
theorem dX11_judge_0 : decode cX11_judge 0 = .ok (.aload_n 0, 1) := okd_at mX11_judge_0 0 rfl
theorem dX11_judge_1 : decode cX11_judge 1 = .ok (.iload_n 1, 1) := okd_at mX11_judge_0 1 rfl
theorem dX11_judge_2 : decode cX11_judge 2 = .ok (.invokevirtual 223, 3) := okd_at mX11_judge_0 2 rfl
theorem dX11_judge_5 : decode cX11_judge 5 = .ok (.astore_n 2, 1) := okd_at mX11_judge_0 3 rfl
theorem dX11_judge_6 : decode cX11_judge 6 = .ok (.aload_n 0, 1) := okd_at mX11_judge_0 4 rfl
theorem dX11_judge_7 : decode cX11_judge 7 = .ok (.aload_n 2, 1) := okd_at mX11_judge_0 5 rfl
theorem dX11_judge_8 : decode cX11_judge 8 = .ok (.invokevirtual 227, 3) := okd_at mX11_judge_0 6 rfl
theorem dX11_judge_11 : decode cX11_judge 11 = .ok (.istore_n 3, 1) := okd_at mX11_judge_0 7 rfl
theorem dX11_judge_12 : decode cX11_judge 12 = .ok (.aload_n 2, 1) := okd_at mX11_judge_0 8 rfl
theorem dX11_judge_13 : decode cX11_judge 13 = .ok (.ifnull 7, 3) := okd_at mX11_judge_0 9 rfl
theorem dX11_judge_16 : decode cX11_judge 16 = .ok (.iload_n 3, 1) := okd_at mX11_judge_0 10 rfl
theorem dX11_judge_17 : decode cX11_judge 17 = .ok (.ifCond .eq 5, 3) := okd_at mX11_judge_0 11 rfl
theorem dX11_judge_20 : decode cX11_judge 20 = .ok (.iload_n 3, 1) := okd_at mX11_judge_0 12 rfl
theorem dX11_judge_21 : decode cX11_judge 21 = .ok (.ireturn, 1) := okd_at mX11_judge_0 13 rfl
theorem dX11_judge_22 : decode cX11_judge 22 = .ok (.aload_n 0, 1) := okd_at mX11_judge_0 14 rfl
theorem dX11_judge_23 : decode cX11_judge 23 = .ok (.getfield 51, 3) := okd_at mX11_judge_0 15 rfl
theorem dX11_judge_26 : decode cX11_judge 26 = .ok (.invokevirtual 178, 3) := okd_at mX11_judge_0 16 rfl
theorem dX11_judge_29 : decode cX11_judge 29 = .ok (.aload_n 0, 1) := okd_at mX11_judge_0 17 rfl
theorem dX11_judge_30 : decode cX11_judge 30 = .ok (.aload_n 2, 1) := okd_at mX11_judge_0 18 rfl
theorem dX11_judge_31 : decode cX11_judge 31 = .ok (.invokevirtual 231, 3) := okd_at mX11_judge_0 19 rfl
theorem dX11_judge_34 : decode cX11_judge 34 = .ok (.ireturn, 1) := okd_at mX11_judge_0 20 rfl
def lmX11_keepLuck_0 : List (Nat × Instr × Nat) := [(0, .aload_n 0, 1), (1, .getfield 10, 3), (4, .getfield 343, 3), (7, .aload_n 0, 1), (8, .getfield 77, 3), (11, .invokestatic 346, 3), (14, .return_, 1)]
theorem mX11_keepLuck_0 : okd cX11_keepLuck lmX11_keepLuck_0 = true := by decide +kernel
theorem dX11_keepLuck_0 : decode cX11_keepLuck 0 = .ok (.aload_n 0, 1) := okd_at mX11_keepLuck_0 0 rfl
theorem dX11_keepLuck_1 : decode cX11_keepLuck 1 = .ok (.getfield 10, 3) := okd_at mX11_keepLuck_0 1 rfl
theorem dX11_keepLuck_4 : decode cX11_keepLuck 4 = .ok (.getfield 343, 3) := okd_at mX11_keepLuck_0 2 rfl
theorem dX11_keepLuck_7 : decode cX11_keepLuck 7 = .ok (.aload_n 0, 1) := okd_at mX11_keepLuck_0 3 rfl
theorem dX11_keepLuck_8 : decode cX11_keepLuck 8 = .ok (.getfield 77, 3) := okd_at mX11_keepLuck_0 4 rfl
theorem dX11_keepLuck_11 : decode cX11_keepLuck 11 = .ok (.invokestatic 346, 3) := okd_at mX11_keepLuck_0 5 rfl
theorem dX11_keepLuck_14 : decode cX11_keepLuck 14 = .ok (.return_, 1) := okd_at mX11_keepLuck_0 6 rfl
def lmX11_kinds_0 : List (Nat × Instr × Nat) := [(0, .aload_n 0, 1), (1, .iload_n 1, 1), (2, .invokevirtual 223, 3), (5, .astore 4, 2), (7, .aload_n 0, 1), (8, .aload 4, 2), (10, .invokevirtual 227, 3), (13, .istore 5, 2), (15, .aload 4, 2), (17, .ifnull 8, 3), (20, .iload 5, 2), (22, .ifCond .eq 6, 3), (25, .iload 5, 2), (27, .ireturn, 1), (28, .aload_n 0, 1), (29, .iload_n 2, 1), (30, .invokevirtual 145, 3), (33, .ifCond .ne 6, 3), (36, .bipush (-6), 2), (38, .ireturn, 1), (39, .iload_n 3, 1), (40, .tableswitch 83 0 2 #[28, 46, 65], 28), (68, .aload_n 0, 1), (69, .aload 4, 2), (71, .aload_n 0, 1), (72, .getfield 19, 3), (75, .getfield 234, 3), (78, .iload_n 2, 1), (79, .iconst 5, 1), (80, .invokevirtual 239, 3), (83, .goto 43, 3), (86, .aload_n 0, 1), (87, .aload 4, 2), (89, .aload_n 0, 1), (90, .getfield 19, 3), (93, .getfield 243, 3), (96, .iload_n 2, 1), (97, .bipush 9, 2), (99, .invokevirtual 239, 3), (102, .goto 24, 3), (105, .aload_n 0, 1), (106, .aload 4, 2), (108, .aload_n 0, 1), (109, .getfield 19, 3), (112, .getfield 161, 3), (115, .iload_n 2, 1), (116, .iconst 3, 1), (117, .invokevirtual 239, 3), (120, .goto 6, 3), (123, .bipush (-7), 2), (125, .ireturn, 1), (126, .aload_n 0, 1), (127, .getfield 246, 3), (130, .ireturn, 1)]
theorem mX11_kinds_0 : okd cX11_kinds lmX11_kinds_0 = true := by decide +kernel
theorem dX11_kinds_0 : decode cX11_kinds 0 = .ok (.aload_n 0, 1) := okd_at mX11_kinds_0 0 rfl
theorem dX11_kinds_1 : decode cX11_kinds 1 = .ok (.iload_n 1, 1) := okd_at mX11_kinds_0 1 rfl
theorem dX11_kinds_2 : decode cX11_kinds 2 = .ok (.invokevirtual 223, 3) := okd_at mX11_kinds_0 2 rfl
theorem dX11_kinds_5 : decode cX11_kinds 5 = .ok (.astore 4, 2) := okd_at mX11_kinds_0 3 rfl
theorem dX11_kinds_7 : decode cX11_kinds 7 = .ok (.aload_n 0, 1) := okd_at mX11_kinds_0 4 rfl
theorem dX11_kinds_8 : decode cX11_kinds 8 = .ok (.aload 4, 2) := okd_at mX11_kinds_0 5 rfl
theorem dX11_kinds_10 : decode cX11_kinds 10 = .ok (.invokevirtual 227, 3) := okd_at mX11_kinds_0 6 rfl
theorem dX11_kinds_13 : decode cX11_kinds 13 = .ok (.istore 5, 2) := okd_at mX11_kinds_0 7 rfl
theorem dX11_kinds_15 : decode cX11_kinds 15 = .ok (.aload 4, 2) := okd_at mX11_kinds_0 8 rfl
theorem dX11_kinds_17 : decode cX11_kinds 17 = .ok (.ifnull 8, 3) := okd_at mX11_kinds_0 9 rfl
theorem dX11_kinds_20 : decode cX11_kinds 20 = .ok (.iload 5, 2) := okd_at mX11_kinds_0 10 rfl
theorem dX11_kinds_22 : decode cX11_kinds 22 = .ok (.ifCond .eq 6, 3) := okd_at mX11_kinds_0 11 rfl
theorem dX11_kinds_25 : decode cX11_kinds 25 = .ok (.iload 5, 2) := okd_at mX11_kinds_0 12 rfl
theorem dX11_kinds_27 : decode cX11_kinds 27 = .ok (.ireturn, 1) := okd_at mX11_kinds_0 13 rfl
theorem dX11_kinds_28 : decode cX11_kinds 28 = .ok (.aload_n 0, 1) := okd_at mX11_kinds_0 14 rfl
theorem dX11_kinds_29 : decode cX11_kinds 29 = .ok (.iload_n 2, 1) := okd_at mX11_kinds_0 15 rfl
theorem dX11_kinds_30 : decode cX11_kinds 30 = .ok (.invokevirtual 145, 3) := okd_at mX11_kinds_0 16 rfl
theorem dX11_kinds_33 : decode cX11_kinds 33 = .ok (.ifCond .ne 6, 3) := okd_at mX11_kinds_0 17 rfl
theorem dX11_kinds_36 : decode cX11_kinds 36 = .ok (.bipush (-6), 2) := okd_at mX11_kinds_0 18 rfl
theorem dX11_kinds_38 : decode cX11_kinds 38 = .ok (.ireturn, 1) := okd_at mX11_kinds_0 19 rfl
theorem dX11_kinds_39 : decode cX11_kinds 39 = .ok (.iload_n 3, 1) := okd_at mX11_kinds_0 20 rfl
theorem dX11_kinds_40 : decode cX11_kinds 40 = .ok (.tableswitch 83 0 2 #[28, 46, 65], 28) := okd_at mX11_kinds_0 21 rfl
theorem dX11_kinds_68 : decode cX11_kinds 68 = .ok (.aload_n 0, 1) := okd_at mX11_kinds_0 22 rfl
theorem dX11_kinds_69 : decode cX11_kinds 69 = .ok (.aload 4, 2) := okd_at mX11_kinds_0 23 rfl
theorem dX11_kinds_71 : decode cX11_kinds 71 = .ok (.aload_n 0, 1) := okd_at mX11_kinds_0 24 rfl
theorem dX11_kinds_72 : decode cX11_kinds 72 = .ok (.getfield 19, 3) := okd_at mX11_kinds_0 25 rfl
theorem dX11_kinds_75 : decode cX11_kinds 75 = .ok (.getfield 234, 3) := okd_at mX11_kinds_0 26 rfl
theorem dX11_kinds_78 : decode cX11_kinds 78 = .ok (.iload_n 2, 1) := okd_at mX11_kinds_0 27 rfl
theorem dX11_kinds_79 : decode cX11_kinds 79 = .ok (.iconst 5, 1) := okd_at mX11_kinds_0 28 rfl
theorem dX11_kinds_80 : decode cX11_kinds 80 = .ok (.invokevirtual 239, 3) := okd_at mX11_kinds_0 29 rfl
theorem dX11_kinds_83 : decode cX11_kinds 83 = .ok (.goto 43, 3) := okd_at mX11_kinds_0 30 rfl
theorem dX11_kinds_86 : decode cX11_kinds 86 = .ok (.aload_n 0, 1) := okd_at mX11_kinds_0 31 rfl
theorem dX11_kinds_87 : decode cX11_kinds 87 = .ok (.aload 4, 2) := okd_at mX11_kinds_0 32 rfl
theorem dX11_kinds_89 : decode cX11_kinds 89 = .ok (.aload_n 0, 1) := okd_at mX11_kinds_0 33 rfl
theorem dX11_kinds_90 : decode cX11_kinds 90 = .ok (.getfield 19, 3) := okd_at mX11_kinds_0 34 rfl
theorem dX11_kinds_93 : decode cX11_kinds 93 = .ok (.getfield 243, 3) := okd_at mX11_kinds_0 35 rfl
theorem dX11_kinds_96 : decode cX11_kinds 96 = .ok (.iload_n 2, 1) := okd_at mX11_kinds_0 36 rfl
theorem dX11_kinds_97 : decode cX11_kinds 97 = .ok (.bipush 9, 2) := okd_at mX11_kinds_0 37 rfl
theorem dX11_kinds_99 : decode cX11_kinds 99 = .ok (.invokevirtual 239, 3) := okd_at mX11_kinds_0 38 rfl
theorem dX11_kinds_102 : decode cX11_kinds 102 = .ok (.goto 24, 3) := okd_at mX11_kinds_0 39 rfl
theorem dX11_kinds_105 : decode cX11_kinds 105 = .ok (.aload_n 0, 1) := okd_at mX11_kinds_0 40 rfl
theorem dX11_kinds_106 : decode cX11_kinds 106 = .ok (.aload 4, 2) := okd_at mX11_kinds_0 41 rfl
theorem dX11_kinds_108 : decode cX11_kinds 108 = .ok (.aload_n 0, 1) := okd_at mX11_kinds_0 42 rfl
theorem dX11_kinds_109 : decode cX11_kinds 109 = .ok (.getfield 19, 3) := okd_at mX11_kinds_0 43 rfl
theorem dX11_kinds_112 : decode cX11_kinds 112 = .ok (.getfield 161, 3) := okd_at mX11_kinds_0 44 rfl
theorem dX11_kinds_115 : decode cX11_kinds 115 = .ok (.iload_n 2, 1) := okd_at mX11_kinds_0 45 rfl
theorem dX11_kinds_116 : decode cX11_kinds 116 = .ok (.iconst 3, 1) := okd_at mX11_kinds_0 46 rfl
theorem dX11_kinds_117 : decode cX11_kinds 117 = .ok (.invokevirtual 239, 3) := okd_at mX11_kinds_0 47 rfl
theorem dX11_kinds_120 : decode cX11_kinds 120 = .ok (.goto 6, 3) := okd_at mX11_kinds_0 48 rfl
theorem dX11_kinds_123 : decode cX11_kinds 123 = .ok (.bipush (-7), 2) := okd_at mX11_kinds_0 49 rfl
theorem dX11_kinds_125 : decode cX11_kinds 125 = .ok (.ireturn, 1) := okd_at mX11_kinds_0 50 rfl
theorem dX11_kinds_126 : decode cX11_kinds 126 = .ok (.aload_n 0, 1) := okd_at mX11_kinds_0 51 rfl
theorem dX11_kinds_127 : decode cX11_kinds 127 = .ok (.getfield 246, 3) := okd_at mX11_kinds_0 52 rfl
theorem dX11_kinds_130 : decode cX11_kinds 130 = .ok (.ireturn, 1) := okd_at mX11_kinds_0 53 rfl
def lmX11_laws_0 : List (Nat × Instr × Nat) := [(0, .aload_n 0, 1), (1, .iload_n 1, 1), (2, .invokevirtual 223, 3), (5, .astore_n 2, 1), (6, .aload_n 0, 1), (7, .aload_n 2, 1), (8, .invokevirtual 227, 3), (11, .istore_n 3, 1), (12, .aload_n 2, 1), (13, .ifnull 7, 3), (16, .iload_n 3, 1), (17, .ifCond .eq 5, 3), (20, .iload_n 3, 1), (21, .ireturn, 1), (22, .aload_n 0, 1), (23, .getfield 26, 3), (26, .getfield 113, 3), (29, .istore 4, 2), (31, .iconst 0, 1), (32, .istore 5, 2), (34, .iconst 0, 1), (35, .istore 6, 2), (37, .iload 6, 2), (39, .aload_n 0, 1), (40, .getfield 26, 3), (43, .getfield 112, 3), (46, .if_icmp .ge 47, 3), (49, .aload_n 0, 1), (50, .getfield 26, 3), (53, .iload 6, 2), (55, .putfield 113, 3), (58, .aload_n 0, 1), (59, .getfield 51, 3), (62, .invokevirtual 178, 3), (65, .iload 5, 2), (67, .aload_n 0, 1), (68, .aload_n 2, 1), (69, .invokevirtual 231, 3), (72, .iconst (-1), 1), (73, .if_icmp .ne 10, 3), (76, .iconst 1, 1), (77, .iload 6, 2), (79, .ishl, 1), (80, .goto 4, 3), (83, .iconst 0, 1), (84, .ior, 1), (85, .istore 5, 2), (87, .iinc 6 1, 3), (90, .goto (-53), 3), (93, .aload_n 0, 1), (94, .getfield 26, 3), (97, .iload 4, 2), (99, .putfield 113, 3), (102, .iload 5, 2), (104, .ireturn, 1)]
theorem mX11_laws_0 : okd cX11_laws lmX11_laws_0 = true := by decide +kernel
theorem dX11_laws_0 : decode cX11_laws 0 = .ok (.aload_n 0, 1) := okd_at mX11_laws_0 0 rfl
theorem dX11_laws_1 : decode cX11_laws 1 = .ok (.iload_n 1, 1) := okd_at mX11_laws_0 1 rfl
theorem dX11_laws_2 : decode cX11_laws 2 = .ok (.invokevirtual 223, 3) := okd_at mX11_laws_0 2 rfl
theorem dX11_laws_5 : decode cX11_laws 5 = .ok (.astore_n 2, 1) := okd_at mX11_laws_0 3 rfl
theorem dX11_laws_6 : decode cX11_laws 6 = .ok (.aload_n 0, 1) := okd_at mX11_laws_0 4 rfl
theorem dX11_laws_7 : decode cX11_laws 7 = .ok (.aload_n 2, 1) := okd_at mX11_laws_0 5 rfl
theorem dX11_laws_8 : decode cX11_laws 8 = .ok (.invokevirtual 227, 3) := okd_at mX11_laws_0 6 rfl
theorem dX11_laws_11 : decode cX11_laws 11 = .ok (.istore_n 3, 1) := okd_at mX11_laws_0 7 rfl
theorem dX11_laws_12 : decode cX11_laws 12 = .ok (.aload_n 2, 1) := okd_at mX11_laws_0 8 rfl
theorem dX11_laws_13 : decode cX11_laws 13 = .ok (.ifnull 7, 3) := okd_at mX11_laws_0 9 rfl
theorem dX11_laws_16 : decode cX11_laws 16 = .ok (.iload_n 3, 1) := okd_at mX11_laws_0 10 rfl
theorem dX11_laws_17 : decode cX11_laws 17 = .ok (.ifCond .eq 5, 3) := okd_at mX11_laws_0 11 rfl
theorem dX11_laws_20 : decode cX11_laws 20 = .ok (.iload_n 3, 1) := okd_at mX11_laws_0 12 rfl
theorem dX11_laws_21 : decode cX11_laws 21 = .ok (.ireturn, 1) := okd_at mX11_laws_0 13 rfl
theorem dX11_laws_22 : decode cX11_laws 22 = .ok (.aload_n 0, 1) := okd_at mX11_laws_0 14 rfl
theorem dX11_laws_23 : decode cX11_laws 23 = .ok (.getfield 26, 3) := okd_at mX11_laws_0 15 rfl
theorem dX11_laws_26 : decode cX11_laws 26 = .ok (.getfield 113, 3) := okd_at mX11_laws_0 16 rfl
theorem dX11_laws_29 : decode cX11_laws 29 = .ok (.istore 4, 2) := okd_at mX11_laws_0 17 rfl
theorem dX11_laws_31 : decode cX11_laws 31 = .ok (.iconst 0, 1) := okd_at mX11_laws_0 18 rfl
theorem dX11_laws_32 : decode cX11_laws 32 = .ok (.istore 5, 2) := okd_at mX11_laws_0 19 rfl
theorem dX11_laws_34 : decode cX11_laws 34 = .ok (.iconst 0, 1) := okd_at mX11_laws_0 20 rfl
theorem dX11_laws_35 : decode cX11_laws 35 = .ok (.istore 6, 2) := okd_at mX11_laws_0 21 rfl
theorem dX11_laws_37 : decode cX11_laws 37 = .ok (.iload 6, 2) := okd_at mX11_laws_0 22 rfl
theorem dX11_laws_39 : decode cX11_laws 39 = .ok (.aload_n 0, 1) := okd_at mX11_laws_0 23 rfl
theorem dX11_laws_40 : decode cX11_laws 40 = .ok (.getfield 26, 3) := okd_at mX11_laws_0 24 rfl
theorem dX11_laws_43 : decode cX11_laws 43 = .ok (.getfield 112, 3) := okd_at mX11_laws_0 25 rfl
theorem dX11_laws_46 : decode cX11_laws 46 = .ok (.if_icmp .ge 47, 3) := okd_at mX11_laws_0 26 rfl
theorem dX11_laws_49 : decode cX11_laws 49 = .ok (.aload_n 0, 1) := okd_at mX11_laws_0 27 rfl
theorem dX11_laws_50 : decode cX11_laws 50 = .ok (.getfield 26, 3) := okd_at mX11_laws_0 28 rfl
theorem dX11_laws_53 : decode cX11_laws 53 = .ok (.iload 6, 2) := okd_at mX11_laws_0 29 rfl
theorem dX11_laws_55 : decode cX11_laws 55 = .ok (.putfield 113, 3) := okd_at mX11_laws_0 30 rfl
theorem dX11_laws_58 : decode cX11_laws 58 = .ok (.aload_n 0, 1) := okd_at mX11_laws_0 31 rfl
theorem dX11_laws_59 : decode cX11_laws 59 = .ok (.getfield 51, 3) := okd_at mX11_laws_0 32 rfl
theorem dX11_laws_62 : decode cX11_laws 62 = .ok (.invokevirtual 178, 3) := okd_at mX11_laws_0 33 rfl
theorem dX11_laws_65 : decode cX11_laws 65 = .ok (.iload 5, 2) := okd_at mX11_laws_0 34 rfl
theorem dX11_laws_67 : decode cX11_laws 67 = .ok (.aload_n 0, 1) := okd_at mX11_laws_0 35 rfl
theorem dX11_laws_68 : decode cX11_laws 68 = .ok (.aload_n 2, 1) := okd_at mX11_laws_0 36 rfl
theorem dX11_laws_69 : decode cX11_laws 69 = .ok (.invokevirtual 231, 3) := okd_at mX11_laws_0 37 rfl
theorem dX11_laws_72 : decode cX11_laws 72 = .ok (.iconst (-1), 1) := okd_at mX11_laws_0 38 rfl
theorem dX11_laws_73 : decode cX11_laws 73 = .ok (.if_icmp .ne 10, 3) := okd_at mX11_laws_0 39 rfl
theorem dX11_laws_76 : decode cX11_laws 76 = .ok (.iconst 1, 1) := okd_at mX11_laws_0 40 rfl
theorem dX11_laws_77 : decode cX11_laws 77 = .ok (.iload 6, 2) := okd_at mX11_laws_0 41 rfl
theorem dX11_laws_79 : decode cX11_laws 79 = .ok (.ishl, 1) := okd_at mX11_laws_0 42 rfl
theorem dX11_laws_80 : decode cX11_laws 80 = .ok (.goto 4, 3) := okd_at mX11_laws_0 43 rfl
theorem dX11_laws_83 : decode cX11_laws 83 = .ok (.iconst 0, 1) := okd_at mX11_laws_0 44 rfl
theorem dX11_laws_84 : decode cX11_laws 84 = .ok (.ior, 1) := okd_at mX11_laws_0 45 rfl
theorem dX11_laws_85 : decode cX11_laws 85 = .ok (.istore 5, 2) := okd_at mX11_laws_0 46 rfl
theorem dX11_laws_87 : decode cX11_laws 87 = .ok (.iinc 6 1, 3) := okd_at mX11_laws_0 47 rfl
theorem dX11_laws_90 : decode cX11_laws 90 = .ok (.goto (-53), 3) := okd_at mX11_laws_0 48 rfl
theorem dX11_laws_93 : decode cX11_laws 93 = .ok (.aload_n 0, 1) := okd_at mX11_laws_0 49 rfl
theorem dX11_laws_94 : decode cX11_laws 94 = .ok (.getfield 26, 3) := okd_at mX11_laws_0 50 rfl
theorem dX11_laws_97 : decode cX11_laws 97 = .ok (.iload 4, 2) := okd_at mX11_laws_0 51 rfl
theorem dX11_laws_99 : decode cX11_laws 99 = .ok (.putfield 113, 3) := okd_at mX11_laws_0 52 rfl
theorem dX11_laws_102 : decode cX11_laws 102 = .ok (.iload 5, 2) := okd_at mX11_laws_0 53 rfl
theorem dX11_laws_104 : decode cX11_laws 104 = .ok (.ireturn, 1) := okd_at mX11_laws_0 54 rfl
def lmX11_let_0 : List (Nat × Instr × Nat) := [(0, .iload_n 1, 1), (1, .iconst 0, 1), (2, .iconst 2, 1), (3, .invokestatic 119, 3), (6, .ifCond .eq 12, 3), (9, .aload_n 0, 1), (10, .iload_n 1, 1), (11, .iconst 0, 1), (12, .invokevirtual 195, 3), (15, .goto 6, 3), (18, .sipush (-1000), 3), (21, .ireturn, 1)]
theorem mX11_let_0 : okd cX11_let lmX11_let_0 = true := by decide +kernel
theorem dX11_let_0 : decode cX11_let 0 = .ok (.iload_n 1, 1) := okd_at mX11_let_0 0 rfl
theorem dX11_let_1 : decode cX11_let 1 = .ok (.iconst 0, 1) := okd_at mX11_let_0 1 rfl
theorem dX11_let_2 : decode cX11_let 2 = .ok (.iconst 2, 1) := okd_at mX11_let_0 2 rfl
theorem dX11_let_3 : decode cX11_let 3 = .ok (.invokestatic 119, 3) := okd_at mX11_let_0 3 rfl
theorem dX11_let_6 : decode cX11_let 6 = .ok (.ifCond .eq 12, 3) := okd_at mX11_let_0 4 rfl
theorem dX11_let_9 : decode cX11_let 9 = .ok (.aload_n 0, 1) := okd_at mX11_let_0 5 rfl
theorem dX11_let_10 : decode cX11_let 10 = .ok (.iload_n 1, 1) := okd_at mX11_let_0 6 rfl
theorem dX11_let_11 : decode cX11_let 11 = .ok (.iconst 0, 1) := okd_at mX11_let_0 7 rfl
theorem dX11_let_12 : decode cX11_let 12 = .ok (.invokevirtual 195, 3) := okd_at mX11_let_0 8 rfl
theorem dX11_let_15 : decode cX11_let 15 = .ok (.goto 6, 3) := okd_at mX11_let_0 9 rfl
theorem dX11_let_18 : decode cX11_let 18 = .ok (.sipush (-1000), 3) := okd_at mX11_let_0 10 rfl
theorem dX11_let_21 : decode cX11_let 21 = .ok (.ireturn, 1) := okd_at mX11_let_0 11 rfl
def lmX11_needs_0 : List (Nat × Instr × Nat) := [(0, .aload_n 0, 1), (1, .iload_n 1, 1), (2, .invokevirtual 126, 3), (5, .ifCond .ne 6, 3), (8, .bipush (-5), 2), (10, .ireturn, 1), (11, .iload_n 2, 1), (12, .iconst 0, 1), (13, .bipush 6, 2), (15, .invokestatic 119, 3), (18, .ifCond .ne 6, 3), (21, .bipush (-7), 2), (23, .ireturn, 1), (24, .aload_n 0, 1), (25, .getfield 10, 3), (28, .getfield 220, 3), (31, .iload_n 1, 1), (32, .invokestatic 138, 3), (35, .istore_n 3, 1), (36, .iconst (-1), 1), (37, .istore 4, 2), (39, .iconst 0, 1), (40, .istore 5, 2), (42, .iload 5, 2), (44, .bipush 99, 2), (46, .if_icmp .gt 54, 3), (49, .iload 4, 2), (51, .iconst (-1), 1), (52, .if_icmp .ne 48, 3), (55, .aload_n 0, 1), (56, .getfield 10, 3), (59, .getfield 220, 3), (62, .iload_n 1, 1), (63, .iload 5, 2), (65, .invokestatic 216, 3), (68, .aload_n 0, 1), (69, .getfield 51, 3), (72, .invokevirtual 178, 3), (75, .aload_n 0, 1), (76, .getfield 51, 3), (79, .getfield 192, 3), (82, .iload_n 1, 1), (83, .invokestatic 138, 3), (86, .iload_n 2, 1), (87, .if_icmp .lt 7, 3), (90, .iload 5, 2), (92, .istore 4, 2), (94, .iinc 5 1, 3), (97, .goto (-55), 3), (100, .aload_n 0, 1), (101, .getfield 10, 3), (104, .getfield 220, 3), (107, .iload_n 1, 1), (108, .iload_n 3, 1), (109, .invokestatic 216, 3), (112, .iload 4, 2), (114, .ireturn, 1)]
theorem mX11_needs_0 : okd cX11_needs lmX11_needs_0 = true := by decide +kernel
theorem dX11_needs_0 : decode cX11_needs 0 = .ok (.aload_n 0, 1) := okd_at mX11_needs_0 0 rfl
theorem dX11_needs_1 : decode cX11_needs 1 = .ok (.iload_n 1, 1) := okd_at mX11_needs_0 1 rfl
theorem dX11_needs_2 : decode cX11_needs 2 = .ok (.invokevirtual 126, 3) := okd_at mX11_needs_0 2 rfl
theorem dX11_needs_5 : decode cX11_needs 5 = .ok (.ifCond .ne 6, 3) := okd_at mX11_needs_0 3 rfl
theorem dX11_needs_8 : decode cX11_needs 8 = .ok (.bipush (-5), 2) := okd_at mX11_needs_0 4 rfl
theorem dX11_needs_10 : decode cX11_needs 10 = .ok (.ireturn, 1) := okd_at mX11_needs_0 5 rfl
theorem dX11_needs_11 : decode cX11_needs 11 = .ok (.iload_n 2, 1) := okd_at mX11_needs_0 6 rfl
theorem dX11_needs_12 : decode cX11_needs 12 = .ok (.iconst 0, 1) := okd_at mX11_needs_0 7 rfl
theorem dX11_needs_13 : decode cX11_needs 13 = .ok (.bipush 6, 2) := okd_at mX11_needs_0 8 rfl
theorem dX11_needs_15 : decode cX11_needs 15 = .ok (.invokestatic 119, 3) := okd_at mX11_needs_0 9 rfl
theorem dX11_needs_18 : decode cX11_needs 18 = .ok (.ifCond .ne 6, 3) := okd_at mX11_needs_0 10 rfl
theorem dX11_needs_21 : decode cX11_needs 21 = .ok (.bipush (-7), 2) := okd_at mX11_needs_0 11 rfl
theorem dX11_needs_23 : decode cX11_needs 23 = .ok (.ireturn, 1) := okd_at mX11_needs_0 12 rfl
theorem dX11_needs_24 : decode cX11_needs 24 = .ok (.aload_n 0, 1) := okd_at mX11_needs_0 13 rfl
theorem dX11_needs_25 : decode cX11_needs 25 = .ok (.getfield 10, 3) := okd_at mX11_needs_0 14 rfl
theorem dX11_needs_28 : decode cX11_needs 28 = .ok (.getfield 220, 3) := okd_at mX11_needs_0 15 rfl
theorem dX11_needs_31 : decode cX11_needs 31 = .ok (.iload_n 1, 1) := okd_at mX11_needs_0 16 rfl
theorem dX11_needs_32 : decode cX11_needs 32 = .ok (.invokestatic 138, 3) := okd_at mX11_needs_0 17 rfl
theorem dX11_needs_35 : decode cX11_needs 35 = .ok (.istore_n 3, 1) := okd_at mX11_needs_0 18 rfl
theorem dX11_needs_36 : decode cX11_needs 36 = .ok (.iconst (-1), 1) := okd_at mX11_needs_0 19 rfl
theorem dX11_needs_37 : decode cX11_needs 37 = .ok (.istore 4, 2) := okd_at mX11_needs_0 20 rfl
theorem dX11_needs_39 : decode cX11_needs 39 = .ok (.iconst 0, 1) := okd_at mX11_needs_0 21 rfl
theorem dX11_needs_40 : decode cX11_needs 40 = .ok (.istore 5, 2) := okd_at mX11_needs_0 22 rfl
theorem dX11_needs_42 : decode cX11_needs 42 = .ok (.iload 5, 2) := okd_at mX11_needs_0 23 rfl
theorem dX11_needs_44 : decode cX11_needs 44 = .ok (.bipush 99, 2) := okd_at mX11_needs_0 24 rfl
theorem dX11_needs_46 : decode cX11_needs 46 = .ok (.if_icmp .gt 54, 3) := okd_at mX11_needs_0 25 rfl
theorem dX11_needs_49 : decode cX11_needs 49 = .ok (.iload 4, 2) := okd_at mX11_needs_0 26 rfl
theorem dX11_needs_51 : decode cX11_needs 51 = .ok (.iconst (-1), 1) := okd_at mX11_needs_0 27 rfl
theorem dX11_needs_52 : decode cX11_needs 52 = .ok (.if_icmp .ne 48, 3) := okd_at mX11_needs_0 28 rfl
theorem dX11_needs_55 : decode cX11_needs 55 = .ok (.aload_n 0, 1) := okd_at mX11_needs_0 29 rfl
theorem dX11_needs_56 : decode cX11_needs 56 = .ok (.getfield 10, 3) := okd_at mX11_needs_0 30 rfl
theorem dX11_needs_59 : decode cX11_needs 59 = .ok (.getfield 220, 3) := okd_at mX11_needs_0 31 rfl
theorem dX11_needs_62 : decode cX11_needs 62 = .ok (.iload_n 1, 1) := okd_at mX11_needs_0 32 rfl
theorem dX11_needs_63 : decode cX11_needs 63 = .ok (.iload 5, 2) := okd_at mX11_needs_0 33 rfl
theorem dX11_needs_65 : decode cX11_needs 65 = .ok (.invokestatic 216, 3) := okd_at mX11_needs_0 34 rfl
theorem dX11_needs_68 : decode cX11_needs 68 = .ok (.aload_n 0, 1) := okd_at mX11_needs_0 35 rfl
theorem dX11_needs_69 : decode cX11_needs 69 = .ok (.getfield 51, 3) := okd_at mX11_needs_0 36 rfl
theorem dX11_needs_72 : decode cX11_needs 72 = .ok (.invokevirtual 178, 3) := okd_at mX11_needs_0 37 rfl
theorem dX11_needs_75 : decode cX11_needs 75 = .ok (.aload_n 0, 1) := okd_at mX11_needs_0 38 rfl
theorem dX11_needs_76 : decode cX11_needs 76 = .ok (.getfield 51, 3) := okd_at mX11_needs_0 39 rfl
theorem dX11_needs_79 : decode cX11_needs 79 = .ok (.getfield 192, 3) := okd_at mX11_needs_0 40 rfl
theorem dX11_needs_82 : decode cX11_needs 82 = .ok (.iload_n 1, 1) := okd_at mX11_needs_0 41 rfl
theorem dX11_needs_83 : decode cX11_needs 83 = .ok (.invokestatic 138, 3) := okd_at mX11_needs_0 42 rfl
theorem dX11_needs_86 : decode cX11_needs 86 = .ok (.iload_n 2, 1) := okd_at mX11_needs_0 43 rfl
theorem dX11_needs_87 : decode cX11_needs 87 = .ok (.if_icmp .lt 7, 3) := okd_at mX11_needs_0 44 rfl
theorem dX11_needs_90 : decode cX11_needs 90 = .ok (.iload 5, 2) := okd_at mX11_needs_0 45 rfl
theorem dX11_needs_92 : decode cX11_needs 92 = .ok (.istore 4, 2) := okd_at mX11_needs_0 46 rfl
theorem dX11_needs_94 : decode cX11_needs 94 = .ok (.iinc 5 1, 3) := okd_at mX11_needs_0 47 rfl
theorem dX11_needs_97 : decode cX11_needs 97 = .ok (.goto (-55), 3) := okd_at mX11_needs_0 48 rfl
theorem dX11_needs_100 : decode cX11_needs 100 = .ok (.aload_n 0, 1) := okd_at mX11_needs_0 49 rfl
theorem dX11_needs_101 : decode cX11_needs 101 = .ok (.getfield 10, 3) := okd_at mX11_needs_0 50 rfl
theorem dX11_needs_104 : decode cX11_needs 104 = .ok (.getfield 220, 3) := okd_at mX11_needs_0 51 rfl
theorem dX11_needs_107 : decode cX11_needs 107 = .ok (.iload_n 1, 1) := okd_at mX11_needs_0 52 rfl
theorem dX11_needs_108 : decode cX11_needs 108 = .ok (.iload_n 3, 1) := okd_at mX11_needs_0 53 rfl
theorem dX11_needs_109 : decode cX11_needs 109 = .ok (.invokestatic 216, 3) := okd_at mX11_needs_0 54 rfl
theorem dX11_needs_112 : decode cX11_needs 112 = .ok (.iload 4, 2) := okd_at mX11_needs_0 55 rfl
theorem dX11_needs_114 : decode cX11_needs 114 = .ok (.ireturn, 1) := okd_at mX11_needs_0 56 rfl
def lmX11_odds_0 : List (Nat × Instr × Nat) := [(0, .iload_n 1, 1), (1, .iconst 0, 1), (2, .ldc_w 265, 3), (5, .invokestatic 119, 3), (8, .ifCond .eq 37, 3), (11, .iload_n 2, 1), (12, .iconst 1, 1), (13, .bipush 60, 2), (15, .invokestatic 119, 3), (18, .ifCond .eq 27, 3), (21, .iload_n 3, 1), (22, .iconst 0, 1), (23, .bipush 8, 2), (25, .invokestatic 119, 3), (28, .ifCond .eq 17, 3), (31, .iload 4, 2), (33, .iconst 0, 1), (34, .iconst 1, 1), (35, .invokestatic 119, 3), (38, .ifCond .eq 7, 3), (41, .iconst 1, 1), (42, .goto 4, 3), (45, .iconst 0, 1), (46, .istore 5, 2), (48, .iload 5, 2), (50, .ifCond .ne 7, 3), (53, .ldc2_w 275, 3), (56, .lreturn, 1), (57, .aload_n 0, 1), (58, .invokevirtual 266, 3), (61, .iconst 0, 1), (62, .istore 6, 2), (64, .iconst 0, 1), (65, .istore 7, 2), (67, .iload 7, 2), (69, .iload_n 2, 1), (70, .if_icmp .ge 38, 3), (73, .aload_n 0, 1), (74, .iload_n 1, 1), (75, .iload 7, 2), (77, .iadd, 1), (78, .invokevirtual 269, 3), (81, .iload 6, 2), (83, .aload_n 0, 1), (84, .getfield 51, 3), (87, .getfield 184, 3), (90, .iload_n 3, 1), (91, .if_icmp .gt 7, 3), (94, .iconst 1, 1), (95, .goto 4, 3), (98, .iconst 0, 1), (99, .iadd, 1), (100, .istore 6, 2), (102, .iinc 7 1, 3), (105, .goto (-38), 3), (108, .aload_n 0, 1), (109, .invokevirtual 272, 3), (112, .iload 6, 2), (114, .iload_n 2, 1), (115, .invokestatic 277, 3)]
theorem mX11_odds_0 : okd cX11_odds lmX11_odds_0 = true := by decide +kernel
theorem dX11_odds_0 : decode cX11_odds 0 = .ok (.iload_n 1, 1) := okd_at mX11_odds_0 0 rfl
theorem dX11_odds_1 : decode cX11_odds 1 = .ok (.iconst 0, 1) := okd_at mX11_odds_0 1 rfl
theorem dX11_odds_2 : decode cX11_odds 2 = .ok (.ldc_w 265, 3) := okd_at mX11_odds_0 2 rfl
theorem dX11_odds_5 : decode cX11_odds 5 = .ok (.invokestatic 119, 3) := okd_at mX11_odds_0 3 rfl
theorem dX11_odds_8 : decode cX11_odds 8 = .ok (.ifCond .eq 37, 3) := okd_at mX11_odds_0 4 rfl
theorem dX11_odds_11 : decode cX11_odds 11 = .ok (.iload_n 2, 1) := okd_at mX11_odds_0 5 rfl
theorem dX11_odds_12 : decode cX11_odds 12 = .ok (.iconst 1, 1) := okd_at mX11_odds_0 6 rfl
theorem dX11_odds_13 : decode cX11_odds 13 = .ok (.bipush 60, 2) := okd_at mX11_odds_0 7 rfl
theorem dX11_odds_15 : decode cX11_odds 15 = .ok (.invokestatic 119, 3) := okd_at mX11_odds_0 8 rfl
theorem dX11_odds_18 : decode cX11_odds 18 = .ok (.ifCond .eq 27, 3) := okd_at mX11_odds_0 9 rfl
theorem dX11_odds_21 : decode cX11_odds 21 = .ok (.iload_n 3, 1) := okd_at mX11_odds_0 10 rfl
theorem dX11_odds_22 : decode cX11_odds 22 = .ok (.iconst 0, 1) := okd_at mX11_odds_0 11 rfl
theorem dX11_odds_23 : decode cX11_odds 23 = .ok (.bipush 8, 2) := okd_at mX11_odds_0 12 rfl
theorem dX11_odds_25 : decode cX11_odds 25 = .ok (.invokestatic 119, 3) := okd_at mX11_odds_0 13 rfl
theorem dX11_odds_28 : decode cX11_odds 28 = .ok (.ifCond .eq 17, 3) := okd_at mX11_odds_0 14 rfl
theorem dX11_odds_31 : decode cX11_odds 31 = .ok (.iload 4, 2) := okd_at mX11_odds_0 15 rfl
theorem dX11_odds_33 : decode cX11_odds 33 = .ok (.iconst 0, 1) := okd_at mX11_odds_0 16 rfl
theorem dX11_odds_34 : decode cX11_odds 34 = .ok (.iconst 1, 1) := okd_at mX11_odds_0 17 rfl
theorem dX11_odds_35 : decode cX11_odds 35 = .ok (.invokestatic 119, 3) := okd_at mX11_odds_0 18 rfl
theorem dX11_odds_38 : decode cX11_odds 38 = .ok (.ifCond .eq 7, 3) := okd_at mX11_odds_0 19 rfl
theorem dX11_odds_41 : decode cX11_odds 41 = .ok (.iconst 1, 1) := okd_at mX11_odds_0 20 rfl
theorem dX11_odds_42 : decode cX11_odds 42 = .ok (.goto 4, 3) := okd_at mX11_odds_0 21 rfl
theorem dX11_odds_45 : decode cX11_odds 45 = .ok (.iconst 0, 1) := okd_at mX11_odds_0 22 rfl
theorem dX11_odds_46 : decode cX11_odds 46 = .ok (.istore 5, 2) := okd_at mX11_odds_0 23 rfl
theorem dX11_odds_48 : decode cX11_odds 48 = .ok (.iload 5, 2) := okd_at mX11_odds_0 24 rfl
theorem dX11_odds_50 : decode cX11_odds 50 = .ok (.ifCond .ne 7, 3) := okd_at mX11_odds_0 25 rfl
theorem dX11_odds_53 : decode cX11_odds 53 = .ok (.ldc2_w 275, 3) := okd_at mX11_odds_0 26 rfl
theorem dX11_odds_56 : decode cX11_odds 56 = .ok (.lreturn, 1) := okd_at mX11_odds_0 27 rfl
theorem dX11_odds_57 : decode cX11_odds 57 = .ok (.aload_n 0, 1) := okd_at mX11_odds_0 28 rfl
theorem dX11_odds_58 : decode cX11_odds 58 = .ok (.invokevirtual 266, 3) := okd_at mX11_odds_0 29 rfl
theorem dX11_odds_61 : decode cX11_odds 61 = .ok (.iconst 0, 1) := okd_at mX11_odds_0 30 rfl
theorem dX11_odds_62 : decode cX11_odds 62 = .ok (.istore 6, 2) := okd_at mX11_odds_0 31 rfl
theorem dX11_odds_64 : decode cX11_odds 64 = .ok (.iconst 0, 1) := okd_at mX11_odds_0 32 rfl
theorem dX11_odds_65 : decode cX11_odds 65 = .ok (.istore 7, 2) := okd_at mX11_odds_0 33 rfl
theorem dX11_odds_67 : decode cX11_odds 67 = .ok (.iload 7, 2) := okd_at mX11_odds_0 34 rfl
theorem dX11_odds_69 : decode cX11_odds 69 = .ok (.iload_n 2, 1) := okd_at mX11_odds_0 35 rfl
theorem dX11_odds_70 : decode cX11_odds 70 = .ok (.if_icmp .ge 38, 3) := okd_at mX11_odds_0 36 rfl
theorem dX11_odds_73 : decode cX11_odds 73 = .ok (.aload_n 0, 1) := okd_at mX11_odds_0 37 rfl
theorem dX11_odds_74 : decode cX11_odds 74 = .ok (.iload_n 1, 1) := okd_at mX11_odds_0 38 rfl
theorem dX11_odds_75 : decode cX11_odds 75 = .ok (.iload 7, 2) := okd_at mX11_odds_0 39 rfl
theorem dX11_odds_77 : decode cX11_odds 77 = .ok (.iadd, 1) := okd_at mX11_odds_0 40 rfl
theorem dX11_odds_78 : decode cX11_odds 78 = .ok (.invokevirtual 269, 3) := okd_at mX11_odds_0 41 rfl
theorem dX11_odds_81 : decode cX11_odds 81 = .ok (.iload 6, 2) := okd_at mX11_odds_0 42 rfl
theorem dX11_odds_83 : decode cX11_odds 83 = .ok (.aload_n 0, 1) := okd_at mX11_odds_0 43 rfl
theorem dX11_odds_84 : decode cX11_odds 84 = .ok (.getfield 51, 3) := okd_at mX11_odds_0 44 rfl
theorem dX11_odds_87 : decode cX11_odds 87 = .ok (.getfield 184, 3) := okd_at mX11_odds_0 45 rfl
theorem dX11_odds_90 : decode cX11_odds 90 = .ok (.iload_n 3, 1) := okd_at mX11_odds_0 46 rfl
theorem dX11_odds_91 : decode cX11_odds 91 = .ok (.if_icmp .gt 7, 3) := okd_at mX11_odds_0 47 rfl
theorem dX11_odds_94 : decode cX11_odds 94 = .ok (.iconst 1, 1) := okd_at mX11_odds_0 48 rfl
theorem dX11_odds_95 : decode cX11_odds 95 = .ok (.goto 4, 3) := okd_at mX11_odds_0 49 rfl
theorem dX11_odds_98 : decode cX11_odds 98 = .ok (.iconst 0, 1) := okd_at mX11_odds_0 50 rfl
theorem dX11_odds_99 : decode cX11_odds 99 = .ok (.iadd, 1) := okd_at mX11_odds_0 51 rfl
theorem dX11_odds_100 : decode cX11_odds 100 = .ok (.istore 6, 2) := okd_at mX11_odds_0 52 rfl
theorem dX11_odds_102 : decode cX11_odds 102 = .ok (.iinc 7 1, 3) := okd_at mX11_odds_0 53 rfl
theorem dX11_odds_105 : decode cX11_odds 105 = .ok (.goto (-38), 3) := okd_at mX11_odds_0 54 rfl
theorem dX11_odds_108 : decode cX11_odds 108 = .ok (.aload_n 0, 1) := okd_at mX11_odds_0 55 rfl
theorem dX11_odds_109 : decode cX11_odds 109 = .ok (.invokevirtual 272, 3) := okd_at mX11_odds_0 56 rfl
theorem dX11_odds_112 : decode cX11_odds 112 = .ok (.iload 6, 2) := okd_at mX11_odds_0 57 rfl
theorem dX11_odds_114 : decode cX11_odds 114 = .ok (.iload_n 2, 1) := okd_at mX11_odds_0 58 rfl
theorem dX11_odds_115 : decode cX11_odds 115 = .ok (.invokestatic 277, 3) := okd_at mX11_odds_0 59 rfl
def lmX11_odds_1 : List (Nat × Instr × Nat) := [(118, .istore 7, 2), (120, .iload 7, 2), (122, .iconst 1, 1), (123, .if_icmp .ge 9, 3), (126, .ldc2_w 275, 3), (129, .goto 18, 3), (132, .iload 4, 2), (134, .ifCond .ne 8, 3), (137, .iload 6, 2), (139, .goto 4, 3), (142, .iload_n 2, 1), (143, .iload 7, 2), (145, .idiv, 1), (146, .i2l, 1), (147, .lreturn, 1)]
theorem mX11_odds_1 : okd cX11_odds lmX11_odds_1 = true := by decide +kernel
theorem dX11_odds_118 : decode cX11_odds 118 = .ok (.istore 7, 2) := okd_at mX11_odds_1 0 rfl
theorem dX11_odds_120 : decode cX11_odds 120 = .ok (.iload 7, 2) := okd_at mX11_odds_1 1 rfl
theorem dX11_odds_122 : decode cX11_odds 122 = .ok (.iconst 1, 1) := okd_at mX11_odds_1 2 rfl
theorem dX11_odds_123 : decode cX11_odds 123 = .ok (.if_icmp .ge 9, 3) := okd_at mX11_odds_1 3 rfl
theorem dX11_odds_126 : decode cX11_odds 126 = .ok (.ldc2_w 275, 3) := okd_at mX11_odds_1 4 rfl
theorem dX11_odds_129 : decode cX11_odds 129 = .ok (.goto 18, 3) := okd_at mX11_odds_1 5 rfl
theorem dX11_odds_132 : decode cX11_odds 132 = .ok (.iload 4, 2) := okd_at mX11_odds_1 6 rfl
theorem dX11_odds_134 : decode cX11_odds 134 = .ok (.ifCond .ne 8, 3) := okd_at mX11_odds_1 7 rfl
theorem dX11_odds_137 : decode cX11_odds 137 = .ok (.iload 6, 2) := okd_at mX11_odds_1 8 rfl
theorem dX11_odds_139 : decode cX11_odds 139 = .ok (.goto 4, 3) := okd_at mX11_odds_1 9 rfl
theorem dX11_odds_142 : decode cX11_odds 142 = .ok (.iload_n 2, 1) := okd_at mX11_odds_1 10 rfl
theorem dX11_odds_143 : decode cX11_odds 143 = .ok (.iload 7, 2) := okd_at mX11_odds_1 11 rfl
theorem dX11_odds_145 : decode cX11_odds 145 = .ok (.idiv, 1) := okd_at mX11_odds_1 12 rfl
theorem dX11_odds_146 : decode cX11_odds 146 = .ok (.i2l, 1) := okd_at mX11_odds_1 13 rfl
theorem dX11_odds_147 : decode cX11_odds 147 = .ok (.lreturn, 1) := okd_at mX11_odds_1 14 rfl
def lmX11_order_0 : List (Nat × Instr × Nat) := [(0, .iload_n 1, 1), (1, .iconst 0, 1), (2, .iconst 2, 1), (3, .invokestatic 119, 3), (6, .ifCond .ne 7, 3), (9, .sipush (-1000), 3), (12, .ireturn, 1), (13, .aload_n 0, 1), (14, .getfield 51, 3), (17, .invokevirtual 178, 3), (20, .aload_n 0, 1), (21, .getfield 58, 3), (24, .aload_n 0, 1), (25, .getfield 51, 3), (28, .invokevirtual 198, 3), (31, .aload_n 0, 1), (32, .getfield 67, 3), (35, .aload_n 0, 1), (36, .getfield 58, 3), (39, .invokevirtual 212, 3), (42, .aload_n 0, 1), (43, .getfield 58, 3), (46, .iload_n 1, 1), (47, .invokevirtual 209, 3), (50, .ireturn, 1)]
theorem mX11_order_0 : okd cX11_order lmX11_order_0 = true := by decide +kernel
theorem dX11_order_0 : decode cX11_order 0 = .ok (.iload_n 1, 1) := okd_at mX11_order_0 0 rfl
theorem dX11_order_1 : decode cX11_order 1 = .ok (.iconst 0, 1) := okd_at mX11_order_0 1 rfl
theorem dX11_order_2 : decode cX11_order 2 = .ok (.iconst 2, 1) := okd_at mX11_order_0 2 rfl
theorem dX11_order_3 : decode cX11_order 3 = .ok (.invokestatic 119, 3) := okd_at mX11_order_0 3 rfl
theorem dX11_order_6 : decode cX11_order 6 = .ok (.ifCond .ne 7, 3) := okd_at mX11_order_0 4 rfl
theorem dX11_order_9 : decode cX11_order 9 = .ok (.sipush (-1000), 3) := okd_at mX11_order_0 5 rfl
theorem dX11_order_12 : decode cX11_order 12 = .ok (.ireturn, 1) := okd_at mX11_order_0 6 rfl
theorem dX11_order_13 : decode cX11_order 13 = .ok (.aload_n 0, 1) := okd_at mX11_order_0 7 rfl
theorem dX11_order_14 : decode cX11_order 14 = .ok (.getfield 51, 3) := okd_at mX11_order_0 8 rfl
theorem dX11_order_17 : decode cX11_order 17 = .ok (.invokevirtual 178, 3) := okd_at mX11_order_0 9 rfl
theorem dX11_order_20 : decode cX11_order 20 = .ok (.aload_n 0, 1) := okd_at mX11_order_0 10 rfl
theorem dX11_order_21 : decode cX11_order 21 = .ok (.getfield 58, 3) := okd_at mX11_order_0 11 rfl
theorem dX11_order_24 : decode cX11_order 24 = .ok (.aload_n 0, 1) := okd_at mX11_order_0 12 rfl
theorem dX11_order_25 : decode cX11_order 25 = .ok (.getfield 51, 3) := okd_at mX11_order_0 13 rfl
theorem dX11_order_28 : decode cX11_order 28 = .ok (.invokevirtual 198, 3) := okd_at mX11_order_0 14 rfl
theorem dX11_order_31 : decode cX11_order 31 = .ok (.aload_n 0, 1) := okd_at mX11_order_0 15 rfl
theorem dX11_order_32 : decode cX11_order 32 = .ok (.getfield 67, 3) := okd_at mX11_order_0 16 rfl
theorem dX11_order_35 : decode cX11_order 35 = .ok (.aload_n 0, 1) := okd_at mX11_order_0 17 rfl
theorem dX11_order_36 : decode cX11_order 36 = .ok (.getfield 58, 3) := okd_at mX11_order_0 18 rfl
theorem dX11_order_39 : decode cX11_order 39 = .ok (.invokevirtual 212, 3) := okd_at mX11_order_0 19 rfl
theorem dX11_order_42 : decode cX11_order 42 = .ok (.aload_n 0, 1) := okd_at mX11_order_0 20 rfl
theorem dX11_order_43 : decode cX11_order 43 = .ok (.getfield 58, 3) := okd_at mX11_order_0 21 rfl
theorem dX11_order_46 : decode cX11_order 46 = .ok (.iload_n 1, 1) := okd_at mX11_order_0 22 rfl
theorem dX11_order_47 : decode cX11_order 47 = .ok (.invokevirtual 209, 3) := okd_at mX11_order_0 23 rfl
theorem dX11_order_50 : decode cX11_order 50 = .ok (.ireturn, 1) := okd_at mX11_order_0 24 rfl
def lmX11_put_0 : List (Nat × Instr × Nat) := [(0, .aload_n 0, 1), (1, .iload_n 1, 1), (2, .invokevirtual 126, 3), (5, .ifCond .ne 6, 3), (8, .bipush (-5), 2), (10, .ireturn, 1), (11, .iload_n 2, 1), (12, .iconst 0, 1), (13, .iconst 2, 1), (14, .invokestatic 119, 3), (17, .ifCond .eq 13, 3), (20, .iload_n 3, 1), (21, .iconst 0, 1), (22, .bipush 99, 2), (24, .invokestatic 119, 3), (27, .ifCond .ne 6, 3), (30, .bipush (-7), 2), (32, .ireturn, 1), (33, .aload_n 0, 1), (34, .getfield 10, 3), (37, .iload_n 2, 1), (38, .invokevirtual 130, 3), (41, .iload_n 1, 1), (42, .iload_n 3, 1), (43, .invokestatic 134, 3), (46, .ireturn, 1)]
theorem mX11_put_0 : okd cX11_put lmX11_put_0 = true := by decide +kernel
theorem dX11_put_0 : decode cX11_put 0 = .ok (.aload_n 0, 1) := okd_at mX11_put_0 0 rfl
theorem dX11_put_1 : decode cX11_put 1 = .ok (.iload_n 1, 1) := okd_at mX11_put_0 1 rfl
theorem dX11_put_2 : decode cX11_put 2 = .ok (.invokevirtual 126, 3) := okd_at mX11_put_0 2 rfl
theorem dX11_put_5 : decode cX11_put 5 = .ok (.ifCond .ne 6, 3) := okd_at mX11_put_0 3 rfl
theorem dX11_put_8 : decode cX11_put 8 = .ok (.bipush (-5), 2) := okd_at mX11_put_0 4 rfl
theorem dX11_put_10 : decode cX11_put 10 = .ok (.ireturn, 1) := okd_at mX11_put_0 5 rfl
theorem dX11_put_11 : decode cX11_put 11 = .ok (.iload_n 2, 1) := okd_at mX11_put_0 6 rfl
theorem dX11_put_12 : decode cX11_put 12 = .ok (.iconst 0, 1) := okd_at mX11_put_0 7 rfl
theorem dX11_put_13 : decode cX11_put 13 = .ok (.iconst 2, 1) := okd_at mX11_put_0 8 rfl
theorem dX11_put_14 : decode cX11_put 14 = .ok (.invokestatic 119, 3) := okd_at mX11_put_0 9 rfl
theorem dX11_put_17 : decode cX11_put 17 = .ok (.ifCond .eq 13, 3) := okd_at mX11_put_0 10 rfl
theorem dX11_put_20 : decode cX11_put 20 = .ok (.iload_n 3, 1) := okd_at mX11_put_0 11 rfl
theorem dX11_put_21 : decode cX11_put 21 = .ok (.iconst 0, 1) := okd_at mX11_put_0 12 rfl
theorem dX11_put_22 : decode cX11_put 22 = .ok (.bipush 99, 2) := okd_at mX11_put_0 13 rfl
theorem dX11_put_24 : decode cX11_put 24 = .ok (.invokestatic 119, 3) := okd_at mX11_put_0 14 rfl
theorem dX11_put_27 : decode cX11_put 27 = .ok (.ifCond .ne 6, 3) := okd_at mX11_put_0 15 rfl
theorem dX11_put_30 : decode cX11_put 30 = .ok (.bipush (-7), 2) := okd_at mX11_put_0 16 rfl
theorem dX11_put_32 : decode cX11_put 32 = .ok (.ireturn, 1) := okd_at mX11_put_0 17 rfl
theorem dX11_put_33 : decode cX11_put 33 = .ok (.aload_n 0, 1) := okd_at mX11_put_0 18 rfl
theorem dX11_put_34 : decode cX11_put 34 = .ok (.getfield 10, 3) := okd_at mX11_put_0 19 rfl
theorem dX11_put_37 : decode cX11_put 37 = .ok (.iload_n 2, 1) := okd_at mX11_put_0 20 rfl
theorem dX11_put_38 : decode cX11_put 38 = .ok (.invokevirtual 130, 3) := okd_at mX11_put_0 21 rfl
theorem dX11_put_41 : decode cX11_put 41 = .ok (.iload_n 1, 1) := okd_at mX11_put_0 22 rfl
theorem dX11_put_42 : decode cX11_put 42 = .ok (.iload_n 3, 1) := okd_at mX11_put_0 23 rfl
theorem dX11_put_43 : decode cX11_put 43 = .ok (.invokestatic 134, 3) := okd_at mX11_put_0 24 rfl
theorem dX11_put_46 : decode cX11_put 46 = .ok (.ireturn, 1) := okd_at mX11_put_0 25 rfl
def lmX11_quick_0 : List (Nat × Instr × Nat) := [(0, .aload_n 0, 1), (1, .iload_n 1, 1), (2, .invokevirtual 223, 3), (5, .astore 4, 2), (7, .aload_n 0, 1), (8, .aload 4, 2), (10, .invokevirtual 227, 3), (13, .istore 5, 2), (15, .aload 4, 2), (17, .ifnull 8, 3), (20, .iload 5, 2), (22, .ifCond .eq 6, 3), (25, .iload 5, 2), (27, .ireturn, 1), (28, .aload_n 0, 1), (29, .iload_n 2, 1), (30, .invokevirtual 126, 3), (33, .ifCond .ne 6, 3), (36, .bipush (-5), 2), (38, .ireturn, 1), (39, .iload_n 3, 1), (40, .iconst 0, 1), (41, .bipush 29, 2), (43, .invokestatic 119, 3), (46, .ifCond .eq 11, 3), (49, .iload_n 3, 1), (50, .bipush 10, 2), (52, .irem, 1), (53, .iconst 1, 1), (54, .if_icmp .le 6, 3), (57, .bipush (-7), 2), (59, .ireturn, 1), (60, .aload_n 0, 1), (61, .aload 4, 2), (63, .aload_n 0, 1), (64, .getfield 10, 3), (67, .iload_n 3, 1), (68, .bipush 10, 2), (70, .idiv, 1), (71, .invokevirtual 130, 3), (74, .iload_n 2, 1), (75, .bipush 99, 2), (77, .invokevirtual 239, 3), (80, .iload_n 3, 1), (81, .bipush 10, 2), (83, .irem, 1), (84, .ifCond .ne 10, 3), (87, .aload_n 0, 1), (88, .getfield 249, 3), (91, .goto 7, 3), (94, .aload_n 0, 1), (95, .getfield 252, 3), (98, .ireturn, 1)]
theorem mX11_quick_0 : okd cX11_quick lmX11_quick_0 = true := by decide +kernel
theorem dX11_quick_0 : decode cX11_quick 0 = .ok (.aload_n 0, 1) := okd_at mX11_quick_0 0 rfl
theorem dX11_quick_1 : decode cX11_quick 1 = .ok (.iload_n 1, 1) := okd_at mX11_quick_0 1 rfl
theorem dX11_quick_2 : decode cX11_quick 2 = .ok (.invokevirtual 223, 3) := okd_at mX11_quick_0 2 rfl
theorem dX11_quick_5 : decode cX11_quick 5 = .ok (.astore 4, 2) := okd_at mX11_quick_0 3 rfl
theorem dX11_quick_7 : decode cX11_quick 7 = .ok (.aload_n 0, 1) := okd_at mX11_quick_0 4 rfl
theorem dX11_quick_8 : decode cX11_quick 8 = .ok (.aload 4, 2) := okd_at mX11_quick_0 5 rfl
theorem dX11_quick_10 : decode cX11_quick 10 = .ok (.invokevirtual 227, 3) := okd_at mX11_quick_0 6 rfl
theorem dX11_quick_13 : decode cX11_quick 13 = .ok (.istore 5, 2) := okd_at mX11_quick_0 7 rfl
theorem dX11_quick_15 : decode cX11_quick 15 = .ok (.aload 4, 2) := okd_at mX11_quick_0 8 rfl
theorem dX11_quick_17 : decode cX11_quick 17 = .ok (.ifnull 8, 3) := okd_at mX11_quick_0 9 rfl
theorem dX11_quick_20 : decode cX11_quick 20 = .ok (.iload 5, 2) := okd_at mX11_quick_0 10 rfl
theorem dX11_quick_22 : decode cX11_quick 22 = .ok (.ifCond .eq 6, 3) := okd_at mX11_quick_0 11 rfl
theorem dX11_quick_25 : decode cX11_quick 25 = .ok (.iload 5, 2) := okd_at mX11_quick_0 12 rfl
theorem dX11_quick_27 : decode cX11_quick 27 = .ok (.ireturn, 1) := okd_at mX11_quick_0 13 rfl
theorem dX11_quick_28 : decode cX11_quick 28 = .ok (.aload_n 0, 1) := okd_at mX11_quick_0 14 rfl
theorem dX11_quick_29 : decode cX11_quick 29 = .ok (.iload_n 2, 1) := okd_at mX11_quick_0 15 rfl
theorem dX11_quick_30 : decode cX11_quick 30 = .ok (.invokevirtual 126, 3) := okd_at mX11_quick_0 16 rfl
theorem dX11_quick_33 : decode cX11_quick 33 = .ok (.ifCond .ne 6, 3) := okd_at mX11_quick_0 17 rfl
theorem dX11_quick_36 : decode cX11_quick 36 = .ok (.bipush (-5), 2) := okd_at mX11_quick_0 18 rfl
theorem dX11_quick_38 : decode cX11_quick 38 = .ok (.ireturn, 1) := okd_at mX11_quick_0 19 rfl
theorem dX11_quick_39 : decode cX11_quick 39 = .ok (.iload_n 3, 1) := okd_at mX11_quick_0 20 rfl
theorem dX11_quick_40 : decode cX11_quick 40 = .ok (.iconst 0, 1) := okd_at mX11_quick_0 21 rfl
theorem dX11_quick_41 : decode cX11_quick 41 = .ok (.bipush 29, 2) := okd_at mX11_quick_0 22 rfl
theorem dX11_quick_43 : decode cX11_quick 43 = .ok (.invokestatic 119, 3) := okd_at mX11_quick_0 23 rfl
theorem dX11_quick_46 : decode cX11_quick 46 = .ok (.ifCond .eq 11, 3) := okd_at mX11_quick_0 24 rfl
theorem dX11_quick_49 : decode cX11_quick 49 = .ok (.iload_n 3, 1) := okd_at mX11_quick_0 25 rfl
theorem dX11_quick_50 : decode cX11_quick 50 = .ok (.bipush 10, 2) := okd_at mX11_quick_0 26 rfl
theorem dX11_quick_52 : decode cX11_quick 52 = .ok (.irem, 1) := okd_at mX11_quick_0 27 rfl
theorem dX11_quick_53 : decode cX11_quick 53 = .ok (.iconst 1, 1) := okd_at mX11_quick_0 28 rfl
theorem dX11_quick_54 : decode cX11_quick 54 = .ok (.if_icmp .le 6, 3) := okd_at mX11_quick_0 29 rfl
theorem dX11_quick_57 : decode cX11_quick 57 = .ok (.bipush (-7), 2) := okd_at mX11_quick_0 30 rfl
theorem dX11_quick_59 : decode cX11_quick 59 = .ok (.ireturn, 1) := okd_at mX11_quick_0 31 rfl
theorem dX11_quick_60 : decode cX11_quick 60 = .ok (.aload_n 0, 1) := okd_at mX11_quick_0 32 rfl
theorem dX11_quick_61 : decode cX11_quick 61 = .ok (.aload 4, 2) := okd_at mX11_quick_0 33 rfl
theorem dX11_quick_63 : decode cX11_quick 63 = .ok (.aload_n 0, 1) := okd_at mX11_quick_0 34 rfl
theorem dX11_quick_64 : decode cX11_quick 64 = .ok (.getfield 10, 3) := okd_at mX11_quick_0 35 rfl
theorem dX11_quick_67 : decode cX11_quick 67 = .ok (.iload_n 3, 1) := okd_at mX11_quick_0 36 rfl
theorem dX11_quick_68 : decode cX11_quick 68 = .ok (.bipush 10, 2) := okd_at mX11_quick_0 37 rfl
theorem dX11_quick_70 : decode cX11_quick 70 = .ok (.idiv, 1) := okd_at mX11_quick_0 38 rfl
theorem dX11_quick_71 : decode cX11_quick 71 = .ok (.invokevirtual 130, 3) := okd_at mX11_quick_0 39 rfl
theorem dX11_quick_74 : decode cX11_quick 74 = .ok (.iload_n 2, 1) := okd_at mX11_quick_0 40 rfl
theorem dX11_quick_75 : decode cX11_quick 75 = .ok (.bipush 99, 2) := okd_at mX11_quick_0 41 rfl
theorem dX11_quick_77 : decode cX11_quick 77 = .ok (.invokevirtual 239, 3) := okd_at mX11_quick_0 42 rfl
theorem dX11_quick_80 : decode cX11_quick 80 = .ok (.iload_n 3, 1) := okd_at mX11_quick_0 43 rfl
theorem dX11_quick_81 : decode cX11_quick 81 = .ok (.bipush 10, 2) := okd_at mX11_quick_0 44 rfl
theorem dX11_quick_83 : decode cX11_quick 83 = .ok (.irem, 1) := okd_at mX11_quick_0 45 rfl
theorem dX11_quick_84 : decode cX11_quick 84 = .ok (.ifCond .ne 10, 3) := okd_at mX11_quick_0 46 rfl
theorem dX11_quick_87 : decode cX11_quick 87 = .ok (.aload_n 0, 1) := okd_at mX11_quick_0 47 rfl
theorem dX11_quick_88 : decode cX11_quick 88 = .ok (.getfield 249, 3) := okd_at mX11_quick_0 48 rfl
theorem dX11_quick_91 : decode cX11_quick 91 = .ok (.goto 7, 3) := okd_at mX11_quick_0 49 rfl
theorem dX11_quick_94 : decode cX11_quick 94 = .ok (.aload_n 0, 1) := okd_at mX11_quick_0 50 rfl
theorem dX11_quick_95 : decode cX11_quick 95 = .ok (.getfield 252, 3) := okd_at mX11_quick_0 51 rfl
theorem dX11_quick_98 : decode cX11_quick 98 = .ok (.ireturn, 1) := okd_at mX11_quick_0 52 rfl
def lmX11_race_0 : List (Nat × Instr × Nat) := [(0, .iload_n 1, 1), (1, .iconst 0, 1), (2, .bipush 59, 2), (4, .invokestatic 119, 3), (7, .ifCond .eq 11, 3), (10, .aload_n 0, 1), (11, .iload_n 2, 1), (12, .invokevirtual 152, 3), (15, .ifCond .ne 6, 3), (18, .bipush (-2), 2), (20, .ireturn, 1), (21, .aload_n 0, 1), (22, .getfield 19, 3), (25, .iload_n 1, 1), (26, .bipush 10, 2), (28, .idiv, 1), (29, .iload_n 1, 1), (30, .bipush 10, 2), (32, .irem, 1), (33, .iload_n 2, 1), (34, .invokevirtual 155, 3), (37, .ireturn, 1)]
theorem mX11_race_0 : okd cX11_race lmX11_race_0 = true := by decide +kernel
theorem dX11_race_0 : decode cX11_race 0 = .ok (.iload_n 1, 1) := okd_at mX11_race_0 0 rfl
theorem dX11_race_1 : decode cX11_race 1 = .ok (.iconst 0, 1) := okd_at mX11_race_0 1 rfl
theorem dX11_race_2 : decode cX11_race 2 = .ok (.bipush 59, 2) := okd_at mX11_race_0 2 rfl
theorem dX11_race_4 : decode cX11_race 4 = .ok (.invokestatic 119, 3) := okd_at mX11_race_0 3 rfl
theorem dX11_race_7 : decode cX11_race 7 = .ok (.ifCond .eq 11, 3) := okd_at mX11_race_0 4 rfl
theorem dX11_race_10 : decode cX11_race 10 = .ok (.aload_n 0, 1) := okd_at mX11_race_0 5 rfl
theorem dX11_race_11 : decode cX11_race 11 = .ok (.iload_n 2, 1) := okd_at mX11_race_0 6 rfl
theorem dX11_race_12 : decode cX11_race 12 = .ok (.invokevirtual 152, 3) := okd_at mX11_race_0 7 rfl
theorem dX11_race_15 : decode cX11_race 15 = .ok (.ifCond .ne 6, 3) := okd_at mX11_race_0 8 rfl
theorem dX11_race_18 : decode cX11_race 18 = .ok (.bipush (-2), 2) := okd_at mX11_race_0 9 rfl
theorem dX11_race_20 : decode cX11_race 20 = .ok (.ireturn, 1) := okd_at mX11_race_0 10 rfl
theorem dX11_race_21 : decode cX11_race 21 = .ok (.aload_n 0, 1) := okd_at mX11_race_0 11 rfl
theorem dX11_race_22 : decode cX11_race 22 = .ok (.getfield 19, 3) := okd_at mX11_race_0 12 rfl
theorem dX11_race_25 : decode cX11_race 25 = .ok (.iload_n 1, 1) := okd_at mX11_race_0 13 rfl
theorem dX11_race_26 : decode cX11_race 26 = .ok (.bipush 10, 2) := okd_at mX11_race_0 14 rfl
theorem dX11_race_28 : decode cX11_race 28 = .ok (.idiv, 1) := okd_at mX11_race_0 15 rfl
theorem dX11_race_29 : decode cX11_race 29 = .ok (.iload_n 1, 1) := okd_at mX11_race_0 16 rfl
theorem dX11_race_30 : decode cX11_race 30 = .ok (.bipush 10, 2) := okd_at mX11_race_0 17 rfl
theorem dX11_race_32 : decode cX11_race 32 = .ok (.irem, 1) := okd_at mX11_race_0 18 rfl
theorem dX11_race_33 : decode cX11_race 33 = .ok (.iload_n 2, 1) := okd_at mX11_race_0 19 rfl
theorem dX11_race_34 : decode cX11_race 34 = .ok (.invokevirtual 155, 3) := okd_at mX11_race_0 20 rfl
theorem dX11_race_37 : decode cX11_race 37 = .ok (.ireturn, 1) := okd_at mX11_race_0 21 rfl
def lmX11_readTape_0 : List (Nat × Instr × Nat) := [(0, .aload_n 0, 1), (1, .getfield 26, 3), (4, .invokevirtual 329, 3), (7, .astore_n 1, 1), (8, .aload_n 1, 1), (9, .ifnonnull 6, 3), (12, .bipush (-4), 2), (14, .ireturn, 1), (15, .aload_n 0, 1), (16, .getfield 42, 3), (19, .aload_n 1, 1), (20, .invokevirtual 333, 3), (23, .istore_n 2, 1), (24, .aload_n 0, 1), (25, .getfield 33, 3), (28, .iconst 0, 1), (29, .putfield 116, 3), (32, .iload_n 2, 1), (33, .ifCond .lt 10, 3), (36, .bipush (-100), 2), (38, .iload_n 2, 1), (39, .isub, 1), (40, .goto 10, 3), (43, .aload_n 0, 1), (44, .getfield 26, 3), (47, .invokevirtual 337, 3), (50, .ireturn, 1)]
theorem mX11_readTape_0 : okd cX11_readTape lmX11_readTape_0 = true := by decide +kernel
theorem dX11_readTape_0 : decode cX11_readTape 0 = .ok (.aload_n 0, 1) := okd_at mX11_readTape_0 0 rfl
theorem dX11_readTape_1 : decode cX11_readTape 1 = .ok (.getfield 26, 3) := okd_at mX11_readTape_0 1 rfl
theorem dX11_readTape_4 : decode cX11_readTape 4 = .ok (.invokevirtual 329, 3) := okd_at mX11_readTape_0 2 rfl
theorem dX11_readTape_7 : decode cX11_readTape 7 = .ok (.astore_n 1, 1) := okd_at mX11_readTape_0 3 rfl
theorem dX11_readTape_8 : decode cX11_readTape 8 = .ok (.aload_n 1, 1) := okd_at mX11_readTape_0 4 rfl
theorem dX11_readTape_9 : decode cX11_readTape 9 = .ok (.ifnonnull 6, 3) := okd_at mX11_readTape_0 5 rfl
theorem dX11_readTape_12 : decode cX11_readTape 12 = .ok (.bipush (-4), 2) := okd_at mX11_readTape_0 6 rfl
theorem dX11_readTape_14 : decode cX11_readTape 14 = .ok (.ireturn, 1) := okd_at mX11_readTape_0 7 rfl
theorem dX11_readTape_15 : decode cX11_readTape 15 = .ok (.aload_n 0, 1) := okd_at mX11_readTape_0 8 rfl
theorem dX11_readTape_16 : decode cX11_readTape 16 = .ok (.getfield 42, 3) := okd_at mX11_readTape_0 9 rfl
theorem dX11_readTape_19 : decode cX11_readTape 19 = .ok (.aload_n 1, 1) := okd_at mX11_readTape_0 10 rfl
theorem dX11_readTape_20 : decode cX11_readTape 20 = .ok (.invokevirtual 333, 3) := okd_at mX11_readTape_0 11 rfl
theorem dX11_readTape_23 : decode cX11_readTape 23 = .ok (.istore_n 2, 1) := okd_at mX11_readTape_0 12 rfl
theorem dX11_readTape_24 : decode cX11_readTape 24 = .ok (.aload_n 0, 1) := okd_at mX11_readTape_0 13 rfl
theorem dX11_readTape_25 : decode cX11_readTape 25 = .ok (.getfield 33, 3) := okd_at mX11_readTape_0 14 rfl
theorem dX11_readTape_28 : decode cX11_readTape 28 = .ok (.iconst 0, 1) := okd_at mX11_readTape_0 15 rfl
theorem dX11_readTape_29 : decode cX11_readTape 29 = .ok (.putfield 116, 3) := okd_at mX11_readTape_0 16 rfl
theorem dX11_readTape_32 : decode cX11_readTape 32 = .ok (.iload_n 2, 1) := okd_at mX11_readTape_0 17 rfl
theorem dX11_readTape_33 : decode cX11_readTape 33 = .ok (.ifCond .lt 10, 3) := okd_at mX11_readTape_0 18 rfl
theorem dX11_readTape_36 : decode cX11_readTape 36 = .ok (.bipush (-100), 2) := okd_at mX11_readTape_0 19 rfl
theorem dX11_readTape_38 : decode cX11_readTape 38 = .ok (.iload_n 2, 1) := okd_at mX11_readTape_0 20 rfl
theorem dX11_readTape_39 : decode cX11_readTape 39 = .ok (.isub, 1) := okd_at mX11_readTape_0 21 rfl
theorem dX11_readTape_40 : decode cX11_readTape 40 = .ok (.goto 10, 3) := okd_at mX11_readTape_0 22 rfl
theorem dX11_readTape_43 : decode cX11_readTape 43 = .ok (.aload_n 0, 1) := okd_at mX11_readTape_0 23 rfl
theorem dX11_readTape_44 : decode cX11_readTape 44 = .ok (.getfield 26, 3) := okd_at mX11_readTape_0 24 rfl
theorem dX11_readTape_47 : decode cX11_readTape 47 = .ok (.invokevirtual 337, 3) := okd_at mX11_readTape_0 25 rfl
theorem dX11_readTape_50 : decode cX11_readTape 50 = .ok (.ireturn, 1) := okd_at mX11_readTape_0 26 rfl
def lmX11_refusalOfTelling_0 : List (Nat × Instr × Nat) := [(0, .aload_n 1, 1), (1, .ifnonnull 6, 3), (4, .bipush (-2), 2), (6, .ireturn, 1), (7, .aload_n 1, 1), (8, .invokevirtual 296, 3), (11, .ifCond .eq 6, 3), (14, .bipush (-11), 2), (16, .ireturn, 1), (17, .aload_n 1, 1), (18, .getfield 300, 3), (21, .aload_n 0, 1), (22, .getfield 19, 3), (25, .getfield 107, 3), (28, .if_icmp .eq 8, 3), (31, .bipush (-2), 2), (33, .goto 4, 3), (36, .iconst 0, 1), (37, .ireturn, 1)]
theorem mX11_refusalOfTelling_0 : okd cX11_refusalOfTelling lmX11_refusalOfTelling_0 = true := by decide +kernel
theorem dX11_refusalOfTelling_0 : decode cX11_refusalOfTelling 0 = .ok (.aload_n 1, 1) := okd_at mX11_refusalOfTelling_0 0 rfl
theorem dX11_refusalOfTelling_1 : decode cX11_refusalOfTelling 1 = .ok (.ifnonnull 6, 3) := okd_at mX11_refusalOfTelling_0 1 rfl
theorem dX11_refusalOfTelling_4 : decode cX11_refusalOfTelling 4 = .ok (.bipush (-2), 2) := okd_at mX11_refusalOfTelling_0 2 rfl
theorem dX11_refusalOfTelling_6 : decode cX11_refusalOfTelling 6 = .ok (.ireturn, 1) := okd_at mX11_refusalOfTelling_0 3 rfl
theorem dX11_refusalOfTelling_7 : decode cX11_refusalOfTelling 7 = .ok (.aload_n 1, 1) := okd_at mX11_refusalOfTelling_0 4 rfl
theorem dX11_refusalOfTelling_8 : decode cX11_refusalOfTelling 8 = .ok (.invokevirtual 296, 3) := okd_at mX11_refusalOfTelling_0 5 rfl
theorem dX11_refusalOfTelling_11 : decode cX11_refusalOfTelling 11 = .ok (.ifCond .eq 6, 3) := okd_at mX11_refusalOfTelling_0 6 rfl
theorem dX11_refusalOfTelling_14 : decode cX11_refusalOfTelling 14 = .ok (.bipush (-11), 2) := okd_at mX11_refusalOfTelling_0 7 rfl
theorem dX11_refusalOfTelling_16 : decode cX11_refusalOfTelling 16 = .ok (.ireturn, 1) := okd_at mX11_refusalOfTelling_0 8 rfl
theorem dX11_refusalOfTelling_17 : decode cX11_refusalOfTelling 17 = .ok (.aload_n 1, 1) := okd_at mX11_refusalOfTelling_0 9 rfl
theorem dX11_refusalOfTelling_18 : decode cX11_refusalOfTelling 18 = .ok (.getfield 300, 3) := okd_at mX11_refusalOfTelling_0 10 rfl
theorem dX11_refusalOfTelling_21 : decode cX11_refusalOfTelling 21 = .ok (.aload_n 0, 1) := okd_at mX11_refusalOfTelling_0 11 rfl
theorem dX11_refusalOfTelling_22 : decode cX11_refusalOfTelling 22 = .ok (.getfield 19, 3) := okd_at mX11_refusalOfTelling_0 12 rfl
theorem dX11_refusalOfTelling_25 : decode cX11_refusalOfTelling 25 = .ok (.getfield 107, 3) := okd_at mX11_refusalOfTelling_0 13 rfl
theorem dX11_refusalOfTelling_28 : decode cX11_refusalOfTelling 28 = .ok (.if_icmp .eq 8, 3) := okd_at mX11_refusalOfTelling_0 14 rfl
theorem dX11_refusalOfTelling_31 : decode cX11_refusalOfTelling 31 = .ok (.bipush (-2), 2) := okd_at mX11_refusalOfTelling_0 15 rfl
theorem dX11_refusalOfTelling_33 : decode cX11_refusalOfTelling 33 = .ok (.goto 4, 3) := okd_at mX11_refusalOfTelling_0 16 rfl
theorem dX11_refusalOfTelling_36 : decode cX11_refusalOfTelling 36 = .ok (.iconst 0, 1) := okd_at mX11_refusalOfTelling_0 17 rfl
theorem dX11_refusalOfTelling_37 : decode cX11_refusalOfTelling 37 = .ok (.ireturn, 1) := okd_at mX11_refusalOfTelling_0 18 rfl
def lmX11_replaced_0 : List (Nat × Instr × Nat) := [(0, .aload_n 0, 1), (1, .iload_n 1, 1), (2, .invokestatic 138, 3), (5, .istore_n 3, 1), (6, .aload_n 0, 1), (7, .iload_n 1, 1), (8, .iload_n 2, 1), (9, .invokestatic 216, 3), (12, .iload_n 3, 1), (13, .ireturn, 1)]
theorem mX11_replaced_0 : okd cX11_replaced lmX11_replaced_0 = true := by decide +kernel
theorem dX11_replaced_0 : decode cX11_replaced 0 = .ok (.aload_n 0, 1) := okd_at mX11_replaced_0 0 rfl
theorem dX11_replaced_1 : decode cX11_replaced 1 = .ok (.iload_n 1, 1) := okd_at mX11_replaced_0 1 rfl
theorem dX11_replaced_2 : decode cX11_replaced 2 = .ok (.invokestatic 138, 3) := okd_at mX11_replaced_0 2 rfl
theorem dX11_replaced_5 : decode cX11_replaced 5 = .ok (.istore_n 3, 1) := okd_at mX11_replaced_0 3 rfl
theorem dX11_replaced_6 : decode cX11_replaced 6 = .ok (.aload_n 0, 1) := okd_at mX11_replaced_0 4 rfl
theorem dX11_replaced_7 : decode cX11_replaced 7 = .ok (.iload_n 1, 1) := okd_at mX11_replaced_0 5 rfl
theorem dX11_replaced_8 : decode cX11_replaced 8 = .ok (.iload_n 2, 1) := okd_at mX11_replaced_0 6 rfl
theorem dX11_replaced_9 : decode cX11_replaced 9 = .ok (.invokestatic 216, 3) := okd_at mX11_replaced_0 7 rfl
theorem dX11_replaced_12 : decode cX11_replaced 12 = .ok (.iload_n 3, 1) := okd_at mX11_replaced_0 8 rfl
theorem dX11_replaced_13 : decode cX11_replaced 13 = .ok (.ireturn, 1) := okd_at mX11_replaced_0 9 rfl
def lmX11_runByLots_0 : List (Nat × Instr × Nat) := [(0, .iload_n 1, 1), (1, .iconst 1, 1), (2, .iadd, 1), (3, .i2l, 1), (4, .lstore_n 2, 1), (5, .iconst 0, 1), (6, .istore 4, 2), (8, .iload 4, 2), (10, .aload_n 0, 1), (11, .getfield 10, 3), (14, .getfield 111, 3), (17, .if_icmp .ge 37, 3), (20, .lload_n 2, 1), (21, .ldc2_w 350, 3), (24, .lmul, 1), (25, .ldc2_w 352, 3), (28, .lrem, 1), (29, .lstore_n 2, 1), (30, .aload_n 0, 1), (31, .getfield 10, 3), (34, .getfield 343, 3), (37, .iload 4, 2), (39, .lload_n 2, 1), (40, .ldc2_w 354, 3), (43, .lrem, 1), (44, .l2i, 1), (45, .invokestatic 216, 3), (48, .iinc 4 1, 3), (51, .goto (-43), 3), (54, .aload_n 0, 1), (55, .getfield 51, 3), (58, .invokevirtual 178, 3), (61, .return_, 1)]
theorem mX11_runByLots_0 : okd cX11_runByLots lmX11_runByLots_0 = true := by decide +kernel
theorem dX11_runByLots_0 : decode cX11_runByLots 0 = .ok (.iload_n 1, 1) := okd_at mX11_runByLots_0 0 rfl
theorem dX11_runByLots_1 : decode cX11_runByLots 1 = .ok (.iconst 1, 1) := okd_at mX11_runByLots_0 1 rfl
theorem dX11_runByLots_2 : decode cX11_runByLots 2 = .ok (.iadd, 1) := okd_at mX11_runByLots_0 2 rfl
theorem dX11_runByLots_3 : decode cX11_runByLots 3 = .ok (.i2l, 1) := okd_at mX11_runByLots_0 3 rfl
theorem dX11_runByLots_4 : decode cX11_runByLots 4 = .ok (.lstore_n 2, 1) := okd_at mX11_runByLots_0 4 rfl
theorem dX11_runByLots_5 : decode cX11_runByLots 5 = .ok (.iconst 0, 1) := okd_at mX11_runByLots_0 5 rfl
theorem dX11_runByLots_6 : decode cX11_runByLots 6 = .ok (.istore 4, 2) := okd_at mX11_runByLots_0 6 rfl
theorem dX11_runByLots_8 : decode cX11_runByLots 8 = .ok (.iload 4, 2) := okd_at mX11_runByLots_0 7 rfl
theorem dX11_runByLots_10 : decode cX11_runByLots 10 = .ok (.aload_n 0, 1) := okd_at mX11_runByLots_0 8 rfl
theorem dX11_runByLots_11 : decode cX11_runByLots 11 = .ok (.getfield 10, 3) := okd_at mX11_runByLots_0 9 rfl
theorem dX11_runByLots_14 : decode cX11_runByLots 14 = .ok (.getfield 111, 3) := okd_at mX11_runByLots_0 10 rfl
theorem dX11_runByLots_17 : decode cX11_runByLots 17 = .ok (.if_icmp .ge 37, 3) := okd_at mX11_runByLots_0 11 rfl
theorem dX11_runByLots_20 : decode cX11_runByLots 20 = .ok (.lload_n 2, 1) := okd_at mX11_runByLots_0 12 rfl
theorem dX11_runByLots_21 : decode cX11_runByLots 21 = .ok (.ldc2_w 350, 3) := okd_at mX11_runByLots_0 13 rfl
theorem dX11_runByLots_24 : decode cX11_runByLots 24 = .ok (.lmul, 1) := okd_at mX11_runByLots_0 14 rfl
theorem dX11_runByLots_25 : decode cX11_runByLots 25 = .ok (.ldc2_w 352, 3) := okd_at mX11_runByLots_0 15 rfl
theorem dX11_runByLots_28 : decode cX11_runByLots 28 = .ok (.lrem, 1) := okd_at mX11_runByLots_0 16 rfl
theorem dX11_runByLots_29 : decode cX11_runByLots 29 = .ok (.lstore_n 2, 1) := okd_at mX11_runByLots_0 17 rfl
theorem dX11_runByLots_30 : decode cX11_runByLots 30 = .ok (.aload_n 0, 1) := okd_at mX11_runByLots_0 18 rfl
theorem dX11_runByLots_31 : decode cX11_runByLots 31 = .ok (.getfield 10, 3) := okd_at mX11_runByLots_0 19 rfl
theorem dX11_runByLots_34 : decode cX11_runByLots 34 = .ok (.getfield 343, 3) := okd_at mX11_runByLots_0 20 rfl
theorem dX11_runByLots_37 : decode cX11_runByLots 37 = .ok (.iload 4, 2) := okd_at mX11_runByLots_0 21 rfl
theorem dX11_runByLots_39 : decode cX11_runByLots 39 = .ok (.lload_n 2, 1) := okd_at mX11_runByLots_0 22 rfl
theorem dX11_runByLots_40 : decode cX11_runByLots 40 = .ok (.ldc2_w 354, 3) := okd_at mX11_runByLots_0 23 rfl
theorem dX11_runByLots_43 : decode cX11_runByLots 43 = .ok (.lrem, 1) := okd_at mX11_runByLots_0 24 rfl
theorem dX11_runByLots_44 : decode cX11_runByLots 44 = .ok (.l2i, 1) := okd_at mX11_runByLots_0 25 rfl
theorem dX11_runByLots_45 : decode cX11_runByLots 45 = .ok (.invokestatic 216, 3) := okd_at mX11_runByLots_0 26 rfl
theorem dX11_runByLots_48 : decode cX11_runByLots 48 = .ok (.iinc 4 1, 3) := okd_at mX11_runByLots_0 27 rfl
theorem dX11_runByLots_51 : decode cX11_runByLots 51 = .ok (.goto (-43), 3) := okd_at mX11_runByLots_0 28 rfl
theorem dX11_runByLots_54 : decode cX11_runByLots 54 = .ok (.aload_n 0, 1) := okd_at mX11_runByLots_0 29 rfl
theorem dX11_runByLots_55 : decode cX11_runByLots 55 = .ok (.getfield 51, 3) := okd_at mX11_runByLots_0 30 rfl
theorem dX11_runByLots_58 : decode cX11_runByLots 58 = .ok (.invokevirtual 178, 3) := okd_at mX11_runByLots_0 31 rfl
theorem dX11_runByLots_61 : decode cX11_runByLots 61 = .ok (.return_, 1) := okd_at mX11_runByLots_0 32 rfl
def lmX11_set_0 : List (Nat × Instr × Nat) := [(0, .iload_n 1, 1), (1, .ifCond .lt 13, 3), (4, .iload_n 1, 1), (5, .aload_n 0, 1), (6, .arraylength, 1), (7, .if_icmp .ge 7, 3), (10, .aload_n 0, 1), (11, .iload_n 1, 1), (12, .iload_n 2, 1), (13, .iastore, 1), (14, .return_, 1)]
theorem mX11_set_0 : okd cX11_set lmX11_set_0 = true := by decide +kernel
theorem dX11_set_0 : decode cX11_set 0 = .ok (.iload_n 1, 1) := okd_at mX11_set_0 0 rfl
theorem dX11_set_1 : decode cX11_set 1 = .ok (.ifCond .lt 13, 3) := okd_at mX11_set_0 1 rfl
theorem dX11_set_4 : decode cX11_set 4 = .ok (.iload_n 1, 1) := okd_at mX11_set_0 2 rfl
theorem dX11_set_5 : decode cX11_set 5 = .ok (.aload_n 0, 1) := okd_at mX11_set_0 3 rfl
theorem dX11_set_6 : decode cX11_set 6 = .ok (.arraylength, 1) := okd_at mX11_set_0 4 rfl
theorem dX11_set_7 : decode cX11_set 7 = .ok (.if_icmp .ge 7, 3) := okd_at mX11_set_0 5 rfl
theorem dX11_set_10 : decode cX11_set 10 = .ok (.aload_n 0, 1) := okd_at mX11_set_0 6 rfl
theorem dX11_set_11 : decode cX11_set 11 = .ok (.iload_n 1, 1) := okd_at mX11_set_0 7 rfl
theorem dX11_set_12 : decode cX11_set 12 = .ok (.iload_n 2, 1) := okd_at mX11_set_0 8 rfl
theorem dX11_set_13 : decode cX11_set 13 = .ok (.iastore, 1) := okd_at mX11_set_0 9 rfl
theorem dX11_set_14 : decode cX11_set 14 = .ok (.return_, 1) := okd_at mX11_set_0 10 rfl
def lmX11_sheet_0 : List (Nat × Instr × Nat) := [(0, .aload_n 0, 1), (1, .iload_n 1, 1), (2, .invokevirtual 223, 3), (5, .astore 4, 2), (7, .aload 4, 2), (9, .ifnull 12, 3), (12, .iload_n 2, 1), (13, .iconst (-1), 1), (14, .iconst 2, 1), (15, .invokestatic 119, 3), (18, .ifCond .ne 6, 3), (21, .bipush (-2), 2), (23, .ireturn, 1), (24, .iload_n 2, 1), (25, .iconst (-1), 1), (26, .if_icmp .ne 10, 3), (29, .aload 4, 2), (31, .invokevirtual 293, 3), (34, .iconst 1, 1), (35, .ireturn, 1), (36, .iload_n 3, 1), (37, .bipush 40, 2), (39, .if_icmp .le 6, 3), (42, .bipush (-2), 2), (44, .ireturn, 1), (45, .iload_n 3, 1), (46, .ifCond .ge 6, 3), (49, .bipush (-14), 2), (51, .ireturn, 1), (52, .aload 4, 2), (54, .iload_n 2, 1), (55, .iload_n 3, 1), (56, .invokevirtual 255, 3), (59, .iconst 1, 1), (60, .ireturn, 1)]
theorem mX11_sheet_0 : okd cX11_sheet lmX11_sheet_0 = true := by decide +kernel
theorem dX11_sheet_0 : decode cX11_sheet 0 = .ok (.aload_n 0, 1) := okd_at mX11_sheet_0 0 rfl
theorem dX11_sheet_1 : decode cX11_sheet 1 = .ok (.iload_n 1, 1) := okd_at mX11_sheet_0 1 rfl
theorem dX11_sheet_2 : decode cX11_sheet 2 = .ok (.invokevirtual 223, 3) := okd_at mX11_sheet_0 2 rfl
theorem dX11_sheet_5 : decode cX11_sheet 5 = .ok (.astore 4, 2) := okd_at mX11_sheet_0 3 rfl
theorem dX11_sheet_7 : decode cX11_sheet 7 = .ok (.aload 4, 2) := okd_at mX11_sheet_0 4 rfl
theorem dX11_sheet_9 : decode cX11_sheet 9 = .ok (.ifnull 12, 3) := okd_at mX11_sheet_0 5 rfl
theorem dX11_sheet_12 : decode cX11_sheet 12 = .ok (.iload_n 2, 1) := okd_at mX11_sheet_0 6 rfl
theorem dX11_sheet_13 : decode cX11_sheet 13 = .ok (.iconst (-1), 1) := okd_at mX11_sheet_0 7 rfl
theorem dX11_sheet_14 : decode cX11_sheet 14 = .ok (.iconst 2, 1) := okd_at mX11_sheet_0 8 rfl
theorem dX11_sheet_15 : decode cX11_sheet 15 = .ok (.invokestatic 119, 3) := okd_at mX11_sheet_0 9 rfl
theorem dX11_sheet_18 : decode cX11_sheet 18 = .ok (.ifCond .ne 6, 3) := okd_at mX11_sheet_0 10 rfl
theorem dX11_sheet_21 : decode cX11_sheet 21 = .ok (.bipush (-2), 2) := okd_at mX11_sheet_0 11 rfl
theorem dX11_sheet_23 : decode cX11_sheet 23 = .ok (.ireturn, 1) := okd_at mX11_sheet_0 12 rfl
theorem dX11_sheet_24 : decode cX11_sheet 24 = .ok (.iload_n 2, 1) := okd_at mX11_sheet_0 13 rfl
theorem dX11_sheet_25 : decode cX11_sheet 25 = .ok (.iconst (-1), 1) := okd_at mX11_sheet_0 14 rfl
theorem dX11_sheet_26 : decode cX11_sheet 26 = .ok (.if_icmp .ne 10, 3) := okd_at mX11_sheet_0 15 rfl
theorem dX11_sheet_29 : decode cX11_sheet 29 = .ok (.aload 4, 2) := okd_at mX11_sheet_0 16 rfl
theorem dX11_sheet_31 : decode cX11_sheet 31 = .ok (.invokevirtual 293, 3) := okd_at mX11_sheet_0 17 rfl
theorem dX11_sheet_34 : decode cX11_sheet 34 = .ok (.iconst 1, 1) := okd_at mX11_sheet_0 18 rfl
theorem dX11_sheet_35 : decode cX11_sheet 35 = .ok (.ireturn, 1) := okd_at mX11_sheet_0 19 rfl
theorem dX11_sheet_36 : decode cX11_sheet 36 = .ok (.iload_n 3, 1) := okd_at mX11_sheet_0 20 rfl
theorem dX11_sheet_37 : decode cX11_sheet 37 = .ok (.bipush 40, 2) := okd_at mX11_sheet_0 21 rfl
theorem dX11_sheet_39 : decode cX11_sheet 39 = .ok (.if_icmp .le 6, 3) := okd_at mX11_sheet_0 22 rfl
theorem dX11_sheet_42 : decode cX11_sheet 42 = .ok (.bipush (-2), 2) := okd_at mX11_sheet_0 23 rfl
theorem dX11_sheet_44 : decode cX11_sheet 44 = .ok (.ireturn, 1) := okd_at mX11_sheet_0 24 rfl
theorem dX11_sheet_45 : decode cX11_sheet 45 = .ok (.iload_n 3, 1) := okd_at mX11_sheet_0 25 rfl
theorem dX11_sheet_46 : decode cX11_sheet 46 = .ok (.ifCond .ge 6, 3) := okd_at mX11_sheet_0 26 rfl
theorem dX11_sheet_49 : decode cX11_sheet 49 = .ok (.bipush (-14), 2) := okd_at mX11_sheet_0 27 rfl
theorem dX11_sheet_51 : decode cX11_sheet 51 = .ok (.ireturn, 1) := okd_at mX11_sheet_0 28 rfl
theorem dX11_sheet_52 : decode cX11_sheet 52 = .ok (.aload 4, 2) := okd_at mX11_sheet_0 29 rfl
theorem dX11_sheet_54 : decode cX11_sheet 54 = .ok (.iload_n 2, 1) := okd_at mX11_sheet_0 30 rfl
theorem dX11_sheet_55 : decode cX11_sheet 55 = .ok (.iload_n 3, 1) := okd_at mX11_sheet_0 31 rfl
theorem dX11_sheet_56 : decode cX11_sheet 56 = .ok (.invokevirtual 255, 3) := okd_at mX11_sheet_0 32 rfl
theorem dX11_sheet_59 : decode cX11_sheet 59 = .ok (.iconst 1, 1) := okd_at mX11_sheet_0 33 rfl
theorem dX11_sheet_60 : decode cX11_sheet 60 = .ok (.ireturn, 1) := okd_at mX11_sheet_0 34 rfl
def lmX11_sheetAt_0 : List (Nat × Instr × Nat) := [(0, .iload_n 1, 1), (1, .ifCond .lt 21, 3), (4, .iload_n 1, 1), (5, .aload_n 0, 1), (6, .getfield 73, 3), (9, .arraylength, 1), (10, .if_icmp .ge 12, 3), (13, .aload_n 0, 1), (14, .getfield 73, 3), (17, .iload_n 1, 1), (18, .aaload, 1), (19, .goto 4, 3), (22, .aconst_null, 1), (23, .areturn, 1)]
theorem mX11_sheetAt_0 : okd cX11_sheetAt lmX11_sheetAt_0 = true := by decide +kernel
theorem dX11_sheetAt_0 : decode cX11_sheetAt 0 = .ok (.iload_n 1, 1) := okd_at mX11_sheetAt_0 0 rfl
theorem dX11_sheetAt_1 : decode cX11_sheetAt 1 = .ok (.ifCond .lt 21, 3) := okd_at mX11_sheetAt_0 1 rfl
theorem dX11_sheetAt_4 : decode cX11_sheetAt 4 = .ok (.iload_n 1, 1) := okd_at mX11_sheetAt_0 2 rfl
theorem dX11_sheetAt_5 : decode cX11_sheetAt 5 = .ok (.aload_n 0, 1) := okd_at mX11_sheetAt_0 3 rfl
theorem dX11_sheetAt_6 : decode cX11_sheetAt 6 = .ok (.getfield 73, 3) := okd_at mX11_sheetAt_0 4 rfl
theorem dX11_sheetAt_9 : decode cX11_sheetAt 9 = .ok (.arraylength, 1) := okd_at mX11_sheetAt_0 5 rfl
theorem dX11_sheetAt_10 : decode cX11_sheetAt 10 = .ok (.if_icmp .ge 12, 3) := okd_at mX11_sheetAt_0 6 rfl
theorem dX11_sheetAt_13 : decode cX11_sheetAt 13 = .ok (.aload_n 0, 1) := okd_at mX11_sheetAt_0 7 rfl
theorem dX11_sheetAt_14 : decode cX11_sheetAt 14 = .ok (.getfield 73, 3) := okd_at mX11_sheetAt_0 8 rfl
theorem dX11_sheetAt_17 : decode cX11_sheetAt 17 = .ok (.iload_n 1, 1) := okd_at mX11_sheetAt_0 9 rfl
theorem dX11_sheetAt_18 : decode cX11_sheetAt 18 = .ok (.aaload, 1) := okd_at mX11_sheetAt_0 10 rfl
theorem dX11_sheetAt_19 : decode cX11_sheetAt 19 = .ok (.goto 4, 3) := okd_at mX11_sheetAt_0 11 rfl
theorem dX11_sheetAt_22 : decode cX11_sheetAt 22 = .ok (.aconst_null, 1) := okd_at mX11_sheetAt_0 12 rfl
theorem dX11_sheetAt_23 : decode cX11_sheetAt 23 = .ok (.areturn, 1) := okd_at mX11_sheetAt_0 13 rfl
def lmX11_spare_0 : List (Nat × Instr × Nat) := [(0, .iload_n 1, 1), (1, .iconst 0, 1), (2, .iconst 2, 1), (3, .invokestatic 119, 3), (6, .ifCond .eq 12, 3), (9, .aload_n 0, 1), (10, .iload_n 1, 1), (11, .iconst 1, 1), (12, .invokevirtual 195, 3), (15, .goto 6, 3), (18, .sipush (-1000), 3), (21, .ireturn, 1)]
theorem mX11_spare_0 : okd cX11_spare lmX11_spare_0 = true := by decide +kernel
theorem dX11_spare_0 : decode cX11_spare 0 = .ok (.iload_n 1, 1) := okd_at mX11_spare_0 0 rfl
theorem dX11_spare_1 : decode cX11_spare 1 = .ok (.iconst 0, 1) := okd_at mX11_spare_0 1 rfl
theorem dX11_spare_2 : decode cX11_spare 2 = .ok (.iconst 2, 1) := okd_at mX11_spare_0 2 rfl
theorem dX11_spare_3 : decode cX11_spare 3 = .ok (.invokestatic 119, 3) := okd_at mX11_spare_0 3 rfl
theorem dX11_spare_6 : decode cX11_spare 6 = .ok (.ifCond .eq 12, 3) := okd_at mX11_spare_0 4 rfl
theorem dX11_spare_9 : decode cX11_spare 9 = .ok (.aload_n 0, 1) := okd_at mX11_spare_0 5 rfl
theorem dX11_spare_10 : decode cX11_spare 10 = .ok (.iload_n 1, 1) := okd_at mX11_spare_0 6 rfl
theorem dX11_spare_11 : decode cX11_spare 11 = .ok (.iconst 1, 1) := okd_at mX11_spare_0 7 rfl
theorem dX11_spare_12 : decode cX11_spare 12 = .ok (.invokevirtual 195, 3) := okd_at mX11_spare_0 8 rfl
theorem dX11_spare_15 : decode cX11_spare 15 = .ok (.goto 6, 3) := okd_at mX11_spare_0 9 rfl
theorem dX11_spare_18 : decode cX11_spare 18 = .ok (.sipush (-1000), 3) := okd_at mX11_spare_0 10 rfl
theorem dX11_spare_21 : decode cX11_spare 21 = .ok (.ireturn, 1) := okd_at mX11_spare_0 11 rfl
def lmX11_taken_0 : List (Nat × Instr × Nat) := [(0, .iload_n 2, 1), (1, .iconst 0, 1), (2, .bipush 6, 2), (4, .invokestatic 119, 3), (7, .ifCond .ne 6, 3), (10, .bipush (-2), 2), (12, .ireturn, 1), (13, .iload_n 1, 1), (14, .iconst 0, 1), (15, .bipush 13, 2), (17, .invokestatic 119, 3), (20, .ifCond .ne 6, 3), (23, .bipush (-12), 2), (25, .ireturn, 1), (26, .iload_n 1, 1), (27, .bipush 6, 2), (29, .if_icmp .ge 10, 3), (32, .aload_n 0, 1), (33, .iload_n 1, 1), (34, .iload_n 2, 1), (35, .invokevirtual 323, 3), (38, .ireturn, 1), (39, .iload_n 1, 1), (40, .bipush 6, 2), (42, .isub, 1), (43, .istore_n 3, 1), (44, .aload_n 0, 1), (45, .iload_n 3, 1), (46, .invokevirtual 126, 3), (49, .ifCond .ne 6, 3), (52, .bipush (-11), 2), (54, .ireturn, 1), (55, .iload_n 2, 1), (56, .bipush 6, 2), (58, .if_icmp .ne 17, 3), (61, .aload_n 0, 1), (62, .getfield 10, 3), (65, .getfield 326, 3), (68, .iload_n 3, 1), (69, .invokestatic 138, 3), (72, .goto 5, 3), (75, .bipush (-13), 2), (77, .ireturn, 1)]
theorem mX11_taken_0 : okd cX11_taken lmX11_taken_0 = true := by decide +kernel
theorem dX11_taken_0 : decode cX11_taken 0 = .ok (.iload_n 2, 1) := okd_at mX11_taken_0 0 rfl
theorem dX11_taken_1 : decode cX11_taken 1 = .ok (.iconst 0, 1) := okd_at mX11_taken_0 1 rfl
theorem dX11_taken_2 : decode cX11_taken 2 = .ok (.bipush 6, 2) := okd_at mX11_taken_0 2 rfl
theorem dX11_taken_4 : decode cX11_taken 4 = .ok (.invokestatic 119, 3) := okd_at mX11_taken_0 3 rfl
theorem dX11_taken_7 : decode cX11_taken 7 = .ok (.ifCond .ne 6, 3) := okd_at mX11_taken_0 4 rfl
theorem dX11_taken_10 : decode cX11_taken 10 = .ok (.bipush (-2), 2) := okd_at mX11_taken_0 5 rfl
theorem dX11_taken_12 : decode cX11_taken 12 = .ok (.ireturn, 1) := okd_at mX11_taken_0 6 rfl
theorem dX11_taken_13 : decode cX11_taken 13 = .ok (.iload_n 1, 1) := okd_at mX11_taken_0 7 rfl
theorem dX11_taken_14 : decode cX11_taken 14 = .ok (.iconst 0, 1) := okd_at mX11_taken_0 8 rfl
theorem dX11_taken_15 : decode cX11_taken 15 = .ok (.bipush 13, 2) := okd_at mX11_taken_0 9 rfl
theorem dX11_taken_17 : decode cX11_taken 17 = .ok (.invokestatic 119, 3) := okd_at mX11_taken_0 10 rfl
theorem dX11_taken_20 : decode cX11_taken 20 = .ok (.ifCond .ne 6, 3) := okd_at mX11_taken_0 11 rfl
theorem dX11_taken_23 : decode cX11_taken 23 = .ok (.bipush (-12), 2) := okd_at mX11_taken_0 12 rfl
theorem dX11_taken_25 : decode cX11_taken 25 = .ok (.ireturn, 1) := okd_at mX11_taken_0 13 rfl
theorem dX11_taken_26 : decode cX11_taken 26 = .ok (.iload_n 1, 1) := okd_at mX11_taken_0 14 rfl
theorem dX11_taken_27 : decode cX11_taken 27 = .ok (.bipush 6, 2) := okd_at mX11_taken_0 15 rfl
theorem dX11_taken_29 : decode cX11_taken 29 = .ok (.if_icmp .ge 10, 3) := okd_at mX11_taken_0 16 rfl
theorem dX11_taken_32 : decode cX11_taken 32 = .ok (.aload_n 0, 1) := okd_at mX11_taken_0 17 rfl
theorem dX11_taken_33 : decode cX11_taken 33 = .ok (.iload_n 1, 1) := okd_at mX11_taken_0 18 rfl
theorem dX11_taken_34 : decode cX11_taken 34 = .ok (.iload_n 2, 1) := okd_at mX11_taken_0 19 rfl
theorem dX11_taken_35 : decode cX11_taken 35 = .ok (.invokevirtual 323, 3) := okd_at mX11_taken_0 20 rfl
theorem dX11_taken_38 : decode cX11_taken 38 = .ok (.ireturn, 1) := okd_at mX11_taken_0 21 rfl
theorem dX11_taken_39 : decode cX11_taken 39 = .ok (.iload_n 1, 1) := okd_at mX11_taken_0 22 rfl
theorem dX11_taken_40 : decode cX11_taken 40 = .ok (.bipush 6, 2) := okd_at mX11_taken_0 23 rfl
theorem dX11_taken_42 : decode cX11_taken 42 = .ok (.isub, 1) := okd_at mX11_taken_0 24 rfl
theorem dX11_taken_43 : decode cX11_taken 43 = .ok (.istore_n 3, 1) := okd_at mX11_taken_0 25 rfl
theorem dX11_taken_44 : decode cX11_taken 44 = .ok (.aload_n 0, 1) := okd_at mX11_taken_0 26 rfl
theorem dX11_taken_45 : decode cX11_taken 45 = .ok (.iload_n 3, 1) := okd_at mX11_taken_0 27 rfl
theorem dX11_taken_46 : decode cX11_taken 46 = .ok (.invokevirtual 126, 3) := okd_at mX11_taken_0 28 rfl
theorem dX11_taken_49 : decode cX11_taken 49 = .ok (.ifCond .ne 6, 3) := okd_at mX11_taken_0 29 rfl
theorem dX11_taken_52 : decode cX11_taken 52 = .ok (.bipush (-11), 2) := okd_at mX11_taken_0 30 rfl
theorem dX11_taken_54 : decode cX11_taken 54 = .ok (.ireturn, 1) := okd_at mX11_taken_0 31 rfl
theorem dX11_taken_55 : decode cX11_taken 55 = .ok (.iload_n 2, 1) := okd_at mX11_taken_0 32 rfl
theorem dX11_taken_56 : decode cX11_taken 56 = .ok (.bipush 6, 2) := okd_at mX11_taken_0 33 rfl
theorem dX11_taken_58 : decode cX11_taken 58 = .ok (.if_icmp .ne 17, 3) := okd_at mX11_taken_0 34 rfl
theorem dX11_taken_61 : decode cX11_taken 61 = .ok (.aload_n 0, 1) := okd_at mX11_taken_0 35 rfl
theorem dX11_taken_62 : decode cX11_taken 62 = .ok (.getfield 10, 3) := okd_at mX11_taken_0 36 rfl
theorem dX11_taken_65 : decode cX11_taken 65 = .ok (.getfield 326, 3) := okd_at mX11_taken_0 37 rfl
theorem dX11_taken_68 : decode cX11_taken 68 = .ok (.iload_n 3, 1) := okd_at mX11_taken_0 38 rfl
theorem dX11_taken_69 : decode cX11_taken 69 = .ok (.invokestatic 138, 3) := okd_at mX11_taken_0 39 rfl
theorem dX11_taken_72 : decode cX11_taken 72 = .ok (.goto 5, 3) := okd_at mX11_taken_0 40 rfl
theorem dX11_taken_75 : decode cX11_taken 75 = .ok (.bipush (-13), 2) := okd_at mX11_taken_0 41 rfl
theorem dX11_taken_77 : decode cX11_taken 77 = .ok (.ireturn, 1) := okd_at mX11_taken_0 42 rfl
def lmX11_takenForRace_0 : List (Nat × Instr × Nat) := [(0, .aload_n 0, 1), (1, .iload_n 1, 1), (2, .invokevirtual 145, 3), (5, .ifCond .ne 6, 3), (8, .bipush (-11), 2), (10, .ireturn, 1), (11, .aload_n 0, 1), (12, .getfield 19, 3), (15, .getfield 234, 3), (18, .iload_n 1, 1), (19, .invokestatic 138, 3), (22, .iload_n 2, 1), (23, .invokestatic 356, 3), (26, .ifCond .eq 7, 3), (29, .iload_n 1, 1), (30, .goto 5, 3), (33, .bipush (-13), 2), (35, .ireturn, 1)]
theorem mX11_takenForRace_0 : okd cX11_takenForRace lmX11_takenForRace_0 = true := by decide +kernel
theorem dX11_takenForRace_0 : decode cX11_takenForRace 0 = .ok (.aload_n 0, 1) := okd_at mX11_takenForRace_0 0 rfl
theorem dX11_takenForRace_1 : decode cX11_takenForRace 1 = .ok (.iload_n 1, 1) := okd_at mX11_takenForRace_0 1 rfl
theorem dX11_takenForRace_2 : decode cX11_takenForRace 2 = .ok (.invokevirtual 145, 3) := okd_at mX11_takenForRace_0 2 rfl
theorem dX11_takenForRace_5 : decode cX11_takenForRace 5 = .ok (.ifCond .ne 6, 3) := okd_at mX11_takenForRace_0 3 rfl
theorem dX11_takenForRace_8 : decode cX11_takenForRace 8 = .ok (.bipush (-11), 2) := okd_at mX11_takenForRace_0 4 rfl
theorem dX11_takenForRace_10 : decode cX11_takenForRace 10 = .ok (.ireturn, 1) := okd_at mX11_takenForRace_0 5 rfl
theorem dX11_takenForRace_11 : decode cX11_takenForRace 11 = .ok (.aload_n 0, 1) := okd_at mX11_takenForRace_0 6 rfl
theorem dX11_takenForRace_12 : decode cX11_takenForRace 12 = .ok (.getfield 19, 3) := okd_at mX11_takenForRace_0 7 rfl
theorem dX11_takenForRace_15 : decode cX11_takenForRace 15 = .ok (.getfield 234, 3) := okd_at mX11_takenForRace_0 8 rfl
theorem dX11_takenForRace_18 : decode cX11_takenForRace 18 = .ok (.iload_n 1, 1) := okd_at mX11_takenForRace_0 9 rfl
theorem dX11_takenForRace_19 : decode cX11_takenForRace 19 = .ok (.invokestatic 138, 3) := okd_at mX11_takenForRace_0 10 rfl
theorem dX11_takenForRace_22 : decode cX11_takenForRace 22 = .ok (.iload_n 2, 1) := okd_at mX11_takenForRace_0 11 rfl
theorem dX11_takenForRace_23 : decode cX11_takenForRace 23 = .ok (.invokestatic 356, 3) := okd_at mX11_takenForRace_0 12 rfl
theorem dX11_takenForRace_26 : decode cX11_takenForRace 26 = .ok (.ifCond .eq 7, 3) := okd_at mX11_takenForRace_0 13 rfl
theorem dX11_takenForRace_29 : decode cX11_takenForRace 29 = .ok (.iload_n 1, 1) := okd_at mX11_takenForRace_0 14 rfl
theorem dX11_takenForRace_30 : decode cX11_takenForRace 30 = .ok (.goto 5, 3) := okd_at mX11_takenForRace_0 15 rfl
theorem dX11_takenForRace_33 : decode cX11_takenForRace 33 = .ok (.bipush (-13), 2) := okd_at mX11_takenForRace_0 16 rfl
theorem dX11_takenForRace_35 : decode cX11_takenForRace 35 = .ok (.ireturn, 1) := okd_at mX11_takenForRace_0 17 rfl
def lmX11_text_0 : List (Nat × Instr × Nat) := [(0, .aload_n 0, 1), (1, .invokevirtual 104, 3), (4, .ireturn, 1)]
theorem mX11_text_0 : okd cX11_text lmX11_text_0 = true := by decide +kernel
theorem dX11_text_0 : decode cX11_text 0 = .ok (.aload_n 0, 1) := okd_at mX11_text_0 0 rfl
theorem dX11_text_1 : decode cX11_text 1 = .ok (.invokevirtual 104, 3) := okd_at mX11_text_0 1 rfl
theorem dX11_text_4 : decode cX11_text 4 = .ok (.ireturn, 1) := okd_at mX11_text_0 2 rfl
def lmX11_tie_0 : List (Nat × Instr × Nat) := [(0, .iload_n 1, 1), (1, .iconst 0, 1), (2, .iconst 2, 1), (3, .invokestatic 119, 3), (6, .ifCond .ne 7, 3), (9, .sipush (-1000), 3), (12, .ireturn, 1), (13, .aload_n 0, 1), (14, .getfield 51, 3), (17, .invokevirtual 178, 3), (20, .aload_n 0, 1), (21, .getfield 58, 3), (24, .aload_n 0, 1), (25, .getfield 51, 3), (28, .invokevirtual 198, 3), (31, .iconst 0, 1), (32, .istore_n 2, 1), (33, .iload_n 2, 1), (34, .aload_n 0, 1), (35, .getfield 19, 3), (38, .getfield 107, 3), (41, .if_icmp .ge 86, 3), (44, .aload_n 0, 1), (45, .getfield 19, 3), (48, .getfield 161, 3), (51, .iload_n 2, 1), (52, .invokestatic 138, 3), (55, .istore_n 3, 1), (56, .iconst 0, 1), (57, .istore 4, 2), (59, .iload 4, 2), (61, .iconst 3, 1), (62, .if_icmp .gt 47, 3), (65, .aload_n 0, 1), (66, .getfield 19, 3), (69, .getfield 161, 3), (72, .iload_n 2, 1), (73, .iload 4, 2), (75, .invokestatic 216, 3), (78, .aload_n 0, 1), (79, .getfield 51, 3), (82, .invokevirtual 178, 3), (85, .aload_n 0, 1), (86, .getfield 58, 3), (89, .bipush 10, 2), (91, .iload_n 2, 1), (92, .imul, 1), (93, .iload 4, 2), (95, .iadd, 1), (96, .aload_n 0, 1), (97, .getfield 51, 3), (100, .invokevirtual 205, 3), (103, .iinc 4 1, 3), (106, .goto (-47), 3), (109, .aload_n 0, 1), (110, .getfield 19, 3), (113, .getfield 161, 3), (116, .iload_n 2, 1), (117, .iload_n 3, 1), (118, .invokestatic 216, 3)]
theorem mX11_tie_0 : okd cX11_tie lmX11_tie_0 = true := by decide +kernel
theorem dX11_tie_0 : decode cX11_tie 0 = .ok (.iload_n 1, 1) := okd_at mX11_tie_0 0 rfl
theorem dX11_tie_1 : decode cX11_tie 1 = .ok (.iconst 0, 1) := okd_at mX11_tie_0 1 rfl
theorem dX11_tie_2 : decode cX11_tie 2 = .ok (.iconst 2, 1) := okd_at mX11_tie_0 2 rfl
theorem dX11_tie_3 : decode cX11_tie 3 = .ok (.invokestatic 119, 3) := okd_at mX11_tie_0 3 rfl
theorem dX11_tie_6 : decode cX11_tie 6 = .ok (.ifCond .ne 7, 3) := okd_at mX11_tie_0 4 rfl
theorem dX11_tie_9 : decode cX11_tie 9 = .ok (.sipush (-1000), 3) := okd_at mX11_tie_0 5 rfl
theorem dX11_tie_12 : decode cX11_tie 12 = .ok (.ireturn, 1) := okd_at mX11_tie_0 6 rfl
theorem dX11_tie_13 : decode cX11_tie 13 = .ok (.aload_n 0, 1) := okd_at mX11_tie_0 7 rfl
theorem dX11_tie_14 : decode cX11_tie 14 = .ok (.getfield 51, 3) := okd_at mX11_tie_0 8 rfl
theorem dX11_tie_17 : decode cX11_tie 17 = .ok (.invokevirtual 178, 3) := okd_at mX11_tie_0 9 rfl
theorem dX11_tie_20 : decode cX11_tie 20 = .ok (.aload_n 0, 1) := okd_at mX11_tie_0 10 rfl
theorem dX11_tie_21 : decode cX11_tie 21 = .ok (.getfield 58, 3) := okd_at mX11_tie_0 11 rfl
theorem dX11_tie_24 : decode cX11_tie 24 = .ok (.aload_n 0, 1) := okd_at mX11_tie_0 12 rfl
theorem dX11_tie_25 : decode cX11_tie 25 = .ok (.getfield 51, 3) := okd_at mX11_tie_0 13 rfl
theorem dX11_tie_28 : decode cX11_tie 28 = .ok (.invokevirtual 198, 3) := okd_at mX11_tie_0 14 rfl
theorem dX11_tie_31 : decode cX11_tie 31 = .ok (.iconst 0, 1) := okd_at mX11_tie_0 15 rfl
theorem dX11_tie_32 : decode cX11_tie 32 = .ok (.istore_n 2, 1) := okd_at mX11_tie_0 16 rfl
theorem dX11_tie_33 : decode cX11_tie 33 = .ok (.iload_n 2, 1) := okd_at mX11_tie_0 17 rfl
theorem dX11_tie_34 : decode cX11_tie 34 = .ok (.aload_n 0, 1) := okd_at mX11_tie_0 18 rfl
theorem dX11_tie_35 : decode cX11_tie 35 = .ok (.getfield 19, 3) := okd_at mX11_tie_0 19 rfl
theorem dX11_tie_38 : decode cX11_tie 38 = .ok (.getfield 107, 3) := okd_at mX11_tie_0 20 rfl
theorem dX11_tie_41 : decode cX11_tie 41 = .ok (.if_icmp .ge 86, 3) := okd_at mX11_tie_0 21 rfl
theorem dX11_tie_44 : decode cX11_tie 44 = .ok (.aload_n 0, 1) := okd_at mX11_tie_0 22 rfl
theorem dX11_tie_45 : decode cX11_tie 45 = .ok (.getfield 19, 3) := okd_at mX11_tie_0 23 rfl
theorem dX11_tie_48 : decode cX11_tie 48 = .ok (.getfield 161, 3) := okd_at mX11_tie_0 24 rfl
theorem dX11_tie_51 : decode cX11_tie 51 = .ok (.iload_n 2, 1) := okd_at mX11_tie_0 25 rfl
theorem dX11_tie_52 : decode cX11_tie 52 = .ok (.invokestatic 138, 3) := okd_at mX11_tie_0 26 rfl
theorem dX11_tie_55 : decode cX11_tie 55 = .ok (.istore_n 3, 1) := okd_at mX11_tie_0 27 rfl
theorem dX11_tie_56 : decode cX11_tie 56 = .ok (.iconst 0, 1) := okd_at mX11_tie_0 28 rfl
theorem dX11_tie_57 : decode cX11_tie 57 = .ok (.istore 4, 2) := okd_at mX11_tie_0 29 rfl
theorem dX11_tie_59 : decode cX11_tie 59 = .ok (.iload 4, 2) := okd_at mX11_tie_0 30 rfl
theorem dX11_tie_61 : decode cX11_tie 61 = .ok (.iconst 3, 1) := okd_at mX11_tie_0 31 rfl
theorem dX11_tie_62 : decode cX11_tie 62 = .ok (.if_icmp .gt 47, 3) := okd_at mX11_tie_0 32 rfl
theorem dX11_tie_65 : decode cX11_tie 65 = .ok (.aload_n 0, 1) := okd_at mX11_tie_0 33 rfl
theorem dX11_tie_66 : decode cX11_tie 66 = .ok (.getfield 19, 3) := okd_at mX11_tie_0 34 rfl
theorem dX11_tie_69 : decode cX11_tie 69 = .ok (.getfield 161, 3) := okd_at mX11_tie_0 35 rfl
theorem dX11_tie_72 : decode cX11_tie 72 = .ok (.iload_n 2, 1) := okd_at mX11_tie_0 36 rfl
theorem dX11_tie_73 : decode cX11_tie 73 = .ok (.iload 4, 2) := okd_at mX11_tie_0 37 rfl
theorem dX11_tie_75 : decode cX11_tie 75 = .ok (.invokestatic 216, 3) := okd_at mX11_tie_0 38 rfl
theorem dX11_tie_78 : decode cX11_tie 78 = .ok (.aload_n 0, 1) := okd_at mX11_tie_0 39 rfl
theorem dX11_tie_79 : decode cX11_tie 79 = .ok (.getfield 51, 3) := okd_at mX11_tie_0 40 rfl
theorem dX11_tie_82 : decode cX11_tie 82 = .ok (.invokevirtual 178, 3) := okd_at mX11_tie_0 41 rfl
theorem dX11_tie_85 : decode cX11_tie 85 = .ok (.aload_n 0, 1) := okd_at mX11_tie_0 42 rfl
theorem dX11_tie_86 : decode cX11_tie 86 = .ok (.getfield 58, 3) := okd_at mX11_tie_0 43 rfl
theorem dX11_tie_89 : decode cX11_tie 89 = .ok (.bipush 10, 2) := okd_at mX11_tie_0 44 rfl
theorem dX11_tie_91 : decode cX11_tie 91 = .ok (.iload_n 2, 1) := okd_at mX11_tie_0 45 rfl
theorem dX11_tie_92 : decode cX11_tie 92 = .ok (.imul, 1) := okd_at mX11_tie_0 46 rfl
theorem dX11_tie_93 : decode cX11_tie 93 = .ok (.iload 4, 2) := okd_at mX11_tie_0 47 rfl
theorem dX11_tie_95 : decode cX11_tie 95 = .ok (.iadd, 1) := okd_at mX11_tie_0 48 rfl
theorem dX11_tie_96 : decode cX11_tie 96 = .ok (.aload_n 0, 1) := okd_at mX11_tie_0 49 rfl
theorem dX11_tie_97 : decode cX11_tie 97 = .ok (.getfield 51, 3) := okd_at mX11_tie_0 50 rfl
theorem dX11_tie_100 : decode cX11_tie 100 = .ok (.invokevirtual 205, 3) := okd_at mX11_tie_0 51 rfl
theorem dX11_tie_103 : decode cX11_tie 103 = .ok (.iinc 4 1, 3) := okd_at mX11_tie_0 52 rfl
theorem dX11_tie_106 : decode cX11_tie 106 = .ok (.goto (-47), 3) := okd_at mX11_tie_0 53 rfl
theorem dX11_tie_109 : decode cX11_tie 109 = .ok (.aload_n 0, 1) := okd_at mX11_tie_0 54 rfl
theorem dX11_tie_110 : decode cX11_tie 110 = .ok (.getfield 19, 3) := okd_at mX11_tie_0 55 rfl
theorem dX11_tie_113 : decode cX11_tie 113 = .ok (.getfield 161, 3) := okd_at mX11_tie_0 56 rfl
theorem dX11_tie_116 : decode cX11_tie 116 = .ok (.iload_n 2, 1) := okd_at mX11_tie_0 57 rfl
theorem dX11_tie_117 : decode cX11_tie 117 = .ok (.iload_n 3, 1) := okd_at mX11_tie_0 58 rfl
theorem dX11_tie_118 : decode cX11_tie 118 = .ok (.invokestatic 216, 3) := okd_at mX11_tie_0 59 rfl
def lmX11_tie_1 : List (Nat × Instr × Nat) := [(121, .iinc 2 1, 3), (124, .goto (-91), 3), (127, .aload_n 0, 1), (128, .getfield 58, 3), (131, .iload_n 1, 1), (132, .invokevirtual 209, 3), (135, .ireturn, 1)]
theorem mX11_tie_1 : okd cX11_tie lmX11_tie_1 = true := by decide +kernel
theorem dX11_tie_121 : decode cX11_tie 121 = .ok (.iinc 2 1, 3) := okd_at mX11_tie_1 0 rfl
theorem dX11_tie_124 : decode cX11_tie 124 = .ok (.goto (-91), 3) := okd_at mX11_tie_1 1 rfl
theorem dX11_tie_127 : decode cX11_tie 127 = .ok (.aload_n 0, 1) := okd_at mX11_tie_1 2 rfl
theorem dX11_tie_128 : decode cX11_tie 128 = .ok (.getfield 58, 3) := okd_at mX11_tie_1 3 rfl
theorem dX11_tie_131 : decode cX11_tie 131 = .ok (.iload_n 1, 1) := okd_at mX11_tie_1 4 rfl
theorem dX11_tie_132 : decode cX11_tie 132 = .ok (.invokevirtual 209, 3) := okd_at mX11_tie_1 5 rfl
theorem dX11_tie_135 : decode cX11_tie 135 = .ok (.ireturn, 1) := okd_at mX11_tie_1 6 rfl
def lmX11_told_0 : List (Nat × Instr × Nat) := [(0, .aload_n 0, 1), (1, .iload_n 1, 1), (2, .invokevirtual 126, 3), (5, .ifCond .ne 6, 3), (8, .bipush (-5), 2), (10, .ireturn, 1), (11, .iload_n 2, 1), (12, .iconst 0, 1), (13, .iconst 2, 1), (14, .invokestatic 119, 3), (17, .ifCond .eq 18, 3), (20, .aload_n 0, 1), (21, .getfield 10, 3), (24, .iload_n 2, 1), (25, .invokevirtual 130, 3), (28, .iload_n 1, 1), (29, .invokestatic 138, 3), (32, .goto 5, 3), (35, .bipush (-7), 2), (37, .ireturn, 1)]
theorem mX11_told_0 : okd cX11_told lmX11_told_0 = true := by decide +kernel
theorem dX11_told_0 : decode cX11_told 0 = .ok (.aload_n 0, 1) := okd_at mX11_told_0 0 rfl
theorem dX11_told_1 : decode cX11_told 1 = .ok (.iload_n 1, 1) := okd_at mX11_told_0 1 rfl
theorem dX11_told_2 : decode cX11_told 2 = .ok (.invokevirtual 126, 3) := okd_at mX11_told_0 2 rfl
theorem dX11_told_5 : decode cX11_told 5 = .ok (.ifCond .ne 6, 3) := okd_at mX11_told_0 3 rfl
theorem dX11_told_8 : decode cX11_told 8 = .ok (.bipush (-5), 2) := okd_at mX11_told_0 4 rfl
theorem dX11_told_10 : decode cX11_told 10 = .ok (.ireturn, 1) := okd_at mX11_told_0 5 rfl
theorem dX11_told_11 : decode cX11_told 11 = .ok (.iload_n 2, 1) := okd_at mX11_told_0 6 rfl
theorem dX11_told_12 : decode cX11_told 12 = .ok (.iconst 0, 1) := okd_at mX11_told_0 7 rfl
theorem dX11_told_13 : decode cX11_told 13 = .ok (.iconst 2, 1) := okd_at mX11_told_0 8 rfl
theorem dX11_told_14 : decode cX11_told 14 = .ok (.invokestatic 119, 3) := okd_at mX11_told_0 9 rfl
theorem dX11_told_17 : decode cX11_told 17 = .ok (.ifCond .eq 18, 3) := okd_at mX11_told_0 10 rfl
theorem dX11_told_20 : decode cX11_told 20 = .ok (.aload_n 0, 1) := okd_at mX11_told_0 11 rfl
theorem dX11_told_21 : decode cX11_told 21 = .ok (.getfield 10, 3) := okd_at mX11_told_0 12 rfl
theorem dX11_told_24 : decode cX11_told 24 = .ok (.iload_n 2, 1) := okd_at mX11_told_0 13 rfl
theorem dX11_told_25 : decode cX11_told 25 = .ok (.invokevirtual 130, 3) := okd_at mX11_told_0 14 rfl
theorem dX11_told_28 : decode cX11_told 28 = .ok (.iload_n 1, 1) := okd_at mX11_told_0 15 rfl
theorem dX11_told_29 : decode cX11_told 29 = .ok (.invokestatic 138, 3) := okd_at mX11_told_0 16 rfl
theorem dX11_told_32 : decode cX11_told 32 = .ok (.goto 5, 3) := okd_at mX11_told_0 17 rfl
theorem dX11_told_35 : decode cX11_told 35 = .ok (.bipush (-7), 2) := okd_at mX11_told_0 18 rfl
theorem dX11_told_37 : decode cX11_told 37 = .ok (.ireturn, 1) := okd_at mX11_told_0 19 rfl
def lmX11_tryAll_0 : List (Nat × Instr × Nat) := [(0, .aload_n 2, 1), (1, .iload_n 3, 1), (2, .invokestatic 138, 3), (5, .istore 5, 2), (7, .aload_n 0, 1), (8, .iconst 0, 1), (9, .putfield 246, 3), (12, .aload_n 0, 1), (13, .iconst 0, 1), (14, .putfield 249, 3), (17, .aload_n 0, 1), (18, .iconst (-1), 1), (19, .putfield 252, 3), (22, .iload 4, 2), (24, .istore 6, 2), (26, .iload 6, 2), (28, .ifCond .lt 72, 3), (31, .aload_n 2, 1), (32, .iload_n 3, 1), (33, .iload 6, 2), (35, .invokestatic 216, 3), (38, .aload_n 0, 1), (39, .getfield 51, 3), (42, .invokevirtual 178, 3), (45, .aload_n 0, 1), (46, .aload_n 1, 1), (47, .invokevirtual 231, 3), (50, .iconst (-1), 1), (51, .if_icmp .ne 43, 3), (54, .aload_n 0, 1), (55, .dup, 1), (56, .getfield 246, 3), (59, .iload 6, 2), (61, .bipush 9, 2), (63, .if_icmp .gt 10, 3), (66, .iconst 1, 1), (67, .iload 6, 2), (69, .ishl, 1), (70, .goto 4, 3), (73, .iconst 0, 1), (74, .ior, 1), (75, .putfield 246, 3), (78, .aload_n 0, 1), (79, .dup, 1), (80, .getfield 249, 3), (83, .iconst 1, 1), (84, .iadd, 1), (85, .putfield 249, 3), (88, .aload_n 0, 1), (89, .iload 6, 2), (91, .putfield 252, 3), (94, .iinc 6 (-1), 3), (97, .goto (-71), 3), (100, .aload_n 2, 1), (101, .iload_n 3, 1), (102, .iload 5, 2), (104, .invokestatic 216, 3), (107, .return_, 1)]
theorem mX11_tryAll_0 : okd cX11_tryAll lmX11_tryAll_0 = true := by decide +kernel
theorem dX11_tryAll_0 : decode cX11_tryAll 0 = .ok (.aload_n 2, 1) := okd_at mX11_tryAll_0 0 rfl
theorem dX11_tryAll_1 : decode cX11_tryAll 1 = .ok (.iload_n 3, 1) := okd_at mX11_tryAll_0 1 rfl
theorem dX11_tryAll_2 : decode cX11_tryAll 2 = .ok (.invokestatic 138, 3) := okd_at mX11_tryAll_0 2 rfl
theorem dX11_tryAll_5 : decode cX11_tryAll 5 = .ok (.istore 5, 2) := okd_at mX11_tryAll_0 3 rfl
theorem dX11_tryAll_7 : decode cX11_tryAll 7 = .ok (.aload_n 0, 1) := okd_at mX11_tryAll_0 4 rfl
theorem dX11_tryAll_8 : decode cX11_tryAll 8 = .ok (.iconst 0, 1) := okd_at mX11_tryAll_0 5 rfl
theorem dX11_tryAll_9 : decode cX11_tryAll 9 = .ok (.putfield 246, 3) := okd_at mX11_tryAll_0 6 rfl
theorem dX11_tryAll_12 : decode cX11_tryAll 12 = .ok (.aload_n 0, 1) := okd_at mX11_tryAll_0 7 rfl
theorem dX11_tryAll_13 : decode cX11_tryAll 13 = .ok (.iconst 0, 1) := okd_at mX11_tryAll_0 8 rfl
theorem dX11_tryAll_14 : decode cX11_tryAll 14 = .ok (.putfield 249, 3) := okd_at mX11_tryAll_0 9 rfl
theorem dX11_tryAll_17 : decode cX11_tryAll 17 = .ok (.aload_n 0, 1) := okd_at mX11_tryAll_0 10 rfl
theorem dX11_tryAll_18 : decode cX11_tryAll 18 = .ok (.iconst (-1), 1) := okd_at mX11_tryAll_0 11 rfl
theorem dX11_tryAll_19 : decode cX11_tryAll 19 = .ok (.putfield 252, 3) := okd_at mX11_tryAll_0 12 rfl
theorem dX11_tryAll_22 : decode cX11_tryAll 22 = .ok (.iload 4, 2) := okd_at mX11_tryAll_0 13 rfl
theorem dX11_tryAll_24 : decode cX11_tryAll 24 = .ok (.istore 6, 2) := okd_at mX11_tryAll_0 14 rfl
theorem dX11_tryAll_26 : decode cX11_tryAll 26 = .ok (.iload 6, 2) := okd_at mX11_tryAll_0 15 rfl
theorem dX11_tryAll_28 : decode cX11_tryAll 28 = .ok (.ifCond .lt 72, 3) := okd_at mX11_tryAll_0 16 rfl
theorem dX11_tryAll_31 : decode cX11_tryAll 31 = .ok (.aload_n 2, 1) := okd_at mX11_tryAll_0 17 rfl
theorem dX11_tryAll_32 : decode cX11_tryAll 32 = .ok (.iload_n 3, 1) := okd_at mX11_tryAll_0 18 rfl
theorem dX11_tryAll_33 : decode cX11_tryAll 33 = .ok (.iload 6, 2) := okd_at mX11_tryAll_0 19 rfl
theorem dX11_tryAll_35 : decode cX11_tryAll 35 = .ok (.invokestatic 216, 3) := okd_at mX11_tryAll_0 20 rfl
theorem dX11_tryAll_38 : decode cX11_tryAll 38 = .ok (.aload_n 0, 1) := okd_at mX11_tryAll_0 21 rfl
theorem dX11_tryAll_39 : decode cX11_tryAll 39 = .ok (.getfield 51, 3) := okd_at mX11_tryAll_0 22 rfl
theorem dX11_tryAll_42 : decode cX11_tryAll 42 = .ok (.invokevirtual 178, 3) := okd_at mX11_tryAll_0 23 rfl
theorem dX11_tryAll_45 : decode cX11_tryAll 45 = .ok (.aload_n 0, 1) := okd_at mX11_tryAll_0 24 rfl
theorem dX11_tryAll_46 : decode cX11_tryAll 46 = .ok (.aload_n 1, 1) := okd_at mX11_tryAll_0 25 rfl
theorem dX11_tryAll_47 : decode cX11_tryAll 47 = .ok (.invokevirtual 231, 3) := okd_at mX11_tryAll_0 26 rfl
theorem dX11_tryAll_50 : decode cX11_tryAll 50 = .ok (.iconst (-1), 1) := okd_at mX11_tryAll_0 27 rfl
theorem dX11_tryAll_51 : decode cX11_tryAll 51 = .ok (.if_icmp .ne 43, 3) := okd_at mX11_tryAll_0 28 rfl
theorem dX11_tryAll_54 : decode cX11_tryAll 54 = .ok (.aload_n 0, 1) := okd_at mX11_tryAll_0 29 rfl
theorem dX11_tryAll_55 : decode cX11_tryAll 55 = .ok (.dup, 1) := okd_at mX11_tryAll_0 30 rfl
theorem dX11_tryAll_56 : decode cX11_tryAll 56 = .ok (.getfield 246, 3) := okd_at mX11_tryAll_0 31 rfl
theorem dX11_tryAll_59 : decode cX11_tryAll 59 = .ok (.iload 6, 2) := okd_at mX11_tryAll_0 32 rfl
theorem dX11_tryAll_61 : decode cX11_tryAll 61 = .ok (.bipush 9, 2) := okd_at mX11_tryAll_0 33 rfl
theorem dX11_tryAll_63 : decode cX11_tryAll 63 = .ok (.if_icmp .gt 10, 3) := okd_at mX11_tryAll_0 34 rfl
theorem dX11_tryAll_66 : decode cX11_tryAll 66 = .ok (.iconst 1, 1) := okd_at mX11_tryAll_0 35 rfl
theorem dX11_tryAll_67 : decode cX11_tryAll 67 = .ok (.iload 6, 2) := okd_at mX11_tryAll_0 36 rfl
theorem dX11_tryAll_69 : decode cX11_tryAll 69 = .ok (.ishl, 1) := okd_at mX11_tryAll_0 37 rfl
theorem dX11_tryAll_70 : decode cX11_tryAll 70 = .ok (.goto 4, 3) := okd_at mX11_tryAll_0 38 rfl
theorem dX11_tryAll_73 : decode cX11_tryAll 73 = .ok (.iconst 0, 1) := okd_at mX11_tryAll_0 39 rfl
theorem dX11_tryAll_74 : decode cX11_tryAll 74 = .ok (.ior, 1) := okd_at mX11_tryAll_0 40 rfl
theorem dX11_tryAll_75 : decode cX11_tryAll 75 = .ok (.putfield 246, 3) := okd_at mX11_tryAll_0 41 rfl
theorem dX11_tryAll_78 : decode cX11_tryAll 78 = .ok (.aload_n 0, 1) := okd_at mX11_tryAll_0 42 rfl
theorem dX11_tryAll_79 : decode cX11_tryAll 79 = .ok (.dup, 1) := okd_at mX11_tryAll_0 43 rfl
theorem dX11_tryAll_80 : decode cX11_tryAll 80 = .ok (.getfield 249, 3) := okd_at mX11_tryAll_0 44 rfl
theorem dX11_tryAll_83 : decode cX11_tryAll 83 = .ok (.iconst 1, 1) := okd_at mX11_tryAll_0 45 rfl
theorem dX11_tryAll_84 : decode cX11_tryAll 84 = .ok (.iadd, 1) := okd_at mX11_tryAll_0 46 rfl
theorem dX11_tryAll_85 : decode cX11_tryAll 85 = .ok (.putfield 249, 3) := okd_at mX11_tryAll_0 47 rfl
theorem dX11_tryAll_88 : decode cX11_tryAll 88 = .ok (.aload_n 0, 1) := okd_at mX11_tryAll_0 48 rfl
theorem dX11_tryAll_89 : decode cX11_tryAll 89 = .ok (.iload 6, 2) := okd_at mX11_tryAll_0 49 rfl
theorem dX11_tryAll_91 : decode cX11_tryAll 91 = .ok (.putfield 252, 3) := okd_at mX11_tryAll_0 50 rfl
theorem dX11_tryAll_94 : decode cX11_tryAll 94 = .ok (.iinc 6 (-1), 3) := okd_at mX11_tryAll_0 51 rfl
theorem dX11_tryAll_97 : decode cX11_tryAll 97 = .ok (.goto (-71), 3) := okd_at mX11_tryAll_0 52 rfl
theorem dX11_tryAll_100 : decode cX11_tryAll 100 = .ok (.aload_n 2, 1) := okd_at mX11_tryAll_0 53 rfl
theorem dX11_tryAll_101 : decode cX11_tryAll 101 = .ok (.iload_n 3, 1) := okd_at mX11_tryAll_0 54 rfl
theorem dX11_tryAll_102 : decode cX11_tryAll 102 = .ok (.iload 5, 2) := okd_at mX11_tryAll_0 55 rfl
theorem dX11_tryAll_104 : decode cX11_tryAll 104 = .ok (.invokestatic 216, 3) := okd_at mX11_tryAll_0 56 rfl
theorem dX11_tryAll_107 : decode cX11_tryAll 107 = .ok (.return_, 1) := okd_at mX11_tryAll_0 57 rfl
def lmX11_within_0 : List (Nat × Instr × Nat) := [(0, .iload_n 1, 1), (1, .iload_n 0, 1), (2, .if_icmp .gt 12, 3), (5, .iload_n 0, 1), (6, .iload_n 2, 1), (7, .if_icmp .gt 7, 3), (10, .iconst 1, 1), (11, .goto 4, 3), (14, .iconst 0, 1), (15, .ireturn, 1)]
theorem mX11_within_0 : okd cX11_within lmX11_within_0 = true := by decide +kernel
theorem dX11_within_0 : decode cX11_within 0 = .ok (.iload_n 1, 1) := okd_at mX11_within_0 0 rfl
theorem dX11_within_1 : decode cX11_within 1 = .ok (.iload_n 0, 1) := okd_at mX11_within_0 1 rfl
theorem dX11_within_2 : decode cX11_within 2 = .ok (.if_icmp .gt 12, 3) := okd_at mX11_within_0 2 rfl
theorem dX11_within_5 : decode cX11_within 5 = .ok (.iload_n 0, 1) := okd_at mX11_within_0 3 rfl
theorem dX11_within_6 : decode cX11_within 6 = .ok (.iload_n 2, 1) := okd_at mX11_within_0 4 rfl
theorem dX11_within_7 : decode cX11_within 7 = .ok (.if_icmp .gt 7, 3) := okd_at mX11_within_0 5 rfl
theorem dX11_within_10 : decode cX11_within 10 = .ok (.iconst 1, 1) := okd_at mX11_within_0 6 rfl
theorem dX11_within_11 : decode cX11_within 11 = .ok (.goto 4, 3) := okd_at mX11_within_0 7 rfl
theorem dX11_within_14 : decode cX11_within 14 = .ok (.iconst 0, 1) := okd_at mX11_within_0 8 rfl
theorem dX11_within_15 : decode cX11_within 15 = .ok (.ireturn, 1) := okd_at mX11_within_0 9 rfl
def lmX12_areRunners_0 : List (Nat × Instr × Nat) := [(0, .iload_n 1, 1), (1, .iconst 0, 1), (2, .iconst 1, 1), (3, .aload_n 0, 1), (4, .getfield 90, 3), (7, .ishl, 1), (8, .iconst 1, 1), (9, .isub, 1), (10, .invokestatic 93, 3), (13, .ireturn, 1)]
theorem mX12_areRunners_0 : okd cX12_areRunners lmX12_areRunners_0 = true := by decide +kernel
theorem dX12_areRunners_0 : decode cX12_areRunners 0 = .ok (.iload_n 1, 1) := okd_at mX12_areRunners_0 0 rfl
theorem dX12_areRunners_1 : decode cX12_areRunners 1 = .ok (.iconst 0, 1) := okd_at mX12_areRunners_0 1 rfl
theorem dX12_areRunners_2 : decode cX12_areRunners 2 = .ok (.iconst 1, 1) := okd_at mX12_areRunners_0 2 rfl
theorem dX12_areRunners_3 : decode cX12_areRunners 3 = .ok (.aload_n 0, 1) := okd_at mX12_areRunners_0 3 rfl
theorem dX12_areRunners_4 : decode cX12_areRunners 4 = .ok (.getfield 90, 3) := okd_at mX12_areRunners_0 4 rfl
theorem dX12_areRunners_7 : decode cX12_areRunners 7 = .ok (.ishl, 1) := okd_at mX12_areRunners_0 5 rfl
theorem dX12_areRunners_8 : decode cX12_areRunners 8 = .ok (.iconst 1, 1) := okd_at mX12_areRunners_0 6 rfl
theorem dX12_areRunners_9 : decode cX12_areRunners 9 = .ok (.isub, 1) := okd_at mX12_areRunners_0 7 rfl
theorem dX12_areRunners_10 : decode cX12_areRunners 10 = .ok (.invokestatic 93, 3) := okd_at mX12_areRunners_0 8 rfl
theorem dX12_areRunners_13 : decode cX12_areRunners 13 = .ok (.ireturn, 1) := okd_at mX12_areRunners_0 9 rfl
def lmX12_asItIs_0 : List (Nat × Instr × Nat) := [(0, .aload_n 0, 1), (1, .invokevirtual 219, 3), (4, .aload_n 0, 1), (5, .iconst (-1), 1), (6, .putfield 225, 3), (9, .aload_n 0, 1), (10, .aload_n 0, 1), (11, .getfield 213, 3), (14, .putfield 228, 3), (17, .aload_n 0, 1), (18, .aload_n 0, 1), (19, .getfield 207, 3), (22, .putfield 231, 3), (25, .return_, 1)]
theorem mX12_asItIs_0 : okd cX12_asItIs lmX12_asItIs_0 = true := by decide +kernel
theorem dX12_asItIs_0 : decode cX12_asItIs 0 = .ok (.aload_n 0, 1) := okd_at mX12_asItIs_0 0 rfl
theorem dX12_asItIs_1 : decode cX12_asItIs 1 = .ok (.invokevirtual 219, 3) := okd_at mX12_asItIs_0 1 rfl
theorem dX12_asItIs_4 : decode cX12_asItIs 4 = .ok (.aload_n 0, 1) := okd_at mX12_asItIs_0 2 rfl
theorem dX12_asItIs_5 : decode cX12_asItIs 5 = .ok (.iconst (-1), 1) := okd_at mX12_asItIs_0 3 rfl
theorem dX12_asItIs_6 : decode cX12_asItIs 6 = .ok (.putfield 225, 3) := okd_at mX12_asItIs_0 4 rfl
theorem dX12_asItIs_9 : decode cX12_asItIs 9 = .ok (.aload_n 0, 1) := okd_at mX12_asItIs_0 5 rfl
theorem dX12_asItIs_10 : decode cX12_asItIs 10 = .ok (.aload_n 0, 1) := okd_at mX12_asItIs_0 6 rfl
theorem dX12_asItIs_11 : decode cX12_asItIs 11 = .ok (.getfield 213, 3) := okd_at mX12_asItIs_0 7 rfl
theorem dX12_asItIs_14 : decode cX12_asItIs 14 = .ok (.putfield 228, 3) := okd_at mX12_asItIs_0 8 rfl
theorem dX12_asItIs_17 : decode cX12_asItIs 17 = .ok (.aload_n 0, 1) := okd_at mX12_asItIs_0 9 rfl
theorem dX12_asItIs_18 : decode cX12_asItIs 18 = .ok (.aload_n 0, 1) := okd_at mX12_asItIs_0 10 rfl
theorem dX12_asItIs_19 : decode cX12_asItIs 19 = .ok (.getfield 207, 3) := okd_at mX12_asItIs_0 11 rfl
theorem dX12_asItIs_22 : decode cX12_asItIs 22 = .ok (.putfield 231, 3) := okd_at mX12_asItIs_0 12 rfl
theorem dX12_asItIs_25 : decode cX12_asItIs 25 = .ok (.return_, 1) := okd_at mX12_asItIs_0 13 rfl
def lmX12_asks_0 : List (Nat × Instr × Nat) := [(0, .iload_n 1, 1), (1, .iconst 0, 1), (2, .iconst 2, 1), (3, .invokestatic 93, 3), (6, .ifCond .eq 47, 3), (9, .aload_n 0, 1), (10, .iload_n 2, 1), (11, .invokevirtual 106, 3), (14, .ifCond .eq 39, 3), (17, .iload_n 3, 1), (18, .iconst (-1), 1), (19, .if_icmp .eq 11, 3), (22, .aload_n 0, 1), (23, .iload_n 3, 1), (24, .invokevirtual 182, 3), (27, .ifCond .eq 26, 3), (30, .iload 4, 2), (32, .iconst 0, 1), (33, .bipush 6, 2), (35, .invokestatic 93, 3), (38, .ifCond .eq 15, 3), (41, .aload_n 0, 1), (42, .iload_n 1, 1), (43, .iload_n 2, 1), (44, .iload_n 3, 1), (45, .iload 4, 2), (47, .invokevirtual 185, 3), (50, .goto 6, 3), (53, .sipush (-1000), 3), (56, .ireturn, 1)]
theorem mX12_asks_0 : okd cX12_asks lmX12_asks_0 = true := by decide +kernel
theorem dX12_asks_0 : decode cX12_asks 0 = .ok (.iload_n 1, 1) := okd_at mX12_asks_0 0 rfl
theorem dX12_asks_1 : decode cX12_asks 1 = .ok (.iconst 0, 1) := okd_at mX12_asks_0 1 rfl
theorem dX12_asks_2 : decode cX12_asks 2 = .ok (.iconst 2, 1) := okd_at mX12_asks_0 2 rfl
theorem dX12_asks_3 : decode cX12_asks 3 = .ok (.invokestatic 93, 3) := okd_at mX12_asks_0 3 rfl
theorem dX12_asks_6 : decode cX12_asks 6 = .ok (.ifCond .eq 47, 3) := okd_at mX12_asks_0 4 rfl
theorem dX12_asks_9 : decode cX12_asks 9 = .ok (.aload_n 0, 1) := okd_at mX12_asks_0 5 rfl
theorem dX12_asks_10 : decode cX12_asks 10 = .ok (.iload_n 2, 1) := okd_at mX12_asks_0 6 rfl
theorem dX12_asks_11 : decode cX12_asks 11 = .ok (.invokevirtual 106, 3) := okd_at mX12_asks_0 7 rfl
theorem dX12_asks_14 : decode cX12_asks 14 = .ok (.ifCond .eq 39, 3) := okd_at mX12_asks_0 8 rfl
theorem dX12_asks_17 : decode cX12_asks 17 = .ok (.iload_n 3, 1) := okd_at mX12_asks_0 9 rfl
theorem dX12_asks_18 : decode cX12_asks 18 = .ok (.iconst (-1), 1) := okd_at mX12_asks_0 10 rfl
theorem dX12_asks_19 : decode cX12_asks 19 = .ok (.if_icmp .eq 11, 3) := okd_at mX12_asks_0 11 rfl
theorem dX12_asks_22 : decode cX12_asks 22 = .ok (.aload_n 0, 1) := okd_at mX12_asks_0 12 rfl
theorem dX12_asks_23 : decode cX12_asks 23 = .ok (.iload_n 3, 1) := okd_at mX12_asks_0 13 rfl
theorem dX12_asks_24 : decode cX12_asks 24 = .ok (.invokevirtual 182, 3) := okd_at mX12_asks_0 14 rfl
theorem dX12_asks_27 : decode cX12_asks 27 = .ok (.ifCond .eq 26, 3) := okd_at mX12_asks_0 15 rfl
theorem dX12_asks_30 : decode cX12_asks 30 = .ok (.iload 4, 2) := okd_at mX12_asks_0 16 rfl
theorem dX12_asks_32 : decode cX12_asks 32 = .ok (.iconst 0, 1) := okd_at mX12_asks_0 17 rfl
theorem dX12_asks_33 : decode cX12_asks 33 = .ok (.bipush 6, 2) := okd_at mX12_asks_0 18 rfl
theorem dX12_asks_35 : decode cX12_asks 35 = .ok (.invokestatic 93, 3) := okd_at mX12_asks_0 19 rfl
theorem dX12_asks_38 : decode cX12_asks 38 = .ok (.ifCond .eq 15, 3) := okd_at mX12_asks_0 20 rfl
theorem dX12_asks_41 : decode cX12_asks 41 = .ok (.aload_n 0, 1) := okd_at mX12_asks_0 21 rfl
theorem dX12_asks_42 : decode cX12_asks 42 = .ok (.iload_n 1, 1) := okd_at mX12_asks_0 22 rfl
theorem dX12_asks_43 : decode cX12_asks 43 = .ok (.iload_n 2, 1) := okd_at mX12_asks_0 23 rfl
theorem dX12_asks_44 : decode cX12_asks 44 = .ok (.iload_n 3, 1) := okd_at mX12_asks_0 24 rfl
theorem dX12_asks_45 : decode cX12_asks 45 = .ok (.iload 4, 2) := okd_at mX12_asks_0 25 rfl
theorem dX12_asks_47 : decode cX12_asks 47 = .ok (.invokevirtual 185, 3) := okd_at mX12_asks_0 26 rfl
theorem dX12_asks_50 : decode cX12_asks 50 = .ok (.goto 6, 3) := okd_at mX12_asks_0 27 rfl
theorem dX12_asks_53 : decode cX12_asks 53 = .ok (.sipush (-1000), 3) := okd_at mX12_asks_0 28 rfl
theorem dX12_asks_56 : decode cX12_asks 56 = .ok (.ireturn, 1) := okd_at mX12_asks_0 29 rfl
def lmX12_asksOf_0 : List (Nat × Instr × Nat) := [(0, .aload_n 0, 1), (1, .getfield 58, 3), (4, .iconst 0, 1), (5, .aload_n 0, 1), (6, .getfield 7, 3), (9, .iconst 3, 1), (10, .iload_n 2, 1), (11, .imul, 1), (12, .iaload, 1), (13, .iastore, 1), (14, .aload_n 0, 1), (15, .getfield 58, 3), (18, .iconst 1, 1), (19, .aload_n 0, 1), (20, .getfield 7, 3), (23, .iconst 3, 1), (24, .iload_n 2, 1), (25, .imul, 1), (26, .iconst 1, 1), (27, .iadd, 1), (28, .iaload, 1), (29, .iastore, 1), (30, .aload_n 0, 1), (31, .getfield 58, 3), (34, .iconst 2, 1), (35, .iload 4, 2), (37, .iastore, 1), (38, .aload_n 0, 1), (39, .getfield 58, 3), (42, .iconst 3, 1), (43, .iload_n 3, 1), (44, .iconst (-1), 1), (45, .if_icmp .ne 7, 3), (48, .iconst 0, 1), (49, .goto 14, 3), (52, .aload_n 0, 1), (53, .getfield 16, 3), (56, .iload_n 3, 1), (57, .iconst 0, 1), (58, .iconst 5, 1), (59, .invokestatic 173, 3), (62, .iaload, 1), (63, .iastore, 1), (64, .aload_n 0, 1), (65, .getfield 58, 3), (68, .iconst 4, 1), (69, .iload_n 3, 1), (70, .iconst (-1), 1), (71, .if_icmp .ne 7, 3), (74, .iconst 0, 1), (75, .goto 19, 3), (78, .aload_n 0, 1), (79, .getfield 19, 3), (82, .iconst 2, 1), (83, .iload_n 3, 1), (84, .iconst 0, 1), (85, .iconst 5, 1), (86, .invokestatic 173, 3), (89, .imul, 1), (90, .iaload, 1)]
theorem mX12_asksOf_0 : okd cX12_asksOf lmX12_asksOf_0 = true := by decide +kernel
theorem dX12_asksOf_0 : decode cX12_asksOf 0 = .ok (.aload_n 0, 1) := okd_at mX12_asksOf_0 0 rfl
theorem dX12_asksOf_1 : decode cX12_asksOf 1 = .ok (.getfield 58, 3) := okd_at mX12_asksOf_0 1 rfl
theorem dX12_asksOf_4 : decode cX12_asksOf 4 = .ok (.iconst 0, 1) := okd_at mX12_asksOf_0 2 rfl
theorem dX12_asksOf_5 : decode cX12_asksOf 5 = .ok (.aload_n 0, 1) := okd_at mX12_asksOf_0 3 rfl
theorem dX12_asksOf_6 : decode cX12_asksOf 6 = .ok (.getfield 7, 3) := okd_at mX12_asksOf_0 4 rfl
theorem dX12_asksOf_9 : decode cX12_asksOf 9 = .ok (.iconst 3, 1) := okd_at mX12_asksOf_0 5 rfl
theorem dX12_asksOf_10 : decode cX12_asksOf 10 = .ok (.iload_n 2, 1) := okd_at mX12_asksOf_0 6 rfl
theorem dX12_asksOf_11 : decode cX12_asksOf 11 = .ok (.imul, 1) := okd_at mX12_asksOf_0 7 rfl
theorem dX12_asksOf_12 : decode cX12_asksOf 12 = .ok (.iaload, 1) := okd_at mX12_asksOf_0 8 rfl
theorem dX12_asksOf_13 : decode cX12_asksOf 13 = .ok (.iastore, 1) := okd_at mX12_asksOf_0 9 rfl
theorem dX12_asksOf_14 : decode cX12_asksOf 14 = .ok (.aload_n 0, 1) := okd_at mX12_asksOf_0 10 rfl
theorem dX12_asksOf_15 : decode cX12_asksOf 15 = .ok (.getfield 58, 3) := okd_at mX12_asksOf_0 11 rfl
theorem dX12_asksOf_18 : decode cX12_asksOf 18 = .ok (.iconst 1, 1) := okd_at mX12_asksOf_0 12 rfl
theorem dX12_asksOf_19 : decode cX12_asksOf 19 = .ok (.aload_n 0, 1) := okd_at mX12_asksOf_0 13 rfl
theorem dX12_asksOf_20 : decode cX12_asksOf 20 = .ok (.getfield 7, 3) := okd_at mX12_asksOf_0 14 rfl
theorem dX12_asksOf_23 : decode cX12_asksOf 23 = .ok (.iconst 3, 1) := okd_at mX12_asksOf_0 15 rfl
theorem dX12_asksOf_24 : decode cX12_asksOf 24 = .ok (.iload_n 2, 1) := okd_at mX12_asksOf_0 16 rfl
theorem dX12_asksOf_25 : decode cX12_asksOf 25 = .ok (.imul, 1) := okd_at mX12_asksOf_0 17 rfl
theorem dX12_asksOf_26 : decode cX12_asksOf 26 = .ok (.iconst 1, 1) := okd_at mX12_asksOf_0 18 rfl
theorem dX12_asksOf_27 : decode cX12_asksOf 27 = .ok (.iadd, 1) := okd_at mX12_asksOf_0 19 rfl
theorem dX12_asksOf_28 : decode cX12_asksOf 28 = .ok (.iaload, 1) := okd_at mX12_asksOf_0 20 rfl
theorem dX12_asksOf_29 : decode cX12_asksOf 29 = .ok (.iastore, 1) := okd_at mX12_asksOf_0 21 rfl
theorem dX12_asksOf_30 : decode cX12_asksOf 30 = .ok (.aload_n 0, 1) := okd_at mX12_asksOf_0 22 rfl
theorem dX12_asksOf_31 : decode cX12_asksOf 31 = .ok (.getfield 58, 3) := okd_at mX12_asksOf_0 23 rfl
theorem dX12_asksOf_34 : decode cX12_asksOf 34 = .ok (.iconst 2, 1) := okd_at mX12_asksOf_0 24 rfl
theorem dX12_asksOf_35 : decode cX12_asksOf 35 = .ok (.iload 4, 2) := okd_at mX12_asksOf_0 25 rfl
theorem dX12_asksOf_37 : decode cX12_asksOf 37 = .ok (.iastore, 1) := okd_at mX12_asksOf_0 26 rfl
theorem dX12_asksOf_38 : decode cX12_asksOf 38 = .ok (.aload_n 0, 1) := okd_at mX12_asksOf_0 27 rfl
theorem dX12_asksOf_39 : decode cX12_asksOf 39 = .ok (.getfield 58, 3) := okd_at mX12_asksOf_0 28 rfl
theorem dX12_asksOf_42 : decode cX12_asksOf 42 = .ok (.iconst 3, 1) := okd_at mX12_asksOf_0 29 rfl
theorem dX12_asksOf_43 : decode cX12_asksOf 43 = .ok (.iload_n 3, 1) := okd_at mX12_asksOf_0 30 rfl
theorem dX12_asksOf_44 : decode cX12_asksOf 44 = .ok (.iconst (-1), 1) := okd_at mX12_asksOf_0 31 rfl
theorem dX12_asksOf_45 : decode cX12_asksOf 45 = .ok (.if_icmp .ne 7, 3) := okd_at mX12_asksOf_0 32 rfl
theorem dX12_asksOf_48 : decode cX12_asksOf 48 = .ok (.iconst 0, 1) := okd_at mX12_asksOf_0 33 rfl
theorem dX12_asksOf_49 : decode cX12_asksOf 49 = .ok (.goto 14, 3) := okd_at mX12_asksOf_0 34 rfl
theorem dX12_asksOf_52 : decode cX12_asksOf 52 = .ok (.aload_n 0, 1) := okd_at mX12_asksOf_0 35 rfl
theorem dX12_asksOf_53 : decode cX12_asksOf 53 = .ok (.getfield 16, 3) := okd_at mX12_asksOf_0 36 rfl
theorem dX12_asksOf_56 : decode cX12_asksOf 56 = .ok (.iload_n 3, 1) := okd_at mX12_asksOf_0 37 rfl
theorem dX12_asksOf_57 : decode cX12_asksOf 57 = .ok (.iconst 0, 1) := okd_at mX12_asksOf_0 38 rfl
theorem dX12_asksOf_58 : decode cX12_asksOf 58 = .ok (.iconst 5, 1) := okd_at mX12_asksOf_0 39 rfl
theorem dX12_asksOf_59 : decode cX12_asksOf 59 = .ok (.invokestatic 173, 3) := okd_at mX12_asksOf_0 40 rfl
theorem dX12_asksOf_62 : decode cX12_asksOf 62 = .ok (.iaload, 1) := okd_at mX12_asksOf_0 41 rfl
theorem dX12_asksOf_63 : decode cX12_asksOf 63 = .ok (.iastore, 1) := okd_at mX12_asksOf_0 42 rfl
theorem dX12_asksOf_64 : decode cX12_asksOf 64 = .ok (.aload_n 0, 1) := okd_at mX12_asksOf_0 43 rfl
theorem dX12_asksOf_65 : decode cX12_asksOf 65 = .ok (.getfield 58, 3) := okd_at mX12_asksOf_0 44 rfl
theorem dX12_asksOf_68 : decode cX12_asksOf 68 = .ok (.iconst 4, 1) := okd_at mX12_asksOf_0 45 rfl
theorem dX12_asksOf_69 : decode cX12_asksOf 69 = .ok (.iload_n 3, 1) := okd_at mX12_asksOf_0 46 rfl
theorem dX12_asksOf_70 : decode cX12_asksOf 70 = .ok (.iconst (-1), 1) := okd_at mX12_asksOf_0 47 rfl
theorem dX12_asksOf_71 : decode cX12_asksOf 71 = .ok (.if_icmp .ne 7, 3) := okd_at mX12_asksOf_0 48 rfl
theorem dX12_asksOf_74 : decode cX12_asksOf 74 = .ok (.iconst 0, 1) := okd_at mX12_asksOf_0 49 rfl
theorem dX12_asksOf_75 : decode cX12_asksOf 75 = .ok (.goto 19, 3) := okd_at mX12_asksOf_0 50 rfl
theorem dX12_asksOf_78 : decode cX12_asksOf 78 = .ok (.aload_n 0, 1) := okd_at mX12_asksOf_0 51 rfl
theorem dX12_asksOf_79 : decode cX12_asksOf 79 = .ok (.getfield 19, 3) := okd_at mX12_asksOf_0 52 rfl
theorem dX12_asksOf_82 : decode cX12_asksOf 82 = .ok (.iconst 2, 1) := okd_at mX12_asksOf_0 53 rfl
theorem dX12_asksOf_83 : decode cX12_asksOf 83 = .ok (.iload_n 3, 1) := okd_at mX12_asksOf_0 54 rfl
theorem dX12_asksOf_84 : decode cX12_asksOf 84 = .ok (.iconst 0, 1) := okd_at mX12_asksOf_0 55 rfl
theorem dX12_asksOf_85 : decode cX12_asksOf 85 = .ok (.iconst 5, 1) := okd_at mX12_asksOf_0 56 rfl
theorem dX12_asksOf_86 : decode cX12_asksOf 86 = .ok (.invokestatic 173, 3) := okd_at mX12_asksOf_0 57 rfl
theorem dX12_asksOf_89 : decode cX12_asksOf 89 = .ok (.imul, 1) := okd_at mX12_asksOf_0 58 rfl
theorem dX12_asksOf_90 : decode cX12_asksOf 90 = .ok (.iaload, 1) := okd_at mX12_asksOf_0 59 rfl
def lmX12_asksOf_1 : List (Nat × Instr × Nat) := [(91, .invokestatic 176, 3), (94, .iastore, 1), (95, .aload_n 0, 1), (96, .getfield 58, 3), (99, .iconst 5, 1), (100, .iload_n 3, 1), (101, .iconst (-1), 1), (102, .if_icmp .ne 7, 3), (105, .iconst 0, 1), (106, .goto 4, 3), (109, .iload_n 3, 1), (110, .iastore, 1), (111, .aload_n 0, 1), (112, .iload_n 1, 1), (113, .invokevirtual 179, 3), (116, .iload_n 1, 1), (117, .ifCond .ne 7, 3), (120, .iconst 0, 1), (121, .goto 5, 3), (124, .bipush (-99), 2), (126, .bipush 99, 2), (128, .invokestatic 173, 3), (131, .ireturn, 1)]
theorem mX12_asksOf_1 : okd cX12_asksOf lmX12_asksOf_1 = true := by decide +kernel
theorem dX12_asksOf_91 : decode cX12_asksOf 91 = .ok (.invokestatic 176, 3) := okd_at mX12_asksOf_1 0 rfl
theorem dX12_asksOf_94 : decode cX12_asksOf 94 = .ok (.iastore, 1) := okd_at mX12_asksOf_1 1 rfl
theorem dX12_asksOf_95 : decode cX12_asksOf 95 = .ok (.aload_n 0, 1) := okd_at mX12_asksOf_1 2 rfl
theorem dX12_asksOf_96 : decode cX12_asksOf 96 = .ok (.getfield 58, 3) := okd_at mX12_asksOf_1 3 rfl
theorem dX12_asksOf_99 : decode cX12_asksOf 99 = .ok (.iconst 5, 1) := okd_at mX12_asksOf_1 4 rfl
theorem dX12_asksOf_100 : decode cX12_asksOf 100 = .ok (.iload_n 3, 1) := okd_at mX12_asksOf_1 5 rfl
theorem dX12_asksOf_101 : decode cX12_asksOf 101 = .ok (.iconst (-1), 1) := okd_at mX12_asksOf_1 6 rfl
theorem dX12_asksOf_102 : decode cX12_asksOf 102 = .ok (.if_icmp .ne 7, 3) := okd_at mX12_asksOf_1 7 rfl
theorem dX12_asksOf_105 : decode cX12_asksOf 105 = .ok (.iconst 0, 1) := okd_at mX12_asksOf_1 8 rfl
theorem dX12_asksOf_106 : decode cX12_asksOf 106 = .ok (.goto 4, 3) := okd_at mX12_asksOf_1 9 rfl
theorem dX12_asksOf_109 : decode cX12_asksOf 109 = .ok (.iload_n 3, 1) := okd_at mX12_asksOf_1 10 rfl
theorem dX12_asksOf_110 : decode cX12_asksOf 110 = .ok (.iastore, 1) := okd_at mX12_asksOf_1 11 rfl
theorem dX12_asksOf_111 : decode cX12_asksOf 111 = .ok (.aload_n 0, 1) := okd_at mX12_asksOf_1 12 rfl
theorem dX12_asksOf_112 : decode cX12_asksOf 112 = .ok (.iload_n 1, 1) := okd_at mX12_asksOf_1 13 rfl
theorem dX12_asksOf_113 : decode cX12_asksOf 113 = .ok (.invokevirtual 179, 3) := okd_at mX12_asksOf_1 14 rfl
theorem dX12_asksOf_116 : decode cX12_asksOf 116 = .ok (.iload_n 1, 1) := okd_at mX12_asksOf_1 15 rfl
theorem dX12_asksOf_117 : decode cX12_asksOf 117 = .ok (.ifCond .ne 7, 3) := okd_at mX12_asksOf_1 16 rfl
theorem dX12_asksOf_120 : decode cX12_asksOf 120 = .ok (.iconst 0, 1) := okd_at mX12_asksOf_1 17 rfl
theorem dX12_asksOf_121 : decode cX12_asksOf 121 = .ok (.goto 5, 3) := okd_at mX12_asksOf_1 18 rfl
theorem dX12_asksOf_124 : decode cX12_asksOf 124 = .ok (.bipush (-99), 2) := okd_at mX12_asksOf_1 19 rfl
theorem dX12_asksOf_126 : decode cX12_asksOf 126 = .ok (.bipush 99, 2) := okd_at mX12_asksOf_1 20 rfl
theorem dX12_asksOf_128 : decode cX12_asksOf 128 = .ok (.invokestatic 173, 3) := okd_at mX12_asksOf_1 21 rfl
theorem dX12_asksOf_131 : decode cX12_asksOf 131 = .ok (.ireturn, 1) := okd_at mX12_asksOf_1 22 rfl
def lmX12_back_0 : List (Nat × Instr × Nat) := [(0, .aload_n 0, 1), (1, .getfield 275, 3), (4, .ifCond .ne 6, 3), (7, .bipush (-3), 2), (9, .ireturn, 1), (10, .iconst 0, 1), (11, .istore_n 1, 1), (12, .iload_n 1, 1), (13, .bipush 24, 2), (15, .if_icmp .ge 21, 3), (18, .aload_n 0, 1), (19, .getfield 7, 3), (22, .iload_n 1, 1), (23, .aload_n 0, 1), (24, .getfield 31, 3), (27, .iload_n 1, 1), (28, .iaload, 1), (29, .iastore, 1), (30, .iinc 1 1, 3), (33, .goto (-21), 3), (36, .iconst 0, 1), (37, .istore_n 1, 1), (38, .iload_n 1, 1), (39, .bipush 12, 2), (41, .if_icmp .ge 24, 3), (44, .aload_n 0, 1), (45, .getfield 19, 3), (48, .iload_n 1, 1), (49, .aload_n 0, 1), (50, .getfield 31, 3), (53, .bipush 24, 2), (55, .iload_n 1, 1), (56, .iadd, 1), (57, .iaload, 1), (58, .iastore, 1), (59, .iinc 1 1, 3), (62, .goto (-24), 3), (65, .aload_n 0, 1), (66, .aload_n 0, 1), (67, .getfield 34, 3), (70, .iconst 0, 1), (71, .iaload, 1), (72, .putfield 97, 3), (75, .aload_n 0, 1), (76, .aload_n 0, 1), (77, .getfield 34, 3), (80, .iconst 1, 1), (81, .iaload, 1), (82, .putfield 90, 3), (85, .aload_n 0, 1), (86, .aload_n 0, 1), (87, .getfield 34, 3), (90, .iconst 2, 1), (91, .iaload, 1), (92, .putfield 103, 3), (95, .aload_n 0, 1), (96, .getfield 97, 3), (99, .ireturn, 1)]
theorem mX12_back_0 : okd cX12_back lmX12_back_0 = true := by decide +kernel
theorem dX12_back_0 : decode cX12_back 0 = .ok (.aload_n 0, 1) := okd_at mX12_back_0 0 rfl
theorem dX12_back_1 : decode cX12_back 1 = .ok (.getfield 275, 3) := okd_at mX12_back_0 1 rfl
theorem dX12_back_4 : decode cX12_back 4 = .ok (.ifCond .ne 6, 3) := okd_at mX12_back_0 2 rfl
theorem dX12_back_7 : decode cX12_back 7 = .ok (.bipush (-3), 2) := okd_at mX12_back_0 3 rfl
theorem dX12_back_9 : decode cX12_back 9 = .ok (.ireturn, 1) := okd_at mX12_back_0 4 rfl
theorem dX12_back_10 : decode cX12_back 10 = .ok (.iconst 0, 1) := okd_at mX12_back_0 5 rfl
theorem dX12_back_11 : decode cX12_back 11 = .ok (.istore_n 1, 1) := okd_at mX12_back_0 6 rfl
theorem dX12_back_12 : decode cX12_back 12 = .ok (.iload_n 1, 1) := okd_at mX12_back_0 7 rfl
theorem dX12_back_13 : decode cX12_back 13 = .ok (.bipush 24, 2) := okd_at mX12_back_0 8 rfl
theorem dX12_back_15 : decode cX12_back 15 = .ok (.if_icmp .ge 21, 3) := okd_at mX12_back_0 9 rfl
theorem dX12_back_18 : decode cX12_back 18 = .ok (.aload_n 0, 1) := okd_at mX12_back_0 10 rfl
theorem dX12_back_19 : decode cX12_back 19 = .ok (.getfield 7, 3) := okd_at mX12_back_0 11 rfl
theorem dX12_back_22 : decode cX12_back 22 = .ok (.iload_n 1, 1) := okd_at mX12_back_0 12 rfl
theorem dX12_back_23 : decode cX12_back 23 = .ok (.aload_n 0, 1) := okd_at mX12_back_0 13 rfl
theorem dX12_back_24 : decode cX12_back 24 = .ok (.getfield 31, 3) := okd_at mX12_back_0 14 rfl
theorem dX12_back_27 : decode cX12_back 27 = .ok (.iload_n 1, 1) := okd_at mX12_back_0 15 rfl
theorem dX12_back_28 : decode cX12_back 28 = .ok (.iaload, 1) := okd_at mX12_back_0 16 rfl
theorem dX12_back_29 : decode cX12_back 29 = .ok (.iastore, 1) := okd_at mX12_back_0 17 rfl
theorem dX12_back_30 : decode cX12_back 30 = .ok (.iinc 1 1, 3) := okd_at mX12_back_0 18 rfl
theorem dX12_back_33 : decode cX12_back 33 = .ok (.goto (-21), 3) := okd_at mX12_back_0 19 rfl
theorem dX12_back_36 : decode cX12_back 36 = .ok (.iconst 0, 1) := okd_at mX12_back_0 20 rfl
theorem dX12_back_37 : decode cX12_back 37 = .ok (.istore_n 1, 1) := okd_at mX12_back_0 21 rfl
theorem dX12_back_38 : decode cX12_back 38 = .ok (.iload_n 1, 1) := okd_at mX12_back_0 22 rfl
theorem dX12_back_39 : decode cX12_back 39 = .ok (.bipush 12, 2) := okd_at mX12_back_0 23 rfl
theorem dX12_back_41 : decode cX12_back 41 = .ok (.if_icmp .ge 24, 3) := okd_at mX12_back_0 24 rfl
theorem dX12_back_44 : decode cX12_back 44 = .ok (.aload_n 0, 1) := okd_at mX12_back_0 25 rfl
theorem dX12_back_45 : decode cX12_back 45 = .ok (.getfield 19, 3) := okd_at mX12_back_0 26 rfl
theorem dX12_back_48 : decode cX12_back 48 = .ok (.iload_n 1, 1) := okd_at mX12_back_0 27 rfl
theorem dX12_back_49 : decode cX12_back 49 = .ok (.aload_n 0, 1) := okd_at mX12_back_0 28 rfl
theorem dX12_back_50 : decode cX12_back 50 = .ok (.getfield 31, 3) := okd_at mX12_back_0 29 rfl
theorem dX12_back_53 : decode cX12_back 53 = .ok (.bipush 24, 2) := okd_at mX12_back_0 30 rfl
theorem dX12_back_55 : decode cX12_back 55 = .ok (.iload_n 1, 1) := okd_at mX12_back_0 31 rfl
theorem dX12_back_56 : decode cX12_back 56 = .ok (.iadd, 1) := okd_at mX12_back_0 32 rfl
theorem dX12_back_57 : decode cX12_back 57 = .ok (.iaload, 1) := okd_at mX12_back_0 33 rfl
theorem dX12_back_58 : decode cX12_back 58 = .ok (.iastore, 1) := okd_at mX12_back_0 34 rfl
theorem dX12_back_59 : decode cX12_back 59 = .ok (.iinc 1 1, 3) := okd_at mX12_back_0 35 rfl
theorem dX12_back_62 : decode cX12_back 62 = .ok (.goto (-24), 3) := okd_at mX12_back_0 36 rfl
theorem dX12_back_65 : decode cX12_back 65 = .ok (.aload_n 0, 1) := okd_at mX12_back_0 37 rfl
theorem dX12_back_66 : decode cX12_back 66 = .ok (.aload_n 0, 1) := okd_at mX12_back_0 38 rfl
theorem dX12_back_67 : decode cX12_back 67 = .ok (.getfield 34, 3) := okd_at mX12_back_0 39 rfl
theorem dX12_back_70 : decode cX12_back 70 = .ok (.iconst 0, 1) := okd_at mX12_back_0 40 rfl
theorem dX12_back_71 : decode cX12_back 71 = .ok (.iaload, 1) := okd_at mX12_back_0 41 rfl
theorem dX12_back_72 : decode cX12_back 72 = .ok (.putfield 97, 3) := okd_at mX12_back_0 42 rfl
theorem dX12_back_75 : decode cX12_back 75 = .ok (.aload_n 0, 1) := okd_at mX12_back_0 43 rfl
theorem dX12_back_76 : decode cX12_back 76 = .ok (.aload_n 0, 1) := okd_at mX12_back_0 44 rfl
theorem dX12_back_77 : decode cX12_back 77 = .ok (.getfield 34, 3) := okd_at mX12_back_0 45 rfl
theorem dX12_back_80 : decode cX12_back 80 = .ok (.iconst 1, 1) := okd_at mX12_back_0 46 rfl
theorem dX12_back_81 : decode cX12_back 81 = .ok (.iaload, 1) := okd_at mX12_back_0 47 rfl
theorem dX12_back_82 : decode cX12_back 82 = .ok (.putfield 90, 3) := okd_at mX12_back_0 48 rfl
theorem dX12_back_85 : decode cX12_back 85 = .ok (.aload_n 0, 1) := okd_at mX12_back_0 49 rfl
theorem dX12_back_86 : decode cX12_back 86 = .ok (.aload_n 0, 1) := okd_at mX12_back_0 50 rfl
theorem dX12_back_87 : decode cX12_back 87 = .ok (.getfield 34, 3) := okd_at mX12_back_0 51 rfl
theorem dX12_back_90 : decode cX12_back 90 = .ok (.iconst 2, 1) := okd_at mX12_back_0 52 rfl
theorem dX12_back_91 : decode cX12_back 91 = .ok (.iaload, 1) := okd_at mX12_back_0 53 rfl
theorem dX12_back_92 : decode cX12_back 92 = .ok (.putfield 103, 3) := okd_at mX12_back_0 54 rfl
theorem dX12_back_95 : decode cX12_back 95 = .ok (.aload_n 0, 1) := okd_at mX12_back_0 55 rfl
theorem dX12_back_96 : decode cX12_back 96 = .ok (.getfield 97, 3) := okd_at mX12_back_0 56 rfl
theorem dX12_back_99 : decode cX12_back 99 = .ok (.ireturn, 1) := okd_at mX12_back_0 57 rfl
def lmX12_begins_0 : List (Nat × Instr × Nat) := [(0, .iconst 0, 1), (1, .istore_n 1, 1), (2, .iload_n 1, 1), (3, .bipush 8, 2), (5, .if_icmp .ge 16, 3), (8, .aload_n 0, 1), (9, .getfield 61, 3), (12, .iload_n 1, 1), (13, .iconst 0, 1), (14, .iastore, 1), (15, .iinc 1 1, 3), (18, .goto (-16), 3), (21, .return_, 1)]
theorem mX12_begins_0 : okd cX12_begins lmX12_begins_0 = true := by decide +kernel
theorem dX12_begins_0 : decode cX12_begins 0 = .ok (.iconst 0, 1) := okd_at mX12_begins_0 0 rfl
theorem dX12_begins_1 : decode cX12_begins 1 = .ok (.istore_n 1, 1) := okd_at mX12_begins_0 1 rfl
theorem dX12_begins_2 : decode cX12_begins 2 = .ok (.iload_n 1, 1) := okd_at mX12_begins_0 2 rfl
theorem dX12_begins_3 : decode cX12_begins 3 = .ok (.bipush 8, 2) := okd_at mX12_begins_0 3 rfl
theorem dX12_begins_5 : decode cX12_begins 5 = .ok (.if_icmp .ge 16, 3) := okd_at mX12_begins_0 4 rfl
theorem dX12_begins_8 : decode cX12_begins 8 = .ok (.aload_n 0, 1) := okd_at mX12_begins_0 5 rfl
theorem dX12_begins_9 : decode cX12_begins 9 = .ok (.getfield 61, 3) := okd_at mX12_begins_0 6 rfl
theorem dX12_begins_12 : decode cX12_begins 12 = .ok (.iload_n 1, 1) := okd_at mX12_begins_0 7 rfl
theorem dX12_begins_13 : decode cX12_begins 13 = .ok (.iconst 0, 1) := okd_at mX12_begins_0 8 rfl
theorem dX12_begins_14 : decode cX12_begins 14 = .ok (.iastore, 1) := okd_at mX12_begins_0 9 rfl
theorem dX12_begins_15 : decode cX12_begins 15 = .ok (.iinc 1 1, 3) := okd_at mX12_begins_0 10 rfl
theorem dX12_begins_18 : decode cX12_begins 18 = .ok (.goto (-16), 3) := okd_at mX12_begins_0 11 rfl
theorem dX12_begins_21 : decode cX12_begins 21 = .ok (.return_, 1) := okd_at mX12_begins_0 12 rfl
def lmX12_between_0 : List (Nat × Instr × Nat) := [(0, .aload_n 0, 1), (1, .iload_n 1, 1), (2, .invokestatic 135, 3), (5, .iconst 4, 1), (6, .if_icmp .ne 7, 3), (9, .iconst 5, 1), (10, .goto 7, 3), (13, .iload_n 1, 1), (14, .invokestatic 135, 3), (17, .invokevirtual 149, 3), (20, .iload_n 1, 1), (21, .invokestatic 135, 3), (24, .iconst 4, 1), (25, .if_icmp .ne 30, 3), (28, .aload_n 0, 1), (29, .getfield 132, 3), (32, .ifCond .le 23, 3), (35, .aload_n 0, 1), (36, .getfield 52, 3), (39, .aload_n 0, 1), (40, .getfield 132, 3), (43, .iconst 1, 1), (44, .isub, 1), (45, .iaload, 1), (46, .invokestatic 135, 3), (49, .iconst 4, 1), (50, .if_icmp .ne 5, 3), (53, .iconst 0, 1), (54, .ireturn, 1), (55, .aload_n 0, 1), (56, .iload_n 1, 1), (57, .invokevirtual 146, 3), (60, .iconst 1, 1), (61, .ireturn, 1)]
theorem mX12_between_0 : okd cX12_between lmX12_between_0 = true := by decide +kernel
theorem dX12_between_0 : decode cX12_between 0 = .ok (.aload_n 0, 1) := okd_at mX12_between_0 0 rfl
theorem dX12_between_1 : decode cX12_between 1 = .ok (.iload_n 1, 1) := okd_at mX12_between_0 1 rfl
theorem dX12_between_2 : decode cX12_between 2 = .ok (.invokestatic 135, 3) := okd_at mX12_between_0 2 rfl
theorem dX12_between_5 : decode cX12_between 5 = .ok (.iconst 4, 1) := okd_at mX12_between_0 3 rfl
theorem dX12_between_6 : decode cX12_between 6 = .ok (.if_icmp .ne 7, 3) := okd_at mX12_between_0 4 rfl
theorem dX12_between_9 : decode cX12_between 9 = .ok (.iconst 5, 1) := okd_at mX12_between_0 5 rfl
theorem dX12_between_10 : decode cX12_between 10 = .ok (.goto 7, 3) := okd_at mX12_between_0 6 rfl
theorem dX12_between_13 : decode cX12_between 13 = .ok (.iload_n 1, 1) := okd_at mX12_between_0 7 rfl
theorem dX12_between_14 : decode cX12_between 14 = .ok (.invokestatic 135, 3) := okd_at mX12_between_0 8 rfl
theorem dX12_between_17 : decode cX12_between 17 = .ok (.invokevirtual 149, 3) := okd_at mX12_between_0 9 rfl
theorem dX12_between_20 : decode cX12_between 20 = .ok (.iload_n 1, 1) := okd_at mX12_between_0 10 rfl
theorem dX12_between_21 : decode cX12_between 21 = .ok (.invokestatic 135, 3) := okd_at mX12_between_0 11 rfl
theorem dX12_between_24 : decode cX12_between 24 = .ok (.iconst 4, 1) := okd_at mX12_between_0 12 rfl
theorem dX12_between_25 : decode cX12_between 25 = .ok (.if_icmp .ne 30, 3) := okd_at mX12_between_0 13 rfl
theorem dX12_between_28 : decode cX12_between 28 = .ok (.aload_n 0, 1) := okd_at mX12_between_0 14 rfl
theorem dX12_between_29 : decode cX12_between 29 = .ok (.getfield 132, 3) := okd_at mX12_between_0 15 rfl
theorem dX12_between_32 : decode cX12_between 32 = .ok (.ifCond .le 23, 3) := okd_at mX12_between_0 16 rfl
theorem dX12_between_35 : decode cX12_between 35 = .ok (.aload_n 0, 1) := okd_at mX12_between_0 17 rfl
theorem dX12_between_36 : decode cX12_between 36 = .ok (.getfield 52, 3) := okd_at mX12_between_0 18 rfl
theorem dX12_between_39 : decode cX12_between 39 = .ok (.aload_n 0, 1) := okd_at mX12_between_0 19 rfl
theorem dX12_between_40 : decode cX12_between 40 = .ok (.getfield 132, 3) := okd_at mX12_between_0 20 rfl
theorem dX12_between_43 : decode cX12_between 43 = .ok (.iconst 1, 1) := okd_at mX12_between_0 21 rfl
theorem dX12_between_44 : decode cX12_between 44 = .ok (.isub, 1) := okd_at mX12_between_0 22 rfl
theorem dX12_between_45 : decode cX12_between 45 = .ok (.iaload, 1) := okd_at mX12_between_0 23 rfl
theorem dX12_between_46 : decode cX12_between 46 = .ok (.invokestatic 135, 3) := okd_at mX12_between_0 24 rfl
theorem dX12_between_49 : decode cX12_between 49 = .ok (.iconst 4, 1) := okd_at mX12_between_0 25 rfl
theorem dX12_between_50 : decode cX12_between 50 = .ok (.if_icmp .ne 5, 3) := okd_at mX12_between_0 26 rfl
theorem dX12_between_53 : decode cX12_between 53 = .ok (.iconst 0, 1) := okd_at mX12_between_0 27 rfl
theorem dX12_between_54 : decode cX12_between 54 = .ok (.ireturn, 1) := okd_at mX12_between_0 28 rfl
theorem dX12_between_55 : decode cX12_between 55 = .ok (.aload_n 0, 1) := okd_at mX12_between_0 29 rfl
theorem dX12_between_56 : decode cX12_between 56 = .ok (.iload_n 1, 1) := okd_at mX12_between_0 30 rfl
theorem dX12_between_57 : decode cX12_between 57 = .ok (.invokevirtual 146, 3) := okd_at mX12_between_0 31 rfl
theorem dX12_between_60 : decode cX12_between 60 = .ok (.iconst 1, 1) := okd_at mX12_between_0 32 rfl
theorem dX12_between_61 : decode cX12_between 61 = .ok (.ireturn, 1) := okd_at mX12_between_0 33 rfl
def lmX12_card_0 : List (Nat × Instr × Nat) := [(0, .aload_n 0, 1), (1, .iload_n 1, 1), (2, .invokevirtual 182, 3), (5, .ifCond .ne 6, 3), (8, .bipush (-6), 2), (10, .ireturn, 1), (11, .iload_n 2, 1), (12, .ifCond .ne 12, 3), (15, .aload_n 0, 1), (16, .getfield 13, 3), (19, .iload_n 1, 1), (20, .iaload, 1), (21, .goto 43, 3), (24, .iload_n 2, 1), (25, .iconst 1, 1), (26, .if_icmp .ne 12, 3), (29, .aload_n 0, 1), (30, .getfield 16, 3), (33, .iload_n 1, 1), (34, .iaload, 1), (35, .goto 29, 3), (38, .iload_n 2, 1), (39, .iconst 2, 1), (40, .iconst 3, 1), (41, .invokestatic 93, 3), (44, .ifCond .eq 18, 3), (47, .aload_n 0, 1), (48, .getfield 19, 3), (51, .iconst 2, 1), (52, .iload_n 1, 1), (53, .imul, 1), (54, .iload_n 2, 1), (55, .iadd, 1), (56, .iconst 2, 1), (57, .isub, 1), (58, .iaload, 1), (59, .goto 5, 3), (62, .bipush (-7), 2), (64, .ireturn, 1)]
theorem mX12_card_0 : okd cX12_card lmX12_card_0 = true := by decide +kernel
theorem dX12_card_0 : decode cX12_card 0 = .ok (.aload_n 0, 1) := okd_at mX12_card_0 0 rfl
theorem dX12_card_1 : decode cX12_card 1 = .ok (.iload_n 1, 1) := okd_at mX12_card_0 1 rfl
theorem dX12_card_2 : decode cX12_card 2 = .ok (.invokevirtual 182, 3) := okd_at mX12_card_0 2 rfl
theorem dX12_card_5 : decode cX12_card 5 = .ok (.ifCond .ne 6, 3) := okd_at mX12_card_0 3 rfl
theorem dX12_card_8 : decode cX12_card 8 = .ok (.bipush (-6), 2) := okd_at mX12_card_0 4 rfl
theorem dX12_card_10 : decode cX12_card 10 = .ok (.ireturn, 1) := okd_at mX12_card_0 5 rfl
theorem dX12_card_11 : decode cX12_card 11 = .ok (.iload_n 2, 1) := okd_at mX12_card_0 6 rfl
theorem dX12_card_12 : decode cX12_card 12 = .ok (.ifCond .ne 12, 3) := okd_at mX12_card_0 7 rfl
theorem dX12_card_15 : decode cX12_card 15 = .ok (.aload_n 0, 1) := okd_at mX12_card_0 8 rfl
theorem dX12_card_16 : decode cX12_card 16 = .ok (.getfield 13, 3) := okd_at mX12_card_0 9 rfl
theorem dX12_card_19 : decode cX12_card 19 = .ok (.iload_n 1, 1) := okd_at mX12_card_0 10 rfl
theorem dX12_card_20 : decode cX12_card 20 = .ok (.iaload, 1) := okd_at mX12_card_0 11 rfl
theorem dX12_card_21 : decode cX12_card 21 = .ok (.goto 43, 3) := okd_at mX12_card_0 12 rfl
theorem dX12_card_24 : decode cX12_card 24 = .ok (.iload_n 2, 1) := okd_at mX12_card_0 13 rfl
theorem dX12_card_25 : decode cX12_card 25 = .ok (.iconst 1, 1) := okd_at mX12_card_0 14 rfl
theorem dX12_card_26 : decode cX12_card 26 = .ok (.if_icmp .ne 12, 3) := okd_at mX12_card_0 15 rfl
theorem dX12_card_29 : decode cX12_card 29 = .ok (.aload_n 0, 1) := okd_at mX12_card_0 16 rfl
theorem dX12_card_30 : decode cX12_card 30 = .ok (.getfield 16, 3) := okd_at mX12_card_0 17 rfl
theorem dX12_card_33 : decode cX12_card 33 = .ok (.iload_n 1, 1) := okd_at mX12_card_0 18 rfl
theorem dX12_card_34 : decode cX12_card 34 = .ok (.iaload, 1) := okd_at mX12_card_0 19 rfl
theorem dX12_card_35 : decode cX12_card 35 = .ok (.goto 29, 3) := okd_at mX12_card_0 20 rfl
theorem dX12_card_38 : decode cX12_card 38 = .ok (.iload_n 2, 1) := okd_at mX12_card_0 21 rfl
theorem dX12_card_39 : decode cX12_card 39 = .ok (.iconst 2, 1) := okd_at mX12_card_0 22 rfl
theorem dX12_card_40 : decode cX12_card 40 = .ok (.iconst 3, 1) := okd_at mX12_card_0 23 rfl
theorem dX12_card_41 : decode cX12_card 41 = .ok (.invokestatic 93, 3) := okd_at mX12_card_0 24 rfl
theorem dX12_card_44 : decode cX12_card 44 = .ok (.ifCond .eq 18, 3) := okd_at mX12_card_0 25 rfl
theorem dX12_card_47 : decode cX12_card 47 = .ok (.aload_n 0, 1) := okd_at mX12_card_0 26 rfl
theorem dX12_card_48 : decode cX12_card 48 = .ok (.getfield 19, 3) := okd_at mX12_card_0 27 rfl
theorem dX12_card_51 : decode cX12_card 51 = .ok (.iconst 2, 1) := okd_at mX12_card_0 28 rfl
theorem dX12_card_52 : decode cX12_card 52 = .ok (.iload_n 1, 1) := okd_at mX12_card_0 29 rfl
theorem dX12_card_53 : decode cX12_card 53 = .ok (.imul, 1) := okd_at mX12_card_0 30 rfl
theorem dX12_card_54 : decode cX12_card 54 = .ok (.iload_n 2, 1) := okd_at mX12_card_0 31 rfl
theorem dX12_card_55 : decode cX12_card 55 = .ok (.iadd, 1) := okd_at mX12_card_0 32 rfl
theorem dX12_card_56 : decode cX12_card 56 = .ok (.iconst 2, 1) := okd_at mX12_card_0 33 rfl
theorem dX12_card_57 : decode cX12_card 57 = .ok (.isub, 1) := okd_at mX12_card_0 34 rfl
theorem dX12_card_58 : decode cX12_card 58 = .ok (.iaload, 1) := okd_at mX12_card_0 35 rfl
theorem dX12_card_59 : decode cX12_card 59 = .ok (.goto 5, 3) := okd_at mX12_card_0 36 rfl
theorem dX12_card_62 : decode cX12_card 62 = .ok (.bipush (-7), 2) := okd_at mX12_card_0 37 rfl
theorem dX12_card_64 : decode cX12_card 64 = .ok (.ireturn, 1) := okd_at mX12_card_0 38 rfl
def lmX12_cell_0 : List (Nat × Instr × Nat) := [(0, .iload_n 1, 1), (1, .iconst 0, 1), (2, .iconst 3, 1), (3, .invokestatic 93, 3), (6, .ifCond .ne 6, 3), (9, .bipush (-2), 2), (11, .ireturn, 1), (12, .aload_n 0, 1), (13, .getfield 37, 3), (16, .iload_n 1, 1), (17, .iaload, 1), (18, .iconst (-1), 1), (19, .if_icmp .ne 6, 3), (22, .bipush (-11), 2), (24, .ireturn, 1), (25, .iload_n 2, 1), (26, .iconst 0, 1), (27, .aload_n 0, 1), (28, .getfield 40, 3), (31, .iload_n 1, 1), (32, .iaload, 1), (33, .iconst 1, 1), (34, .isub, 1), (35, .invokestatic 93, 3), (38, .ifCond .ne 6, 3), (41, .bipush (-12), 2), (43, .ireturn, 1), (44, .aload_n 0, 1), (45, .getfield 43, 3), (48, .bipush 40, 2), (50, .iload_n 1, 1), (51, .imul, 1), (52, .iload_n 2, 1), (53, .iadd, 1), (54, .aload_n 0, 1), (55, .getfield 37, 3), (58, .iload_n 1, 1), (59, .iaload, 1), (60, .ifCond .ne 8, 3), (63, .iload_n 3, 1), (64, .i2b, 1), (65, .goto 19, 3), (68, .aload_n 0, 1), (69, .getfield 37, 3), (72, .iload_n 1, 1), (73, .iaload, 1), (74, .iconst 1, 1), (75, .if_icmp .ne 8, 3), (78, .iload_n 3, 1), (79, .i2s, 1), (80, .goto 4, 3), (83, .iload_n 3, 1), (84, .iastore, 1), (85, .iconst 1, 1), (86, .ireturn, 1)]
theorem mX12_cell_0 : okd cX12_cell lmX12_cell_0 = true := by decide +kernel
theorem dX12_cell_0 : decode cX12_cell 0 = .ok (.iload_n 1, 1) := okd_at mX12_cell_0 0 rfl
theorem dX12_cell_1 : decode cX12_cell 1 = .ok (.iconst 0, 1) := okd_at mX12_cell_0 1 rfl
theorem dX12_cell_2 : decode cX12_cell 2 = .ok (.iconst 3, 1) := okd_at mX12_cell_0 2 rfl
theorem dX12_cell_3 : decode cX12_cell 3 = .ok (.invokestatic 93, 3) := okd_at mX12_cell_0 3 rfl
theorem dX12_cell_6 : decode cX12_cell 6 = .ok (.ifCond .ne 6, 3) := okd_at mX12_cell_0 4 rfl
theorem dX12_cell_9 : decode cX12_cell 9 = .ok (.bipush (-2), 2) := okd_at mX12_cell_0 5 rfl
theorem dX12_cell_11 : decode cX12_cell 11 = .ok (.ireturn, 1) := okd_at mX12_cell_0 6 rfl
theorem dX12_cell_12 : decode cX12_cell 12 = .ok (.aload_n 0, 1) := okd_at mX12_cell_0 7 rfl
theorem dX12_cell_13 : decode cX12_cell 13 = .ok (.getfield 37, 3) := okd_at mX12_cell_0 8 rfl
theorem dX12_cell_16 : decode cX12_cell 16 = .ok (.iload_n 1, 1) := okd_at mX12_cell_0 9 rfl
theorem dX12_cell_17 : decode cX12_cell 17 = .ok (.iaload, 1) := okd_at mX12_cell_0 10 rfl
theorem dX12_cell_18 : decode cX12_cell 18 = .ok (.iconst (-1), 1) := okd_at mX12_cell_0 11 rfl
theorem dX12_cell_19 : decode cX12_cell 19 = .ok (.if_icmp .ne 6, 3) := okd_at mX12_cell_0 12 rfl
theorem dX12_cell_22 : decode cX12_cell 22 = .ok (.bipush (-11), 2) := okd_at mX12_cell_0 13 rfl
theorem dX12_cell_24 : decode cX12_cell 24 = .ok (.ireturn, 1) := okd_at mX12_cell_0 14 rfl
theorem dX12_cell_25 : decode cX12_cell 25 = .ok (.iload_n 2, 1) := okd_at mX12_cell_0 15 rfl
theorem dX12_cell_26 : decode cX12_cell 26 = .ok (.iconst 0, 1) := okd_at mX12_cell_0 16 rfl
theorem dX12_cell_27 : decode cX12_cell 27 = .ok (.aload_n 0, 1) := okd_at mX12_cell_0 17 rfl
theorem dX12_cell_28 : decode cX12_cell 28 = .ok (.getfield 40, 3) := okd_at mX12_cell_0 18 rfl
theorem dX12_cell_31 : decode cX12_cell 31 = .ok (.iload_n 1, 1) := okd_at mX12_cell_0 19 rfl
theorem dX12_cell_32 : decode cX12_cell 32 = .ok (.iaload, 1) := okd_at mX12_cell_0 20 rfl
theorem dX12_cell_33 : decode cX12_cell 33 = .ok (.iconst 1, 1) := okd_at mX12_cell_0 21 rfl
theorem dX12_cell_34 : decode cX12_cell 34 = .ok (.isub, 1) := okd_at mX12_cell_0 22 rfl
theorem dX12_cell_35 : decode cX12_cell 35 = .ok (.invokestatic 93, 3) := okd_at mX12_cell_0 23 rfl
theorem dX12_cell_38 : decode cX12_cell 38 = .ok (.ifCond .ne 6, 3) := okd_at mX12_cell_0 24 rfl
theorem dX12_cell_41 : decode cX12_cell 41 = .ok (.bipush (-12), 2) := okd_at mX12_cell_0 25 rfl
theorem dX12_cell_43 : decode cX12_cell 43 = .ok (.ireturn, 1) := okd_at mX12_cell_0 26 rfl
theorem dX12_cell_44 : decode cX12_cell 44 = .ok (.aload_n 0, 1) := okd_at mX12_cell_0 27 rfl
theorem dX12_cell_45 : decode cX12_cell 45 = .ok (.getfield 43, 3) := okd_at mX12_cell_0 28 rfl
theorem dX12_cell_48 : decode cX12_cell 48 = .ok (.bipush 40, 2) := okd_at mX12_cell_0 29 rfl
theorem dX12_cell_50 : decode cX12_cell 50 = .ok (.iload_n 1, 1) := okd_at mX12_cell_0 30 rfl
theorem dX12_cell_51 : decode cX12_cell 51 = .ok (.imul, 1) := okd_at mX12_cell_0 31 rfl
theorem dX12_cell_52 : decode cX12_cell 52 = .ok (.iload_n 2, 1) := okd_at mX12_cell_0 32 rfl
theorem dX12_cell_53 : decode cX12_cell 53 = .ok (.iadd, 1) := okd_at mX12_cell_0 33 rfl
theorem dX12_cell_54 : decode cX12_cell 54 = .ok (.aload_n 0, 1) := okd_at mX12_cell_0 34 rfl
theorem dX12_cell_55 : decode cX12_cell 55 = .ok (.getfield 37, 3) := okd_at mX12_cell_0 35 rfl
theorem dX12_cell_58 : decode cX12_cell 58 = .ok (.iload_n 1, 1) := okd_at mX12_cell_0 36 rfl
theorem dX12_cell_59 : decode cX12_cell 59 = .ok (.iaload, 1) := okd_at mX12_cell_0 37 rfl
theorem dX12_cell_60 : decode cX12_cell 60 = .ok (.ifCond .ne 8, 3) := okd_at mX12_cell_0 38 rfl
theorem dX12_cell_63 : decode cX12_cell 63 = .ok (.iload_n 3, 1) := okd_at mX12_cell_0 39 rfl
theorem dX12_cell_64 : decode cX12_cell 64 = .ok (.i2b, 1) := okd_at mX12_cell_0 40 rfl
theorem dX12_cell_65 : decode cX12_cell 65 = .ok (.goto 19, 3) := okd_at mX12_cell_0 41 rfl
theorem dX12_cell_68 : decode cX12_cell 68 = .ok (.aload_n 0, 1) := okd_at mX12_cell_0 42 rfl
theorem dX12_cell_69 : decode cX12_cell 69 = .ok (.getfield 37, 3) := okd_at mX12_cell_0 43 rfl
theorem dX12_cell_72 : decode cX12_cell 72 = .ok (.iload_n 1, 1) := okd_at mX12_cell_0 44 rfl
theorem dX12_cell_73 : decode cX12_cell 73 = .ok (.iaload, 1) := okd_at mX12_cell_0 45 rfl
theorem dX12_cell_74 : decode cX12_cell 74 = .ok (.iconst 1, 1) := okd_at mX12_cell_0 46 rfl
theorem dX12_cell_75 : decode cX12_cell 75 = .ok (.if_icmp .ne 8, 3) := okd_at mX12_cell_0 47 rfl
theorem dX12_cell_78 : decode cX12_cell 78 = .ok (.iload_n 3, 1) := okd_at mX12_cell_0 48 rfl
theorem dX12_cell_79 : decode cX12_cell 79 = .ok (.i2s, 1) := okd_at mX12_cell_0 49 rfl
theorem dX12_cell_80 : decode cX12_cell 80 = .ok (.goto 4, 3) := okd_at mX12_cell_0 50 rfl
theorem dX12_cell_83 : decode cX12_cell 83 = .ok (.iload_n 3, 1) := okd_at mX12_cell_0 51 rfl
theorem dX12_cell_84 : decode cX12_cell 84 = .ok (.iastore, 1) := okd_at mX12_cell_0 52 rfl
theorem dX12_cell_85 : decode cX12_cell 85 = .ok (.iconst 1, 1) := okd_at mX12_cell_0 53 rfl
theorem dX12_cell_86 : decode cX12_cell 86 = .ok (.ireturn, 1) := okd_at mX12_cell_0 54 rfl
def lmX12_changed_0 : List (Nat × Instr × Nat) := [(0, .aload_n 0, 1), (1, .invokevirtual 234, 3), (4, .iconst 0, 1), (5, .istore_n 2, 1), (6, .iload_n 2, 1), (7, .aload_n 0, 1), (8, .getfield 97, 3), (11, .if_icmp .ge 88, 3), (14, .aload_n 0, 1), (15, .getfield 19, 3), (18, .iconst 2, 1), (19, .iload_n 2, 1), (20, .imul, 1), (21, .iaload, 1), (22, .istore_n 3, 1), (23, .iconst 0, 1), (24, .istore 4, 2), (26, .iload 4, 2), (28, .aload_n 0, 1), (29, .getfield 90, 3), (32, .if_icmp .ge 52, 3), (35, .iload_n 3, 1), (36, .iload 4, 2), (38, .ishr, 1), (39, .iconst 1, 1), (40, .iand, 1), (41, .iload_n 1, 1), (42, .ifCond .eq 7, 3), (45, .iconst 0, 1), (46, .goto 4, 3), (49, .iconst 1, 1), (50, .if_icmp .ne 28, 3), (53, .aload_n 0, 1), (54, .getfield 19, 3), (57, .iconst 2, 1), (58, .iload_n 2, 1), (59, .imul, 1), (60, .iload_n 3, 1), (61, .iconst 1, 1), (62, .iload 4, 2), (64, .ishl, 1), (65, .ixor, 1), (66, .iastore, 1), (67, .aload_n 0, 1), (68, .bipush 10, 2), (70, .iload_n 2, 1), (71, .imul, 1), (72, .iload 4, 2), (74, .iadd, 1), (75, .invokevirtual 237, 3), (78, .iinc 4 1, 3), (81, .goto (-55), 3), (84, .aload_n 0, 1), (85, .getfield 19, 3), (88, .iconst 2, 1), (89, .iload_n 2, 1), (90, .imul, 1), (91, .iload_n 3, 1), (92, .iastore, 1), (93, .iinc 2 1, 3)]
theorem mX12_changed_0 : okd cX12_changed lmX12_changed_0 = true := by decide +kernel
theorem dX12_changed_0 : decode cX12_changed 0 = .ok (.aload_n 0, 1) := okd_at mX12_changed_0 0 rfl
theorem dX12_changed_1 : decode cX12_changed 1 = .ok (.invokevirtual 234, 3) := okd_at mX12_changed_0 1 rfl
theorem dX12_changed_4 : decode cX12_changed 4 = .ok (.iconst 0, 1) := okd_at mX12_changed_0 2 rfl
theorem dX12_changed_5 : decode cX12_changed 5 = .ok (.istore_n 2, 1) := okd_at mX12_changed_0 3 rfl
theorem dX12_changed_6 : decode cX12_changed 6 = .ok (.iload_n 2, 1) := okd_at mX12_changed_0 4 rfl
theorem dX12_changed_7 : decode cX12_changed 7 = .ok (.aload_n 0, 1) := okd_at mX12_changed_0 5 rfl
theorem dX12_changed_8 : decode cX12_changed 8 = .ok (.getfield 97, 3) := okd_at mX12_changed_0 6 rfl
theorem dX12_changed_11 : decode cX12_changed 11 = .ok (.if_icmp .ge 88, 3) := okd_at mX12_changed_0 7 rfl
theorem dX12_changed_14 : decode cX12_changed 14 = .ok (.aload_n 0, 1) := okd_at mX12_changed_0 8 rfl
theorem dX12_changed_15 : decode cX12_changed 15 = .ok (.getfield 19, 3) := okd_at mX12_changed_0 9 rfl
theorem dX12_changed_18 : decode cX12_changed 18 = .ok (.iconst 2, 1) := okd_at mX12_changed_0 10 rfl
theorem dX12_changed_19 : decode cX12_changed 19 = .ok (.iload_n 2, 1) := okd_at mX12_changed_0 11 rfl
theorem dX12_changed_20 : decode cX12_changed 20 = .ok (.imul, 1) := okd_at mX12_changed_0 12 rfl
theorem dX12_changed_21 : decode cX12_changed 21 = .ok (.iaload, 1) := okd_at mX12_changed_0 13 rfl
theorem dX12_changed_22 : decode cX12_changed 22 = .ok (.istore_n 3, 1) := okd_at mX12_changed_0 14 rfl
theorem dX12_changed_23 : decode cX12_changed 23 = .ok (.iconst 0, 1) := okd_at mX12_changed_0 15 rfl
theorem dX12_changed_24 : decode cX12_changed 24 = .ok (.istore 4, 2) := okd_at mX12_changed_0 16 rfl
theorem dX12_changed_26 : decode cX12_changed 26 = .ok (.iload 4, 2) := okd_at mX12_changed_0 17 rfl
theorem dX12_changed_28 : decode cX12_changed 28 = .ok (.aload_n 0, 1) := okd_at mX12_changed_0 18 rfl
theorem dX12_changed_29 : decode cX12_changed 29 = .ok (.getfield 90, 3) := okd_at mX12_changed_0 19 rfl
theorem dX12_changed_32 : decode cX12_changed 32 = .ok (.if_icmp .ge 52, 3) := okd_at mX12_changed_0 20 rfl
theorem dX12_changed_35 : decode cX12_changed 35 = .ok (.iload_n 3, 1) := okd_at mX12_changed_0 21 rfl
theorem dX12_changed_36 : decode cX12_changed 36 = .ok (.iload 4, 2) := okd_at mX12_changed_0 22 rfl
theorem dX12_changed_38 : decode cX12_changed 38 = .ok (.ishr, 1) := okd_at mX12_changed_0 23 rfl
theorem dX12_changed_39 : decode cX12_changed 39 = .ok (.iconst 1, 1) := okd_at mX12_changed_0 24 rfl
theorem dX12_changed_40 : decode cX12_changed 40 = .ok (.iand, 1) := okd_at mX12_changed_0 25 rfl
theorem dX12_changed_41 : decode cX12_changed 41 = .ok (.iload_n 1, 1) := okd_at mX12_changed_0 26 rfl
theorem dX12_changed_42 : decode cX12_changed 42 = .ok (.ifCond .eq 7, 3) := okd_at mX12_changed_0 27 rfl
theorem dX12_changed_45 : decode cX12_changed 45 = .ok (.iconst 0, 1) := okd_at mX12_changed_0 28 rfl
theorem dX12_changed_46 : decode cX12_changed 46 = .ok (.goto 4, 3) := okd_at mX12_changed_0 29 rfl
theorem dX12_changed_49 : decode cX12_changed 49 = .ok (.iconst 1, 1) := okd_at mX12_changed_0 30 rfl
theorem dX12_changed_50 : decode cX12_changed 50 = .ok (.if_icmp .ne 28, 3) := okd_at mX12_changed_0 31 rfl
theorem dX12_changed_53 : decode cX12_changed 53 = .ok (.aload_n 0, 1) := okd_at mX12_changed_0 32 rfl
theorem dX12_changed_54 : decode cX12_changed 54 = .ok (.getfield 19, 3) := okd_at mX12_changed_0 33 rfl
theorem dX12_changed_57 : decode cX12_changed 57 = .ok (.iconst 2, 1) := okd_at mX12_changed_0 34 rfl
theorem dX12_changed_58 : decode cX12_changed 58 = .ok (.iload_n 2, 1) := okd_at mX12_changed_0 35 rfl
theorem dX12_changed_59 : decode cX12_changed 59 = .ok (.imul, 1) := okd_at mX12_changed_0 36 rfl
theorem dX12_changed_60 : decode cX12_changed 60 = .ok (.iload_n 3, 1) := okd_at mX12_changed_0 37 rfl
theorem dX12_changed_61 : decode cX12_changed 61 = .ok (.iconst 1, 1) := okd_at mX12_changed_0 38 rfl
theorem dX12_changed_62 : decode cX12_changed 62 = .ok (.iload 4, 2) := okd_at mX12_changed_0 39 rfl
theorem dX12_changed_64 : decode cX12_changed 64 = .ok (.ishl, 1) := okd_at mX12_changed_0 40 rfl
theorem dX12_changed_65 : decode cX12_changed 65 = .ok (.ixor, 1) := okd_at mX12_changed_0 41 rfl
theorem dX12_changed_66 : decode cX12_changed 66 = .ok (.iastore, 1) := okd_at mX12_changed_0 42 rfl
theorem dX12_changed_67 : decode cX12_changed 67 = .ok (.aload_n 0, 1) := okd_at mX12_changed_0 43 rfl
theorem dX12_changed_68 : decode cX12_changed 68 = .ok (.bipush 10, 2) := okd_at mX12_changed_0 44 rfl
theorem dX12_changed_70 : decode cX12_changed 70 = .ok (.iload_n 2, 1) := okd_at mX12_changed_0 45 rfl
theorem dX12_changed_71 : decode cX12_changed 71 = .ok (.imul, 1) := okd_at mX12_changed_0 46 rfl
theorem dX12_changed_72 : decode cX12_changed 72 = .ok (.iload 4, 2) := okd_at mX12_changed_0 47 rfl
theorem dX12_changed_74 : decode cX12_changed 74 = .ok (.iadd, 1) := okd_at mX12_changed_0 48 rfl
theorem dX12_changed_75 : decode cX12_changed 75 = .ok (.invokevirtual 237, 3) := okd_at mX12_changed_0 49 rfl
theorem dX12_changed_78 : decode cX12_changed 78 = .ok (.iinc 4 1, 3) := okd_at mX12_changed_0 50 rfl
theorem dX12_changed_81 : decode cX12_changed 81 = .ok (.goto (-55), 3) := okd_at mX12_changed_0 51 rfl
theorem dX12_changed_84 : decode cX12_changed 84 = .ok (.aload_n 0, 1) := okd_at mX12_changed_0 52 rfl
theorem dX12_changed_85 : decode cX12_changed 85 = .ok (.getfield 19, 3) := okd_at mX12_changed_0 53 rfl
theorem dX12_changed_88 : decode cX12_changed 88 = .ok (.iconst 2, 1) := okd_at mX12_changed_0 54 rfl
theorem dX12_changed_89 : decode cX12_changed 89 = .ok (.iload_n 2, 1) := okd_at mX12_changed_0 55 rfl
theorem dX12_changed_90 : decode cX12_changed 90 = .ok (.imul, 1) := okd_at mX12_changed_0 56 rfl
theorem dX12_changed_91 : decode cX12_changed 91 = .ok (.iload_n 3, 1) := okd_at mX12_changed_0 57 rfl
theorem dX12_changed_92 : decode cX12_changed 92 = .ok (.iastore, 1) := okd_at mX12_changed_0 58 rfl
theorem dX12_changed_93 : decode cX12_changed 93 = .ok (.iinc 2 1, 3) := okd_at mX12_changed_0 59 rfl
def lmX12_changed_1 : List (Nat × Instr × Nat) := [(96, .goto (-90), 3), (99, .return_, 1)]
theorem mX12_changed_1 : okd cX12_changed lmX12_changed_1 = true := by decide +kernel
theorem dX12_changed_96 : decode cX12_changed 96 = .ok (.goto (-90), 3) := okd_at mX12_changed_1 0 rfl
theorem dX12_changed_99 : decode cX12_changed 99 = .ok (.return_, 1) := okd_at mX12_changed_1 1 rfl
def lmX12_child_0 : List (Nat × Instr × Nat) := [(0, .iload_n 1, 1), (1, .iconst 0, 1), (2, .sipush 9999, 3), (5, .invokestatic 93, 3), (8, .ifCond .ne 6, 3), (11, .bipush (-2), 2), (13, .ireturn, 1), (14, .aload_n 0, 1), (15, .getfield 90, 3), (18, .bipush 8, 2), (20, .if_icmp .ne 6, 3), (23, .bipush (-4), 2), (25, .ireturn, 1), (26, .aload_n 0, 1), (27, .getfield 7, 3), (30, .iconst 3, 1), (31, .aload_n 0, 1), (32, .getfield 90, 3), (35, .imul, 1), (36, .iload_n 1, 1), (37, .bipush 100, 2), (39, .idiv, 1), (40, .iastore, 1), (41, .aload_n 0, 1), (42, .getfield 7, 3), (45, .iconst 3, 1), (46, .aload_n 0, 1), (47, .getfield 90, 3), (50, .imul, 1), (51, .iconst 1, 1), (52, .iadd, 1), (53, .iload_n 1, 1), (54, .bipush 100, 2), (56, .irem, 1), (57, .iastore, 1), (58, .aload_n 0, 1), (59, .getfield 7, 3), (62, .iconst 3, 1), (63, .aload_n 0, 1), (64, .getfield 90, 3), (67, .imul, 1), (68, .iconst 2, 1), (69, .iadd, 1), (70, .iconst 0, 1), (71, .iastore, 1), (72, .aload_n 0, 1), (73, .dup, 1), (74, .getfield 90, 3), (77, .iconst 1, 1), (78, .iadd, 1), (79, .putfield 90, 3), (82, .aload_n 0, 1), (83, .getfield 90, 3), (86, .iconst 1, 1), (87, .isub, 1), (88, .ireturn, 1)]
theorem mX12_child_0 : okd cX12_child lmX12_child_0 = true := by decide +kernel
theorem dX12_child_0 : decode cX12_child 0 = .ok (.iload_n 1, 1) := okd_at mX12_child_0 0 rfl
theorem dX12_child_1 : decode cX12_child 1 = .ok (.iconst 0, 1) := okd_at mX12_child_0 1 rfl
theorem dX12_child_2 : decode cX12_child 2 = .ok (.sipush 9999, 3) := okd_at mX12_child_0 2 rfl
theorem dX12_child_5 : decode cX12_child 5 = .ok (.invokestatic 93, 3) := okd_at mX12_child_0 3 rfl
theorem dX12_child_8 : decode cX12_child 8 = .ok (.ifCond .ne 6, 3) := okd_at mX12_child_0 4 rfl
theorem dX12_child_11 : decode cX12_child 11 = .ok (.bipush (-2), 2) := okd_at mX12_child_0 5 rfl
theorem dX12_child_13 : decode cX12_child 13 = .ok (.ireturn, 1) := okd_at mX12_child_0 6 rfl
theorem dX12_child_14 : decode cX12_child 14 = .ok (.aload_n 0, 1) := okd_at mX12_child_0 7 rfl
theorem dX12_child_15 : decode cX12_child 15 = .ok (.getfield 90, 3) := okd_at mX12_child_0 8 rfl
theorem dX12_child_18 : decode cX12_child 18 = .ok (.bipush 8, 2) := okd_at mX12_child_0 9 rfl
theorem dX12_child_20 : decode cX12_child 20 = .ok (.if_icmp .ne 6, 3) := okd_at mX12_child_0 10 rfl
theorem dX12_child_23 : decode cX12_child 23 = .ok (.bipush (-4), 2) := okd_at mX12_child_0 11 rfl
theorem dX12_child_25 : decode cX12_child 25 = .ok (.ireturn, 1) := okd_at mX12_child_0 12 rfl
theorem dX12_child_26 : decode cX12_child 26 = .ok (.aload_n 0, 1) := okd_at mX12_child_0 13 rfl
theorem dX12_child_27 : decode cX12_child 27 = .ok (.getfield 7, 3) := okd_at mX12_child_0 14 rfl
theorem dX12_child_30 : decode cX12_child 30 = .ok (.iconst 3, 1) := okd_at mX12_child_0 15 rfl
theorem dX12_child_31 : decode cX12_child 31 = .ok (.aload_n 0, 1) := okd_at mX12_child_0 16 rfl
theorem dX12_child_32 : decode cX12_child 32 = .ok (.getfield 90, 3) := okd_at mX12_child_0 17 rfl
theorem dX12_child_35 : decode cX12_child 35 = .ok (.imul, 1) := okd_at mX12_child_0 18 rfl
theorem dX12_child_36 : decode cX12_child 36 = .ok (.iload_n 1, 1) := okd_at mX12_child_0 19 rfl
theorem dX12_child_37 : decode cX12_child 37 = .ok (.bipush 100, 2) := okd_at mX12_child_0 20 rfl
theorem dX12_child_39 : decode cX12_child 39 = .ok (.idiv, 1) := okd_at mX12_child_0 21 rfl
theorem dX12_child_40 : decode cX12_child 40 = .ok (.iastore, 1) := okd_at mX12_child_0 22 rfl
theorem dX12_child_41 : decode cX12_child 41 = .ok (.aload_n 0, 1) := okd_at mX12_child_0 23 rfl
theorem dX12_child_42 : decode cX12_child 42 = .ok (.getfield 7, 3) := okd_at mX12_child_0 24 rfl
theorem dX12_child_45 : decode cX12_child 45 = .ok (.iconst 3, 1) := okd_at mX12_child_0 25 rfl
theorem dX12_child_46 : decode cX12_child 46 = .ok (.aload_n 0, 1) := okd_at mX12_child_0 26 rfl
theorem dX12_child_47 : decode cX12_child 47 = .ok (.getfield 90, 3) := okd_at mX12_child_0 27 rfl
theorem dX12_child_50 : decode cX12_child 50 = .ok (.imul, 1) := okd_at mX12_child_0 28 rfl
theorem dX12_child_51 : decode cX12_child 51 = .ok (.iconst 1, 1) := okd_at mX12_child_0 29 rfl
theorem dX12_child_52 : decode cX12_child 52 = .ok (.iadd, 1) := okd_at mX12_child_0 30 rfl
theorem dX12_child_53 : decode cX12_child 53 = .ok (.iload_n 1, 1) := okd_at mX12_child_0 31 rfl
theorem dX12_child_54 : decode cX12_child 54 = .ok (.bipush 100, 2) := okd_at mX12_child_0 32 rfl
theorem dX12_child_56 : decode cX12_child 56 = .ok (.irem, 1) := okd_at mX12_child_0 33 rfl
theorem dX12_child_57 : decode cX12_child 57 = .ok (.iastore, 1) := okd_at mX12_child_0 34 rfl
theorem dX12_child_58 : decode cX12_child 58 = .ok (.aload_n 0, 1) := okd_at mX12_child_0 35 rfl
theorem dX12_child_59 : decode cX12_child 59 = .ok (.getfield 7, 3) := okd_at mX12_child_0 36 rfl
theorem dX12_child_62 : decode cX12_child 62 = .ok (.iconst 3, 1) := okd_at mX12_child_0 37 rfl
theorem dX12_child_63 : decode cX12_child 63 = .ok (.aload_n 0, 1) := okd_at mX12_child_0 38 rfl
theorem dX12_child_64 : decode cX12_child 64 = .ok (.getfield 90, 3) := okd_at mX12_child_0 39 rfl
theorem dX12_child_67 : decode cX12_child 67 = .ok (.imul, 1) := okd_at mX12_child_0 40 rfl
theorem dX12_child_68 : decode cX12_child 68 = .ok (.iconst 2, 1) := okd_at mX12_child_0 41 rfl
theorem dX12_child_69 : decode cX12_child 69 = .ok (.iadd, 1) := okd_at mX12_child_0 42 rfl
theorem dX12_child_70 : decode cX12_child 70 = .ok (.iconst 0, 1) := okd_at mX12_child_0 43 rfl
theorem dX12_child_71 : decode cX12_child 71 = .ok (.iastore, 1) := okd_at mX12_child_0 44 rfl
theorem dX12_child_72 : decode cX12_child 72 = .ok (.aload_n 0, 1) := okd_at mX12_child_0 45 rfl
theorem dX12_child_73 : decode cX12_child 73 = .ok (.dup, 1) := okd_at mX12_child_0 46 rfl
theorem dX12_child_74 : decode cX12_child 74 = .ok (.getfield 90, 3) := okd_at mX12_child_0 47 rfl
theorem dX12_child_77 : decode cX12_child 77 = .ok (.iconst 1, 1) := okd_at mX12_child_0 48 rfl
theorem dX12_child_78 : decode cX12_child 78 = .ok (.iadd, 1) := okd_at mX12_child_0 49 rfl
theorem dX12_child_79 : decode cX12_child 79 = .ok (.putfield 90, 3) := okd_at mX12_child_0 50 rfl
theorem dX12_child_82 : decode cX12_child 82 = .ok (.aload_n 0, 1) := okd_at mX12_child_0 51 rfl
theorem dX12_child_83 : decode cX12_child 83 = .ok (.getfield 90, 3) := okd_at mX12_child_0 52 rfl
theorem dX12_child_86 : decode cX12_child 86 = .ok (.iconst 1, 1) := okd_at mX12_child_0 53 rfl
theorem dX12_child_87 : decode cX12_child 87 = .ok (.isub, 1) := okd_at mX12_child_0 54 rfl
theorem dX12_child_88 : decode cX12_child 88 = .ok (.ireturn, 1) := okd_at mX12_child_0 55 rfl
def lmX12_childrenBy_0 : List (Nat × Instr × Nat) := [(0, .iload_n 1, 1), (1, .iconst 0, 1), (2, .iconst 3, 1), (3, .invokestatic 93, 3), (6, .ifCond .eq 23, 3), (9, .iload_n 2, 1), (10, .iconst 0, 1), (11, .iconst 2, 1), (12, .invokestatic 93, 3), (15, .ifCond .eq 14, 3), (18, .iload 4, 2), (20, .iconst 0, 1), (21, .bipush 8, 2), (23, .invokestatic 93, 3), (26, .ifCond .ne 6, 3), (29, .bipush (-2), 2), (31, .ireturn, 1), (32, .aload_n 0, 1), (33, .getfield 37, 3), (36, .iload_n 1, 1), (37, .iaload, 1), (38, .iconst (-1), 1), (39, .if_icmp .ne 6, 3), (42, .bipush (-11), 2), (44, .ireturn, 1), (45, .aload_n 0, 1), (46, .getfield 37, 3), (49, .iload_n 1, 1), (50, .iaload, 1), (51, .iload_n 2, 1), (52, .if_icmp .eq 6, 3), (55, .bipush (-13), 2), (57, .ireturn, 1), (58, .iconst 0, 1), (59, .istore 5, 2), (61, .iconst 0, 1), (62, .istore 6, 2), (64, .iload 6, 2), (66, .iload 4, 2), (68, .if_icmp .ge 76, 3), (71, .iload_n 3, 1), (72, .iconst 1, 1), (73, .iload 6, 2), (75, .imul, 1), (76, .iadd, 1), (77, .istore 7, 2), (79, .iload_n 3, 1), (80, .ifCond .lt 22, 3), (83, .iload 7, 2), (85, .iload_n 3, 1), (86, .if_icmp .lt 16, 3), (89, .iload 7, 2), (91, .aload_n 0, 1), (92, .getfield 40, 3), (95, .iload_n 1, 1), (96, .iaload, 1), (97, .iconst 1, 1), (98, .isub, 1), (99, .if_icmp .le 6, 3), (102, .bipush (-12), 2)]
theorem mX12_childrenBy_0 : okd cX12_childrenBy lmX12_childrenBy_0 = true := by decide +kernel
theorem dX12_childrenBy_0 : decode cX12_childrenBy 0 = .ok (.iload_n 1, 1) := okd_at mX12_childrenBy_0 0 rfl
theorem dX12_childrenBy_1 : decode cX12_childrenBy 1 = .ok (.iconst 0, 1) := okd_at mX12_childrenBy_0 1 rfl
theorem dX12_childrenBy_2 : decode cX12_childrenBy 2 = .ok (.iconst 3, 1) := okd_at mX12_childrenBy_0 2 rfl
theorem dX12_childrenBy_3 : decode cX12_childrenBy 3 = .ok (.invokestatic 93, 3) := okd_at mX12_childrenBy_0 3 rfl
theorem dX12_childrenBy_6 : decode cX12_childrenBy 6 = .ok (.ifCond .eq 23, 3) := okd_at mX12_childrenBy_0 4 rfl
theorem dX12_childrenBy_9 : decode cX12_childrenBy 9 = .ok (.iload_n 2, 1) := okd_at mX12_childrenBy_0 5 rfl
theorem dX12_childrenBy_10 : decode cX12_childrenBy 10 = .ok (.iconst 0, 1) := okd_at mX12_childrenBy_0 6 rfl
theorem dX12_childrenBy_11 : decode cX12_childrenBy 11 = .ok (.iconst 2, 1) := okd_at mX12_childrenBy_0 7 rfl
theorem dX12_childrenBy_12 : decode cX12_childrenBy 12 = .ok (.invokestatic 93, 3) := okd_at mX12_childrenBy_0 8 rfl
theorem dX12_childrenBy_15 : decode cX12_childrenBy 15 = .ok (.ifCond .eq 14, 3) := okd_at mX12_childrenBy_0 9 rfl
theorem dX12_childrenBy_18 : decode cX12_childrenBy 18 = .ok (.iload 4, 2) := okd_at mX12_childrenBy_0 10 rfl
theorem dX12_childrenBy_20 : decode cX12_childrenBy 20 = .ok (.iconst 0, 1) := okd_at mX12_childrenBy_0 11 rfl
theorem dX12_childrenBy_21 : decode cX12_childrenBy 21 = .ok (.bipush 8, 2) := okd_at mX12_childrenBy_0 12 rfl
theorem dX12_childrenBy_23 : decode cX12_childrenBy 23 = .ok (.invokestatic 93, 3) := okd_at mX12_childrenBy_0 13 rfl
theorem dX12_childrenBy_26 : decode cX12_childrenBy 26 = .ok (.ifCond .ne 6, 3) := okd_at mX12_childrenBy_0 14 rfl
theorem dX12_childrenBy_29 : decode cX12_childrenBy 29 = .ok (.bipush (-2), 2) := okd_at mX12_childrenBy_0 15 rfl
theorem dX12_childrenBy_31 : decode cX12_childrenBy 31 = .ok (.ireturn, 1) := okd_at mX12_childrenBy_0 16 rfl
theorem dX12_childrenBy_32 : decode cX12_childrenBy 32 = .ok (.aload_n 0, 1) := okd_at mX12_childrenBy_0 17 rfl
theorem dX12_childrenBy_33 : decode cX12_childrenBy 33 = .ok (.getfield 37, 3) := okd_at mX12_childrenBy_0 18 rfl
theorem dX12_childrenBy_36 : decode cX12_childrenBy 36 = .ok (.iload_n 1, 1) := okd_at mX12_childrenBy_0 19 rfl
theorem dX12_childrenBy_37 : decode cX12_childrenBy 37 = .ok (.iaload, 1) := okd_at mX12_childrenBy_0 20 rfl
theorem dX12_childrenBy_38 : decode cX12_childrenBy 38 = .ok (.iconst (-1), 1) := okd_at mX12_childrenBy_0 21 rfl
theorem dX12_childrenBy_39 : decode cX12_childrenBy 39 = .ok (.if_icmp .ne 6, 3) := okd_at mX12_childrenBy_0 22 rfl
theorem dX12_childrenBy_42 : decode cX12_childrenBy 42 = .ok (.bipush (-11), 2) := okd_at mX12_childrenBy_0 23 rfl
theorem dX12_childrenBy_44 : decode cX12_childrenBy 44 = .ok (.ireturn, 1) := okd_at mX12_childrenBy_0 24 rfl
theorem dX12_childrenBy_45 : decode cX12_childrenBy 45 = .ok (.aload_n 0, 1) := okd_at mX12_childrenBy_0 25 rfl
theorem dX12_childrenBy_46 : decode cX12_childrenBy 46 = .ok (.getfield 37, 3) := okd_at mX12_childrenBy_0 26 rfl
theorem dX12_childrenBy_49 : decode cX12_childrenBy 49 = .ok (.iload_n 1, 1) := okd_at mX12_childrenBy_0 27 rfl
theorem dX12_childrenBy_50 : decode cX12_childrenBy 50 = .ok (.iaload, 1) := okd_at mX12_childrenBy_0 28 rfl
theorem dX12_childrenBy_51 : decode cX12_childrenBy 51 = .ok (.iload_n 2, 1) := okd_at mX12_childrenBy_0 29 rfl
theorem dX12_childrenBy_52 : decode cX12_childrenBy 52 = .ok (.if_icmp .eq 6, 3) := okd_at mX12_childrenBy_0 30 rfl
theorem dX12_childrenBy_55 : decode cX12_childrenBy 55 = .ok (.bipush (-13), 2) := okd_at mX12_childrenBy_0 31 rfl
theorem dX12_childrenBy_57 : decode cX12_childrenBy 57 = .ok (.ireturn, 1) := okd_at mX12_childrenBy_0 32 rfl
theorem dX12_childrenBy_58 : decode cX12_childrenBy 58 = .ok (.iconst 0, 1) := okd_at mX12_childrenBy_0 33 rfl
theorem dX12_childrenBy_59 : decode cX12_childrenBy 59 = .ok (.istore 5, 2) := okd_at mX12_childrenBy_0 34 rfl
theorem dX12_childrenBy_61 : decode cX12_childrenBy 61 = .ok (.iconst 0, 1) := okd_at mX12_childrenBy_0 35 rfl
theorem dX12_childrenBy_62 : decode cX12_childrenBy 62 = .ok (.istore 6, 2) := okd_at mX12_childrenBy_0 36 rfl
theorem dX12_childrenBy_64 : decode cX12_childrenBy 64 = .ok (.iload 6, 2) := okd_at mX12_childrenBy_0 37 rfl
theorem dX12_childrenBy_66 : decode cX12_childrenBy 66 = .ok (.iload 4, 2) := okd_at mX12_childrenBy_0 38 rfl
theorem dX12_childrenBy_68 : decode cX12_childrenBy 68 = .ok (.if_icmp .ge 76, 3) := okd_at mX12_childrenBy_0 39 rfl
theorem dX12_childrenBy_71 : decode cX12_childrenBy 71 = .ok (.iload_n 3, 1) := okd_at mX12_childrenBy_0 40 rfl
theorem dX12_childrenBy_72 : decode cX12_childrenBy 72 = .ok (.iconst 1, 1) := okd_at mX12_childrenBy_0 41 rfl
theorem dX12_childrenBy_73 : decode cX12_childrenBy 73 = .ok (.iload 6, 2) := okd_at mX12_childrenBy_0 42 rfl
theorem dX12_childrenBy_75 : decode cX12_childrenBy 75 = .ok (.imul, 1) := okd_at mX12_childrenBy_0 43 rfl
theorem dX12_childrenBy_76 : decode cX12_childrenBy 76 = .ok (.iadd, 1) := okd_at mX12_childrenBy_0 44 rfl
theorem dX12_childrenBy_77 : decode cX12_childrenBy 77 = .ok (.istore 7, 2) := okd_at mX12_childrenBy_0 45 rfl
theorem dX12_childrenBy_79 : decode cX12_childrenBy 79 = .ok (.iload_n 3, 1) := okd_at mX12_childrenBy_0 46 rfl
theorem dX12_childrenBy_80 : decode cX12_childrenBy 80 = .ok (.ifCond .lt 22, 3) := okd_at mX12_childrenBy_0 47 rfl
theorem dX12_childrenBy_83 : decode cX12_childrenBy 83 = .ok (.iload 7, 2) := okd_at mX12_childrenBy_0 48 rfl
theorem dX12_childrenBy_85 : decode cX12_childrenBy 85 = .ok (.iload_n 3, 1) := okd_at mX12_childrenBy_0 49 rfl
theorem dX12_childrenBy_86 : decode cX12_childrenBy 86 = .ok (.if_icmp .lt 16, 3) := okd_at mX12_childrenBy_0 50 rfl
theorem dX12_childrenBy_89 : decode cX12_childrenBy 89 = .ok (.iload 7, 2) := okd_at mX12_childrenBy_0 51 rfl
theorem dX12_childrenBy_91 : decode cX12_childrenBy 91 = .ok (.aload_n 0, 1) := okd_at mX12_childrenBy_0 52 rfl
theorem dX12_childrenBy_92 : decode cX12_childrenBy 92 = .ok (.getfield 40, 3) := okd_at mX12_childrenBy_0 53 rfl
theorem dX12_childrenBy_95 : decode cX12_childrenBy 95 = .ok (.iload_n 1, 1) := okd_at mX12_childrenBy_0 54 rfl
theorem dX12_childrenBy_96 : decode cX12_childrenBy 96 = .ok (.iaload, 1) := okd_at mX12_childrenBy_0 55 rfl
theorem dX12_childrenBy_97 : decode cX12_childrenBy 97 = .ok (.iconst 1, 1) := okd_at mX12_childrenBy_0 56 rfl
theorem dX12_childrenBy_98 : decode cX12_childrenBy 98 = .ok (.isub, 1) := okd_at mX12_childrenBy_0 57 rfl
theorem dX12_childrenBy_99 : decode cX12_childrenBy 99 = .ok (.if_icmp .le 6, 3) := okd_at mX12_childrenBy_0 58 rfl
theorem dX12_childrenBy_102 : decode cX12_childrenBy 102 = .ok (.bipush (-12), 2) := okd_at mX12_childrenBy_0 59 rfl
def lmX12_childrenBy_1 : List (Nat × Instr × Nat) := [(104, .ireturn, 1), (105, .bipush 40, 2), (107, .iload_n 1, 1), (108, .imul, 1), (109, .iload 7, 2), (111, .iadd, 1), (112, .istore 8, 2), (114, .iload 5, 2), (116, .aload_n 0, 1), (117, .aload_n 0, 1), (118, .getfield 43, 3), (121, .iload 8, 2), (123, .iaload, 1), (124, .invokevirtual 279, 3), (127, .ifCond .lt 7, 3), (130, .iconst 1, 1), (131, .goto 4, 3), (134, .iconst 0, 1), (135, .iadd, 1), (136, .istore 5, 2), (138, .iinc 6 1, 3), (141, .goto (-77), 3), (144, .iload 5, 2), (146, .ireturn, 1)]
theorem mX12_childrenBy_1 : okd cX12_childrenBy lmX12_childrenBy_1 = true := by decide +kernel
theorem dX12_childrenBy_104 : decode cX12_childrenBy 104 = .ok (.ireturn, 1) := okd_at mX12_childrenBy_1 0 rfl
theorem dX12_childrenBy_105 : decode cX12_childrenBy 105 = .ok (.bipush 40, 2) := okd_at mX12_childrenBy_1 1 rfl
theorem dX12_childrenBy_107 : decode cX12_childrenBy 107 = .ok (.iload_n 1, 1) := okd_at mX12_childrenBy_1 2 rfl
theorem dX12_childrenBy_108 : decode cX12_childrenBy 108 = .ok (.imul, 1) := okd_at mX12_childrenBy_1 3 rfl
theorem dX12_childrenBy_109 : decode cX12_childrenBy 109 = .ok (.iload 7, 2) := okd_at mX12_childrenBy_1 4 rfl
theorem dX12_childrenBy_111 : decode cX12_childrenBy 111 = .ok (.iadd, 1) := okd_at mX12_childrenBy_1 5 rfl
theorem dX12_childrenBy_112 : decode cX12_childrenBy 112 = .ok (.istore 8, 2) := okd_at mX12_childrenBy_1 6 rfl
theorem dX12_childrenBy_114 : decode cX12_childrenBy 114 = .ok (.iload 5, 2) := okd_at mX12_childrenBy_1 7 rfl
theorem dX12_childrenBy_116 : decode cX12_childrenBy 116 = .ok (.aload_n 0, 1) := okd_at mX12_childrenBy_1 8 rfl
theorem dX12_childrenBy_117 : decode cX12_childrenBy 117 = .ok (.aload_n 0, 1) := okd_at mX12_childrenBy_1 9 rfl
theorem dX12_childrenBy_118 : decode cX12_childrenBy 118 = .ok (.getfield 43, 3) := okd_at mX12_childrenBy_1 10 rfl
theorem dX12_childrenBy_121 : decode cX12_childrenBy 121 = .ok (.iload 8, 2) := okd_at mX12_childrenBy_1 11 rfl
theorem dX12_childrenBy_123 : decode cX12_childrenBy 123 = .ok (.iaload, 1) := okd_at mX12_childrenBy_1 12 rfl
theorem dX12_childrenBy_124 : decode cX12_childrenBy 124 = .ok (.invokevirtual 279, 3) := okd_at mX12_childrenBy_1 13 rfl
theorem dX12_childrenBy_127 : decode cX12_childrenBy 127 = .ok (.ifCond .lt 7, 3) := okd_at mX12_childrenBy_1 14 rfl
theorem dX12_childrenBy_130 : decode cX12_childrenBy 130 = .ok (.iconst 1, 1) := okd_at mX12_childrenBy_1 15 rfl
theorem dX12_childrenBy_131 : decode cX12_childrenBy 131 = .ok (.goto 4, 3) := okd_at mX12_childrenBy_1 16 rfl
theorem dX12_childrenBy_134 : decode cX12_childrenBy 134 = .ok (.iconst 0, 1) := okd_at mX12_childrenBy_1 17 rfl
theorem dX12_childrenBy_135 : decode cX12_childrenBy 135 = .ok (.iadd, 1) := okd_at mX12_childrenBy_1 18 rfl
theorem dX12_childrenBy_136 : decode cX12_childrenBy 136 = .ok (.istore 5, 2) := okd_at mX12_childrenBy_1 19 rfl
theorem dX12_childrenBy_138 : decode cX12_childrenBy 138 = .ok (.iinc 6 1, 3) := okd_at mX12_childrenBy_1 20 rfl
theorem dX12_childrenBy_141 : decode cX12_childrenBy 141 = .ok (.goto (-77), 3) := okd_at mX12_childrenBy_1 21 rfl
theorem dX12_childrenBy_144 : decode cX12_childrenBy 144 = .ok (.iload 5, 2) := okd_at mX12_childrenBy_1 22 rfl
theorem dX12_childrenBy_146 : decode cX12_childrenBy 146 = .ok (.ireturn, 1) := okd_at mX12_childrenBy_1 23 rfl
def lmX12_comes_0 : List (Nat × Instr × Nat) := [(0, .aload_n 0, 1), (1, .iload_n 1, 1), (2, .invokevirtual 182, 3), (5, .ifCond .ne 6, 3), (8, .bipush (-6), 2), (10, .ireturn, 1), (11, .iload_n 2, 1), (12, .iconst 0, 1), (13, .bipush 7, 2), (15, .invokestatic 93, 3), (18, .ifCond .ne 6, 3), (21, .bipush (-7), 2), (23, .ireturn, 1), (24, .aload_n 0, 1), (25, .invokevirtual 198, 3), (28, .aload_n 0, 1), (29, .iload_n 1, 1), (30, .invokevirtual 201, 3), (33, .iload_n 2, 1), (34, .aload_n 0, 1), (35, .getfield 192, 3), (38, .if_icmp .ge 12, 3), (41, .aload_n 0, 1), (42, .getfield 67, 3), (45, .iload_n 2, 1), (46, .iaload, 1), (47, .goto 4, 3), (50, .iconst (-1), 1), (51, .ireturn, 1)]
theorem mX12_comes_0 : okd cX12_comes lmX12_comes_0 = true := by decide +kernel
theorem dX12_comes_0 : decode cX12_comes 0 = .ok (.aload_n 0, 1) := okd_at mX12_comes_0 0 rfl
theorem dX12_comes_1 : decode cX12_comes 1 = .ok (.iload_n 1, 1) := okd_at mX12_comes_0 1 rfl
theorem dX12_comes_2 : decode cX12_comes 2 = .ok (.invokevirtual 182, 3) := okd_at mX12_comes_0 2 rfl
theorem dX12_comes_5 : decode cX12_comes 5 = .ok (.ifCond .ne 6, 3) := okd_at mX12_comes_0 3 rfl
theorem dX12_comes_8 : decode cX12_comes 8 = .ok (.bipush (-6), 2) := okd_at mX12_comes_0 4 rfl
theorem dX12_comes_10 : decode cX12_comes 10 = .ok (.ireturn, 1) := okd_at mX12_comes_0 5 rfl
theorem dX12_comes_11 : decode cX12_comes 11 = .ok (.iload_n 2, 1) := okd_at mX12_comes_0 6 rfl
theorem dX12_comes_12 : decode cX12_comes 12 = .ok (.iconst 0, 1) := okd_at mX12_comes_0 7 rfl
theorem dX12_comes_13 : decode cX12_comes 13 = .ok (.bipush 7, 2) := okd_at mX12_comes_0 8 rfl
theorem dX12_comes_15 : decode cX12_comes 15 = .ok (.invokestatic 93, 3) := okd_at mX12_comes_0 9 rfl
theorem dX12_comes_18 : decode cX12_comes 18 = .ok (.ifCond .ne 6, 3) := okd_at mX12_comes_0 10 rfl
theorem dX12_comes_21 : decode cX12_comes 21 = .ok (.bipush (-7), 2) := okd_at mX12_comes_0 11 rfl
theorem dX12_comes_23 : decode cX12_comes 23 = .ok (.ireturn, 1) := okd_at mX12_comes_0 12 rfl
theorem dX12_comes_24 : decode cX12_comes 24 = .ok (.aload_n 0, 1) := okd_at mX12_comes_0 13 rfl
theorem dX12_comes_25 : decode cX12_comes 25 = .ok (.invokevirtual 198, 3) := okd_at mX12_comes_0 14 rfl
theorem dX12_comes_28 : decode cX12_comes 28 = .ok (.aload_n 0, 1) := okd_at mX12_comes_0 15 rfl
theorem dX12_comes_29 : decode cX12_comes 29 = .ok (.iload_n 1, 1) := okd_at mX12_comes_0 16 rfl
theorem dX12_comes_30 : decode cX12_comes 30 = .ok (.invokevirtual 201, 3) := okd_at mX12_comes_0 17 rfl
theorem dX12_comes_33 : decode cX12_comes 33 = .ok (.iload_n 2, 1) := okd_at mX12_comes_0 18 rfl
theorem dX12_comes_34 : decode cX12_comes 34 = .ok (.aload_n 0, 1) := okd_at mX12_comes_0 19 rfl
theorem dX12_comes_35 : decode cX12_comes 35 = .ok (.getfield 192, 3) := okd_at mX12_comes_0 20 rfl
theorem dX12_comes_38 : decode cX12_comes 38 = .ok (.if_icmp .ge 12, 3) := okd_at mX12_comes_0 21 rfl
theorem dX12_comes_41 : decode cX12_comes 41 = .ok (.aload_n 0, 1) := okd_at mX12_comes_0 22 rfl
theorem dX12_comes_42 : decode cX12_comes 42 = .ok (.getfield 67, 3) := okd_at mX12_comes_0 23 rfl
theorem dX12_comes_45 : decode cX12_comes 45 = .ok (.iload_n 2, 1) := okd_at mX12_comes_0 24 rfl
theorem dX12_comes_46 : decode cX12_comes 46 = .ok (.iaload, 1) := okd_at mX12_comes_0 25 rfl
theorem dX12_comes_47 : decode cX12_comes 47 = .ok (.goto 4, 3) := okd_at mX12_comes_0 26 rfl
theorem dX12_comes_50 : decode cX12_comes 50 = .ok (.iconst (-1), 1) := okd_at mX12_comes_0 27 rfl
theorem dX12_comes_51 : decode cX12_comes 51 = .ok (.ireturn, 1) := okd_at mX12_comes_0 28 rfl
def lmX12_copy_0 : List (Nat × Instr × Nat) := [(0, .iload_n 1, 1), (1, .iconst 0, 1), (2, .iconst 3, 1), (3, .invokestatic 93, 3), (6, .ifCond .eq 12, 3), (9, .iload_n 3, 1), (10, .iconst 0, 1), (11, .iconst 3, 1), (12, .invokestatic 93, 3), (15, .ifCond .ne 6, 3), (18, .bipush (-2), 2), (20, .ireturn, 1), (21, .aload_n 0, 1), (22, .getfield 37, 3), (25, .iload_n 1, 1), (26, .iaload, 1), (27, .iconst (-1), 1), (28, .if_icmp .eq 13, 3), (31, .aload_n 0, 1), (32, .getfield 37, 3), (35, .iload_n 3, 1), (36, .iaload, 1), (37, .iconst (-1), 1), (38, .if_icmp .ne 6, 3), (41, .bipush (-11), 2), (43, .ireturn, 1), (44, .aload_n 0, 1), (45, .getfield 37, 3), (48, .iload_n 1, 1), (49, .iaload, 1), (50, .aload_n 0, 1), (51, .getfield 37, 3), (54, .iload_n 3, 1), (55, .iaload, 1), (56, .if_icmp .eq 6, 3), (59, .bipush (-13), 2), (61, .ireturn, 1), (62, .iload 5, 2), (64, .ifCond .lt 60, 3), (67, .iload_n 2, 1), (68, .ifCond .lt 56, 3), (71, .iload 4, 2), (73, .ifCond .lt 51, 3), (76, .iload_n 2, 1), (77, .aload_n 0, 1), (78, .getfield 40, 3), (81, .iload_n 1, 1), (82, .iaload, 1), (83, .if_icmp .gt 41, 3), (86, .iload 4, 2), (88, .aload_n 0, 1), (89, .getfield 40, 3), (92, .iload_n 3, 1), (93, .iaload, 1), (94, .if_icmp .gt 30, 3), (97, .iload 5, 2), (99, .aload_n 0, 1), (100, .getfield 40, 3), (103, .iload_n 1, 1), (104, .iaload, 1)]
theorem mX12_copy_0 : okd cX12_copy lmX12_copy_0 = true := by decide +kernel
theorem dX12_copy_0 : decode cX12_copy 0 = .ok (.iload_n 1, 1) := okd_at mX12_copy_0 0 rfl
theorem dX12_copy_1 : decode cX12_copy 1 = .ok (.iconst 0, 1) := okd_at mX12_copy_0 1 rfl
theorem dX12_copy_2 : decode cX12_copy 2 = .ok (.iconst 3, 1) := okd_at mX12_copy_0 2 rfl
theorem dX12_copy_3 : decode cX12_copy 3 = .ok (.invokestatic 93, 3) := okd_at mX12_copy_0 3 rfl
theorem dX12_copy_6 : decode cX12_copy 6 = .ok (.ifCond .eq 12, 3) := okd_at mX12_copy_0 4 rfl
theorem dX12_copy_9 : decode cX12_copy 9 = .ok (.iload_n 3, 1) := okd_at mX12_copy_0 5 rfl
theorem dX12_copy_10 : decode cX12_copy 10 = .ok (.iconst 0, 1) := okd_at mX12_copy_0 6 rfl
theorem dX12_copy_11 : decode cX12_copy 11 = .ok (.iconst 3, 1) := okd_at mX12_copy_0 7 rfl
theorem dX12_copy_12 : decode cX12_copy 12 = .ok (.invokestatic 93, 3) := okd_at mX12_copy_0 8 rfl
theorem dX12_copy_15 : decode cX12_copy 15 = .ok (.ifCond .ne 6, 3) := okd_at mX12_copy_0 9 rfl
theorem dX12_copy_18 : decode cX12_copy 18 = .ok (.bipush (-2), 2) := okd_at mX12_copy_0 10 rfl
theorem dX12_copy_20 : decode cX12_copy 20 = .ok (.ireturn, 1) := okd_at mX12_copy_0 11 rfl
theorem dX12_copy_21 : decode cX12_copy 21 = .ok (.aload_n 0, 1) := okd_at mX12_copy_0 12 rfl
theorem dX12_copy_22 : decode cX12_copy 22 = .ok (.getfield 37, 3) := okd_at mX12_copy_0 13 rfl
theorem dX12_copy_25 : decode cX12_copy 25 = .ok (.iload_n 1, 1) := okd_at mX12_copy_0 14 rfl
theorem dX12_copy_26 : decode cX12_copy 26 = .ok (.iaload, 1) := okd_at mX12_copy_0 15 rfl
theorem dX12_copy_27 : decode cX12_copy 27 = .ok (.iconst (-1), 1) := okd_at mX12_copy_0 16 rfl
theorem dX12_copy_28 : decode cX12_copy 28 = .ok (.if_icmp .eq 13, 3) := okd_at mX12_copy_0 17 rfl
theorem dX12_copy_31 : decode cX12_copy 31 = .ok (.aload_n 0, 1) := okd_at mX12_copy_0 18 rfl
theorem dX12_copy_32 : decode cX12_copy 32 = .ok (.getfield 37, 3) := okd_at mX12_copy_0 19 rfl
theorem dX12_copy_35 : decode cX12_copy 35 = .ok (.iload_n 3, 1) := okd_at mX12_copy_0 20 rfl
theorem dX12_copy_36 : decode cX12_copy 36 = .ok (.iaload, 1) := okd_at mX12_copy_0 21 rfl
theorem dX12_copy_37 : decode cX12_copy 37 = .ok (.iconst (-1), 1) := okd_at mX12_copy_0 22 rfl
theorem dX12_copy_38 : decode cX12_copy 38 = .ok (.if_icmp .ne 6, 3) := okd_at mX12_copy_0 23 rfl
theorem dX12_copy_41 : decode cX12_copy 41 = .ok (.bipush (-11), 2) := okd_at mX12_copy_0 24 rfl
theorem dX12_copy_43 : decode cX12_copy 43 = .ok (.ireturn, 1) := okd_at mX12_copy_0 25 rfl
theorem dX12_copy_44 : decode cX12_copy 44 = .ok (.aload_n 0, 1) := okd_at mX12_copy_0 26 rfl
theorem dX12_copy_45 : decode cX12_copy 45 = .ok (.getfield 37, 3) := okd_at mX12_copy_0 27 rfl
theorem dX12_copy_48 : decode cX12_copy 48 = .ok (.iload_n 1, 1) := okd_at mX12_copy_0 28 rfl
theorem dX12_copy_49 : decode cX12_copy 49 = .ok (.iaload, 1) := okd_at mX12_copy_0 29 rfl
theorem dX12_copy_50 : decode cX12_copy 50 = .ok (.aload_n 0, 1) := okd_at mX12_copy_0 30 rfl
theorem dX12_copy_51 : decode cX12_copy 51 = .ok (.getfield 37, 3) := okd_at mX12_copy_0 31 rfl
theorem dX12_copy_54 : decode cX12_copy 54 = .ok (.iload_n 3, 1) := okd_at mX12_copy_0 32 rfl
theorem dX12_copy_55 : decode cX12_copy 55 = .ok (.iaload, 1) := okd_at mX12_copy_0 33 rfl
theorem dX12_copy_56 : decode cX12_copy 56 = .ok (.if_icmp .eq 6, 3) := okd_at mX12_copy_0 34 rfl
theorem dX12_copy_59 : decode cX12_copy 59 = .ok (.bipush (-13), 2) := okd_at mX12_copy_0 35 rfl
theorem dX12_copy_61 : decode cX12_copy 61 = .ok (.ireturn, 1) := okd_at mX12_copy_0 36 rfl
theorem dX12_copy_62 : decode cX12_copy 62 = .ok (.iload 5, 2) := okd_at mX12_copy_0 37 rfl
theorem dX12_copy_64 : decode cX12_copy 64 = .ok (.ifCond .lt 60, 3) := okd_at mX12_copy_0 38 rfl
theorem dX12_copy_67 : decode cX12_copy 67 = .ok (.iload_n 2, 1) := okd_at mX12_copy_0 39 rfl
theorem dX12_copy_68 : decode cX12_copy 68 = .ok (.ifCond .lt 56, 3) := okd_at mX12_copy_0 40 rfl
theorem dX12_copy_71 : decode cX12_copy 71 = .ok (.iload 4, 2) := okd_at mX12_copy_0 41 rfl
theorem dX12_copy_73 : decode cX12_copy 73 = .ok (.ifCond .lt 51, 3) := okd_at mX12_copy_0 42 rfl
theorem dX12_copy_76 : decode cX12_copy 76 = .ok (.iload_n 2, 1) := okd_at mX12_copy_0 43 rfl
theorem dX12_copy_77 : decode cX12_copy 77 = .ok (.aload_n 0, 1) := okd_at mX12_copy_0 44 rfl
theorem dX12_copy_78 : decode cX12_copy 78 = .ok (.getfield 40, 3) := okd_at mX12_copy_0 45 rfl
theorem dX12_copy_81 : decode cX12_copy 81 = .ok (.iload_n 1, 1) := okd_at mX12_copy_0 46 rfl
theorem dX12_copy_82 : decode cX12_copy 82 = .ok (.iaload, 1) := okd_at mX12_copy_0 47 rfl
theorem dX12_copy_83 : decode cX12_copy 83 = .ok (.if_icmp .gt 41, 3) := okd_at mX12_copy_0 48 rfl
theorem dX12_copy_86 : decode cX12_copy 86 = .ok (.iload 4, 2) := okd_at mX12_copy_0 49 rfl
theorem dX12_copy_88 : decode cX12_copy 88 = .ok (.aload_n 0, 1) := okd_at mX12_copy_0 50 rfl
theorem dX12_copy_89 : decode cX12_copy 89 = .ok (.getfield 40, 3) := okd_at mX12_copy_0 51 rfl
theorem dX12_copy_92 : decode cX12_copy 92 = .ok (.iload_n 3, 1) := okd_at mX12_copy_0 52 rfl
theorem dX12_copy_93 : decode cX12_copy 93 = .ok (.iaload, 1) := okd_at mX12_copy_0 53 rfl
theorem dX12_copy_94 : decode cX12_copy 94 = .ok (.if_icmp .gt 30, 3) := okd_at mX12_copy_0 54 rfl
theorem dX12_copy_97 : decode cX12_copy 97 = .ok (.iload 5, 2) := okd_at mX12_copy_0 55 rfl
theorem dX12_copy_99 : decode cX12_copy 99 = .ok (.aload_n 0, 1) := okd_at mX12_copy_0 56 rfl
theorem dX12_copy_100 : decode cX12_copy 100 = .ok (.getfield 40, 3) := okd_at mX12_copy_0 57 rfl
theorem dX12_copy_103 : decode cX12_copy 103 = .ok (.iload_n 1, 1) := okd_at mX12_copy_0 58 rfl
theorem dX12_copy_104 : decode cX12_copy 104 = .ok (.iaload, 1) := okd_at mX12_copy_0 59 rfl
def lmX12_copy_1 : List (Nat × Instr × Nat) := [(105, .iload_n 2, 1), (106, .isub, 1), (107, .if_icmp .gt 17, 3), (110, .iload 5, 2), (112, .aload_n 0, 1), (113, .getfield 40, 3), (116, .iload_n 3, 1), (117, .iaload, 1), (118, .iload 4, 2), (120, .isub, 1), (121, .if_icmp .le 6, 3), (124, .bipush (-12), 2), (126, .ireturn, 1), (127, .bipush 40, 2), (129, .iload_n 1, 1), (130, .imul, 1), (131, .iload_n 2, 1), (132, .iadd, 1), (133, .istore 6, 2), (135, .bipush 40, 2), (137, .iload_n 3, 1), (138, .imul, 1), (139, .iload 4, 2), (141, .iadd, 1), (142, .istore 7, 2), (144, .iconst 0, 1), (145, .istore 8, 2), (147, .iload 8, 2), (149, .iload 5, 2), (151, .if_icmp .ge 50, 3), (154, .iload 6, 2), (156, .iload 7, 2), (158, .if_icmp .ge 13, 3), (161, .iload 5, 2), (163, .iconst 1, 1), (164, .isub, 1), (165, .iload 8, 2), (167, .isub, 1), (168, .goto 5, 3), (171, .iload 8, 2), (173, .istore 9, 2), (175, .aload_n 0, 1), (176, .getfield 43, 3), (179, .iload 7, 2), (181, .iload 9, 2), (183, .iadd, 1), (184, .aload_n 0, 1), (185, .getfield 43, 3), (188, .iload 6, 2), (190, .iload 9, 2), (192, .iadd, 1), (193, .iaload, 1), (194, .iastore, 1), (195, .iinc 8 1, 3), (198, .goto (-51), 3), (201, .iload 5, 2), (203, .ireturn, 1)]
theorem mX12_copy_1 : okd cX12_copy lmX12_copy_1 = true := by decide +kernel
theorem dX12_copy_105 : decode cX12_copy 105 = .ok (.iload_n 2, 1) := okd_at mX12_copy_1 0 rfl
theorem dX12_copy_106 : decode cX12_copy 106 = .ok (.isub, 1) := okd_at mX12_copy_1 1 rfl
theorem dX12_copy_107 : decode cX12_copy 107 = .ok (.if_icmp .gt 17, 3) := okd_at mX12_copy_1 2 rfl
theorem dX12_copy_110 : decode cX12_copy 110 = .ok (.iload 5, 2) := okd_at mX12_copy_1 3 rfl
theorem dX12_copy_112 : decode cX12_copy 112 = .ok (.aload_n 0, 1) := okd_at mX12_copy_1 4 rfl
theorem dX12_copy_113 : decode cX12_copy 113 = .ok (.getfield 40, 3) := okd_at mX12_copy_1 5 rfl
theorem dX12_copy_116 : decode cX12_copy 116 = .ok (.iload_n 3, 1) := okd_at mX12_copy_1 6 rfl
theorem dX12_copy_117 : decode cX12_copy 117 = .ok (.iaload, 1) := okd_at mX12_copy_1 7 rfl
theorem dX12_copy_118 : decode cX12_copy 118 = .ok (.iload 4, 2) := okd_at mX12_copy_1 8 rfl
theorem dX12_copy_120 : decode cX12_copy 120 = .ok (.isub, 1) := okd_at mX12_copy_1 9 rfl
theorem dX12_copy_121 : decode cX12_copy 121 = .ok (.if_icmp .le 6, 3) := okd_at mX12_copy_1 10 rfl
theorem dX12_copy_124 : decode cX12_copy 124 = .ok (.bipush (-12), 2) := okd_at mX12_copy_1 11 rfl
theorem dX12_copy_126 : decode cX12_copy 126 = .ok (.ireturn, 1) := okd_at mX12_copy_1 12 rfl
theorem dX12_copy_127 : decode cX12_copy 127 = .ok (.bipush 40, 2) := okd_at mX12_copy_1 13 rfl
theorem dX12_copy_129 : decode cX12_copy 129 = .ok (.iload_n 1, 1) := okd_at mX12_copy_1 14 rfl
theorem dX12_copy_130 : decode cX12_copy 130 = .ok (.imul, 1) := okd_at mX12_copy_1 15 rfl
theorem dX12_copy_131 : decode cX12_copy 131 = .ok (.iload_n 2, 1) := okd_at mX12_copy_1 16 rfl
theorem dX12_copy_132 : decode cX12_copy 132 = .ok (.iadd, 1) := okd_at mX12_copy_1 17 rfl
theorem dX12_copy_133 : decode cX12_copy 133 = .ok (.istore 6, 2) := okd_at mX12_copy_1 18 rfl
theorem dX12_copy_135 : decode cX12_copy 135 = .ok (.bipush 40, 2) := okd_at mX12_copy_1 19 rfl
theorem dX12_copy_137 : decode cX12_copy 137 = .ok (.iload_n 3, 1) := okd_at mX12_copy_1 20 rfl
theorem dX12_copy_138 : decode cX12_copy 138 = .ok (.imul, 1) := okd_at mX12_copy_1 21 rfl
theorem dX12_copy_139 : decode cX12_copy 139 = .ok (.iload 4, 2) := okd_at mX12_copy_1 22 rfl
theorem dX12_copy_141 : decode cX12_copy 141 = .ok (.iadd, 1) := okd_at mX12_copy_1 23 rfl
theorem dX12_copy_142 : decode cX12_copy 142 = .ok (.istore 7, 2) := okd_at mX12_copy_1 24 rfl
theorem dX12_copy_144 : decode cX12_copy 144 = .ok (.iconst 0, 1) := okd_at mX12_copy_1 25 rfl
theorem dX12_copy_145 : decode cX12_copy 145 = .ok (.istore 8, 2) := okd_at mX12_copy_1 26 rfl
theorem dX12_copy_147 : decode cX12_copy 147 = .ok (.iload 8, 2) := okd_at mX12_copy_1 27 rfl
theorem dX12_copy_149 : decode cX12_copy 149 = .ok (.iload 5, 2) := okd_at mX12_copy_1 28 rfl
theorem dX12_copy_151 : decode cX12_copy 151 = .ok (.if_icmp .ge 50, 3) := okd_at mX12_copy_1 29 rfl
theorem dX12_copy_154 : decode cX12_copy 154 = .ok (.iload 6, 2) := okd_at mX12_copy_1 30 rfl
theorem dX12_copy_156 : decode cX12_copy 156 = .ok (.iload 7, 2) := okd_at mX12_copy_1 31 rfl
theorem dX12_copy_158 : decode cX12_copy 158 = .ok (.if_icmp .ge 13, 3) := okd_at mX12_copy_1 32 rfl
theorem dX12_copy_161 : decode cX12_copy 161 = .ok (.iload 5, 2) := okd_at mX12_copy_1 33 rfl
theorem dX12_copy_163 : decode cX12_copy 163 = .ok (.iconst 1, 1) := okd_at mX12_copy_1 34 rfl
theorem dX12_copy_164 : decode cX12_copy 164 = .ok (.isub, 1) := okd_at mX12_copy_1 35 rfl
theorem dX12_copy_165 : decode cX12_copy 165 = .ok (.iload 8, 2) := okd_at mX12_copy_1 36 rfl
theorem dX12_copy_167 : decode cX12_copy 167 = .ok (.isub, 1) := okd_at mX12_copy_1 37 rfl
theorem dX12_copy_168 : decode cX12_copy 168 = .ok (.goto 5, 3) := okd_at mX12_copy_1 38 rfl
theorem dX12_copy_171 : decode cX12_copy 171 = .ok (.iload 8, 2) := okd_at mX12_copy_1 39 rfl
theorem dX12_copy_173 : decode cX12_copy 173 = .ok (.istore 9, 2) := okd_at mX12_copy_1 40 rfl
theorem dX12_copy_175 : decode cX12_copy 175 = .ok (.aload_n 0, 1) := okd_at mX12_copy_1 41 rfl
theorem dX12_copy_176 : decode cX12_copy 176 = .ok (.getfield 43, 3) := okd_at mX12_copy_1 42 rfl
theorem dX12_copy_179 : decode cX12_copy 179 = .ok (.iload 7, 2) := okd_at mX12_copy_1 43 rfl
theorem dX12_copy_181 : decode cX12_copy 181 = .ok (.iload 9, 2) := okd_at mX12_copy_1 44 rfl
theorem dX12_copy_183 : decode cX12_copy 183 = .ok (.iadd, 1) := okd_at mX12_copy_1 45 rfl
theorem dX12_copy_184 : decode cX12_copy 184 = .ok (.aload_n 0, 1) := okd_at mX12_copy_1 46 rfl
theorem dX12_copy_185 : decode cX12_copy 185 = .ok (.getfield 43, 3) := okd_at mX12_copy_1 47 rfl
theorem dX12_copy_188 : decode cX12_copy 188 = .ok (.iload 6, 2) := okd_at mX12_copy_1 48 rfl
theorem dX12_copy_190 : decode cX12_copy 190 = .ok (.iload 9, 2) := okd_at mX12_copy_1 49 rfl
theorem dX12_copy_192 : decode cX12_copy 192 = .ok (.iadd, 1) := okd_at mX12_copy_1 50 rfl
theorem dX12_copy_193 : decode cX12_copy 193 = .ok (.iaload, 1) := okd_at mX12_copy_1 51 rfl
theorem dX12_copy_194 : decode cX12_copy 194 = .ok (.iastore, 1) := okd_at mX12_copy_1 52 rfl
theorem dX12_copy_195 : decode cX12_copy 195 = .ok (.iinc 8 1, 3) := okd_at mX12_copy_1 53 rfl
theorem dX12_copy_198 : decode cX12_copy 198 = .ok (.goto (-51), 3) := okd_at mX12_copy_1 54 rfl
theorem dX12_copy_201 : decode cX12_copy 201 = .ok (.iload 5, 2) := okd_at mX12_copy_1 55 rfl
theorem dX12_copy_203 : decode cX12_copy 203 = .ok (.ireturn, 1) := okd_at mX12_copy_1 56 rfl
def lmX12_count_0 : List (Nat × Instr × Nat) := [(0, .iload_n 1, 1), (1, .tableswitch 60 0 4 #[35, 40, 45, 50, 55], 35), (36, .aload_n 0, 1), (37, .getfield 97, 3), (40, .ireturn, 1), (41, .aload_n 0, 1), (42, .getfield 90, 3), (45, .ireturn, 1), (46, .aload_n 0, 1), (47, .getfield 100, 3), (50, .ireturn, 1), (51, .aload_n 0, 1), (52, .getfield 103, 3), (55, .ireturn, 1), (56, .aload_n 0, 1), (57, .getfield 83, 3), (60, .ireturn, 1), (61, .bipush (-2), 2), (63, .ireturn, 1)]
theorem mX12_count_0 : okd cX12_count lmX12_count_0 = true := by decide +kernel
theorem dX12_count_0 : decode cX12_count 0 = .ok (.iload_n 1, 1) := okd_at mX12_count_0 0 rfl
theorem dX12_count_1 : decode cX12_count 1 = .ok (.tableswitch 60 0 4 #[35, 40, 45, 50, 55], 35) := okd_at mX12_count_0 1 rfl
theorem dX12_count_36 : decode cX12_count 36 = .ok (.aload_n 0, 1) := okd_at mX12_count_0 2 rfl
theorem dX12_count_37 : decode cX12_count 37 = .ok (.getfield 97, 3) := okd_at mX12_count_0 3 rfl
theorem dX12_count_40 : decode cX12_count 40 = .ok (.ireturn, 1) := okd_at mX12_count_0 4 rfl
theorem dX12_count_41 : decode cX12_count 41 = .ok (.aload_n 0, 1) := okd_at mX12_count_0 5 rfl
theorem dX12_count_42 : decode cX12_count 42 = .ok (.getfield 90, 3) := okd_at mX12_count_0 6 rfl
theorem dX12_count_45 : decode cX12_count 45 = .ok (.ireturn, 1) := okd_at mX12_count_0 7 rfl
theorem dX12_count_46 : decode cX12_count 46 = .ok (.aload_n 0, 1) := okd_at mX12_count_0 8 rfl
theorem dX12_count_47 : decode cX12_count 47 = .ok (.getfield 100, 3) := okd_at mX12_count_0 9 rfl
theorem dX12_count_50 : decode cX12_count 50 = .ok (.ireturn, 1) := okd_at mX12_count_0 10 rfl
theorem dX12_count_51 : decode cX12_count 51 = .ok (.aload_n 0, 1) := okd_at mX12_count_0 11 rfl
theorem dX12_count_52 : decode cX12_count 52 = .ok (.getfield 103, 3) := okd_at mX12_count_0 12 rfl
theorem dX12_count_55 : decode cX12_count 55 = .ok (.ireturn, 1) := okd_at mX12_count_0 13 rfl
theorem dX12_count_56 : decode cX12_count 56 = .ok (.aload_n 0, 1) := okd_at mX12_count_0 14 rfl
theorem dX12_count_57 : decode cX12_count 57 = .ok (.getfield 83, 3) := okd_at mX12_count_0 15 rfl
theorem dX12_count_60 : decode cX12_count 60 = .ok (.ireturn, 1) := okd_at mX12_count_0 16 rfl
theorem dX12_count_61 : decode cX12_count 61 = .ok (.bipush (-2), 2) := okd_at mX12_count_0 17 rfl
theorem dX12_count_63 : decode cX12_count 63 = .ok (.ireturn, 1) := okd_at mX12_count_0 18 rfl
def lmX12_day_0 : List (Nat × Instr × Nat) := [(0, .iload_n 1, 1), (1, .iconst 0, 1), (2, .iconst 3, 1), (3, .invokestatic 93, 3), (6, .ifCond .ne 23, 3), (9, .iload_n 1, 1), (10, .bipush 10, 2), (12, .bipush 9, 2), (14, .aload_n 0, 1), (15, .getfield 90, 3), (18, .iadd, 1), (19, .invokestatic 93, 3), (22, .ifCond .ne 7, 3), (25, .sipush (-1000), 3), (28, .ireturn, 1), (29, .aload_n 0, 1), (30, .invokevirtual 219, 3), (33, .iload_n 1, 1), (34, .tableswitch 50 0 3 #[30, 35, 40, 45], 30), (64, .aload_n 0, 1), (65, .invokevirtual 222, 3), (68, .ireturn, 1), (69, .aload_n 0, 1), (70, .getfield 213, 3), (73, .ireturn, 1), (74, .aload_n 0, 1), (75, .getfield 207, 3), (78, .ireturn, 1), (79, .aload_n 0, 1), (80, .getfield 210, 3), (83, .ireturn, 1), (84, .aload_n 0, 1), (85, .getfield 61, 3), (88, .iload_n 1, 1), (89, .bipush 10, 2), (91, .isub, 1), (92, .iaload, 1), (93, .ireturn, 1)]
theorem mX12_day_0 : okd cX12_day lmX12_day_0 = true := by decide +kernel
theorem dX12_day_0 : decode cX12_day 0 = .ok (.iload_n 1, 1) := okd_at mX12_day_0 0 rfl
theorem dX12_day_1 : decode cX12_day 1 = .ok (.iconst 0, 1) := okd_at mX12_day_0 1 rfl
theorem dX12_day_2 : decode cX12_day 2 = .ok (.iconst 3, 1) := okd_at mX12_day_0 2 rfl
theorem dX12_day_3 : decode cX12_day 3 = .ok (.invokestatic 93, 3) := okd_at mX12_day_0 3 rfl
theorem dX12_day_6 : decode cX12_day 6 = .ok (.ifCond .ne 23, 3) := okd_at mX12_day_0 4 rfl
theorem dX12_day_9 : decode cX12_day 9 = .ok (.iload_n 1, 1) := okd_at mX12_day_0 5 rfl
theorem dX12_day_10 : decode cX12_day 10 = .ok (.bipush 10, 2) := okd_at mX12_day_0 6 rfl
theorem dX12_day_12 : decode cX12_day 12 = .ok (.bipush 9, 2) := okd_at mX12_day_0 7 rfl
theorem dX12_day_14 : decode cX12_day 14 = .ok (.aload_n 0, 1) := okd_at mX12_day_0 8 rfl
theorem dX12_day_15 : decode cX12_day 15 = .ok (.getfield 90, 3) := okd_at mX12_day_0 9 rfl
theorem dX12_day_18 : decode cX12_day 18 = .ok (.iadd, 1) := okd_at mX12_day_0 10 rfl
theorem dX12_day_19 : decode cX12_day 19 = .ok (.invokestatic 93, 3) := okd_at mX12_day_0 11 rfl
theorem dX12_day_22 : decode cX12_day 22 = .ok (.ifCond .ne 7, 3) := okd_at mX12_day_0 12 rfl
theorem dX12_day_25 : decode cX12_day 25 = .ok (.sipush (-1000), 3) := okd_at mX12_day_0 13 rfl
theorem dX12_day_28 : decode cX12_day 28 = .ok (.ireturn, 1) := okd_at mX12_day_0 14 rfl
theorem dX12_day_29 : decode cX12_day 29 = .ok (.aload_n 0, 1) := okd_at mX12_day_0 15 rfl
theorem dX12_day_30 : decode cX12_day 30 = .ok (.invokevirtual 219, 3) := okd_at mX12_day_0 16 rfl
theorem dX12_day_33 : decode cX12_day 33 = .ok (.iload_n 1, 1) := okd_at mX12_day_0 17 rfl
theorem dX12_day_34 : decode cX12_day 34 = .ok (.tableswitch 50 0 3 #[30, 35, 40, 45], 30) := okd_at mX12_day_0 18 rfl
theorem dX12_day_64 : decode cX12_day 64 = .ok (.aload_n 0, 1) := okd_at mX12_day_0 19 rfl
theorem dX12_day_65 : decode cX12_day 65 = .ok (.invokevirtual 222, 3) := okd_at mX12_day_0 20 rfl
theorem dX12_day_68 : decode cX12_day 68 = .ok (.ireturn, 1) := okd_at mX12_day_0 21 rfl
theorem dX12_day_69 : decode cX12_day 69 = .ok (.aload_n 0, 1) := okd_at mX12_day_0 22 rfl
theorem dX12_day_70 : decode cX12_day 70 = .ok (.getfield 213, 3) := okd_at mX12_day_0 23 rfl
theorem dX12_day_73 : decode cX12_day 73 = .ok (.ireturn, 1) := okd_at mX12_day_0 24 rfl
theorem dX12_day_74 : decode cX12_day 74 = .ok (.aload_n 0, 1) := okd_at mX12_day_0 25 rfl
theorem dX12_day_75 : decode cX12_day 75 = .ok (.getfield 207, 3) := okd_at mX12_day_0 26 rfl
theorem dX12_day_78 : decode cX12_day 78 = .ok (.ireturn, 1) := okd_at mX12_day_0 27 rfl
theorem dX12_day_79 : decode cX12_day 79 = .ok (.aload_n 0, 1) := okd_at mX12_day_0 28 rfl
theorem dX12_day_80 : decode cX12_day 80 = .ok (.getfield 210, 3) := okd_at mX12_day_0 29 rfl
theorem dX12_day_83 : decode cX12_day 83 = .ok (.ireturn, 1) := okd_at mX12_day_0 30 rfl
theorem dX12_day_84 : decode cX12_day 84 = .ok (.aload_n 0, 1) := okd_at mX12_day_0 31 rfl
theorem dX12_day_85 : decode cX12_day 85 = .ok (.getfield 61, 3) := okd_at mX12_day_0 32 rfl
theorem dX12_day_88 : decode cX12_day 88 = .ok (.iload_n 1, 1) := okd_at mX12_day_0 33 rfl
theorem dX12_day_89 : decode cX12_day 89 = .ok (.bipush 10, 2) := okd_at mX12_day_0 34 rfl
theorem dX12_day_91 : decode cX12_day 91 = .ok (.isub, 1) := okd_at mX12_day_0 35 rfl
theorem dX12_day_92 : decode cX12_day 92 = .ok (.iaload, 1) := okd_at mX12_day_0 36 rfl
theorem dX12_day_93 : decode cX12_day 93 = .ok (.ireturn, 1) := okd_at mX12_day_0 37 rfl
def lmX12_dayBy_0 : List (Nat × Instr × Nat) := [(0, .iload_n 1, 1), (1, .i2l, 1), (2, .lconst 1, 1), (3, .ladd, 1), (4, .lstore_n 2, 1), (5, .iconst 0, 1), (6, .istore 4, 2), (8, .iload 4, 2), (10, .aload_n 0, 1), (11, .getfield 90, 3), (14, .if_icmp .ge 54, 3), (17, .lload_n 2, 1), (18, .ldc2_w 259, 3), (21, .lmul, 1), (22, .ldc2_w 261, 3), (25, .lrem, 1), (26, .lstore_n 2, 1), (27, .aload_n 0, 1), (28, .getfield 80, 3), (31, .iload 4, 2), (33, .aload_n 0, 1), (34, .getfield 7, 3), (37, .iconst 3, 1), (38, .iload 4, 2), (40, .imul, 1), (41, .iconst 1, 1), (42, .iadd, 1), (43, .iaload, 1), (44, .iastore, 1), (45, .aload_n 0, 1), (46, .getfield 7, 3), (49, .iconst 3, 1), (50, .iload 4, 2), (52, .imul, 1), (53, .iconst 1, 1), (54, .iadd, 1), (55, .lload_n 2, 1), (56, .ldc2_w 263, 3), (59, .lrem, 1), (60, .l2i, 1), (61, .iastore, 1), (62, .iinc 4 1, 3), (65, .goto (-57), 3), (68, .aload_n 0, 1), (69, .invokevirtual 219, 3), (72, .iconst 0, 1), (73, .istore 4, 2), (75, .iload 4, 2), (77, .aload_n 0, 1), (78, .getfield 90, 3), (81, .if_icmp .ge 27, 3), (84, .aload_n 0, 1), (85, .getfield 7, 3), (88, .iconst 3, 1), (89, .iload 4, 2), (91, .imul, 1), (92, .iconst 1, 1), (93, .iadd, 1), (94, .aload_n 0, 1), (95, .getfield 80, 3)]
theorem mX12_dayBy_0 : okd cX12_dayBy lmX12_dayBy_0 = true := by decide +kernel
theorem dX12_dayBy_0 : decode cX12_dayBy 0 = .ok (.iload_n 1, 1) := okd_at mX12_dayBy_0 0 rfl
theorem dX12_dayBy_1 : decode cX12_dayBy 1 = .ok (.i2l, 1) := okd_at mX12_dayBy_0 1 rfl
theorem dX12_dayBy_2 : decode cX12_dayBy 2 = .ok (.lconst 1, 1) := okd_at mX12_dayBy_0 2 rfl
theorem dX12_dayBy_3 : decode cX12_dayBy 3 = .ok (.ladd, 1) := okd_at mX12_dayBy_0 3 rfl
theorem dX12_dayBy_4 : decode cX12_dayBy 4 = .ok (.lstore_n 2, 1) := okd_at mX12_dayBy_0 4 rfl
theorem dX12_dayBy_5 : decode cX12_dayBy 5 = .ok (.iconst 0, 1) := okd_at mX12_dayBy_0 5 rfl
theorem dX12_dayBy_6 : decode cX12_dayBy 6 = .ok (.istore 4, 2) := okd_at mX12_dayBy_0 6 rfl
theorem dX12_dayBy_8 : decode cX12_dayBy 8 = .ok (.iload 4, 2) := okd_at mX12_dayBy_0 7 rfl
theorem dX12_dayBy_10 : decode cX12_dayBy 10 = .ok (.aload_n 0, 1) := okd_at mX12_dayBy_0 8 rfl
theorem dX12_dayBy_11 : decode cX12_dayBy 11 = .ok (.getfield 90, 3) := okd_at mX12_dayBy_0 9 rfl
theorem dX12_dayBy_14 : decode cX12_dayBy 14 = .ok (.if_icmp .ge 54, 3) := okd_at mX12_dayBy_0 10 rfl
theorem dX12_dayBy_17 : decode cX12_dayBy 17 = .ok (.lload_n 2, 1) := okd_at mX12_dayBy_0 11 rfl
theorem dX12_dayBy_18 : decode cX12_dayBy 18 = .ok (.ldc2_w 259, 3) := okd_at mX12_dayBy_0 12 rfl
theorem dX12_dayBy_21 : decode cX12_dayBy 21 = .ok (.lmul, 1) := okd_at mX12_dayBy_0 13 rfl
theorem dX12_dayBy_22 : decode cX12_dayBy 22 = .ok (.ldc2_w 261, 3) := okd_at mX12_dayBy_0 14 rfl
theorem dX12_dayBy_25 : decode cX12_dayBy 25 = .ok (.lrem, 1) := okd_at mX12_dayBy_0 15 rfl
theorem dX12_dayBy_26 : decode cX12_dayBy 26 = .ok (.lstore_n 2, 1) := okd_at mX12_dayBy_0 16 rfl
theorem dX12_dayBy_27 : decode cX12_dayBy 27 = .ok (.aload_n 0, 1) := okd_at mX12_dayBy_0 17 rfl
theorem dX12_dayBy_28 : decode cX12_dayBy 28 = .ok (.getfield 80, 3) := okd_at mX12_dayBy_0 18 rfl
theorem dX12_dayBy_31 : decode cX12_dayBy 31 = .ok (.iload 4, 2) := okd_at mX12_dayBy_0 19 rfl
theorem dX12_dayBy_33 : decode cX12_dayBy 33 = .ok (.aload_n 0, 1) := okd_at mX12_dayBy_0 20 rfl
theorem dX12_dayBy_34 : decode cX12_dayBy 34 = .ok (.getfield 7, 3) := okd_at mX12_dayBy_0 21 rfl
theorem dX12_dayBy_37 : decode cX12_dayBy 37 = .ok (.iconst 3, 1) := okd_at mX12_dayBy_0 22 rfl
theorem dX12_dayBy_38 : decode cX12_dayBy 38 = .ok (.iload 4, 2) := okd_at mX12_dayBy_0 23 rfl
theorem dX12_dayBy_40 : decode cX12_dayBy 40 = .ok (.imul, 1) := okd_at mX12_dayBy_0 24 rfl
theorem dX12_dayBy_41 : decode cX12_dayBy 41 = .ok (.iconst 1, 1) := okd_at mX12_dayBy_0 25 rfl
theorem dX12_dayBy_42 : decode cX12_dayBy 42 = .ok (.iadd, 1) := okd_at mX12_dayBy_0 26 rfl
theorem dX12_dayBy_43 : decode cX12_dayBy 43 = .ok (.iaload, 1) := okd_at mX12_dayBy_0 27 rfl
theorem dX12_dayBy_44 : decode cX12_dayBy 44 = .ok (.iastore, 1) := okd_at mX12_dayBy_0 28 rfl
theorem dX12_dayBy_45 : decode cX12_dayBy 45 = .ok (.aload_n 0, 1) := okd_at mX12_dayBy_0 29 rfl
theorem dX12_dayBy_46 : decode cX12_dayBy 46 = .ok (.getfield 7, 3) := okd_at mX12_dayBy_0 30 rfl
theorem dX12_dayBy_49 : decode cX12_dayBy 49 = .ok (.iconst 3, 1) := okd_at mX12_dayBy_0 31 rfl
theorem dX12_dayBy_50 : decode cX12_dayBy 50 = .ok (.iload 4, 2) := okd_at mX12_dayBy_0 32 rfl
theorem dX12_dayBy_52 : decode cX12_dayBy 52 = .ok (.imul, 1) := okd_at mX12_dayBy_0 33 rfl
theorem dX12_dayBy_53 : decode cX12_dayBy 53 = .ok (.iconst 1, 1) := okd_at mX12_dayBy_0 34 rfl
theorem dX12_dayBy_54 : decode cX12_dayBy 54 = .ok (.iadd, 1) := okd_at mX12_dayBy_0 35 rfl
theorem dX12_dayBy_55 : decode cX12_dayBy 55 = .ok (.lload_n 2, 1) := okd_at mX12_dayBy_0 36 rfl
theorem dX12_dayBy_56 : decode cX12_dayBy 56 = .ok (.ldc2_w 263, 3) := okd_at mX12_dayBy_0 37 rfl
theorem dX12_dayBy_59 : decode cX12_dayBy 59 = .ok (.lrem, 1) := okd_at mX12_dayBy_0 38 rfl
theorem dX12_dayBy_60 : decode cX12_dayBy 60 = .ok (.l2i, 1) := okd_at mX12_dayBy_0 39 rfl
theorem dX12_dayBy_61 : decode cX12_dayBy 61 = .ok (.iastore, 1) := okd_at mX12_dayBy_0 40 rfl
theorem dX12_dayBy_62 : decode cX12_dayBy 62 = .ok (.iinc 4 1, 3) := okd_at mX12_dayBy_0 41 rfl
theorem dX12_dayBy_65 : decode cX12_dayBy 65 = .ok (.goto (-57), 3) := okd_at mX12_dayBy_0 42 rfl
theorem dX12_dayBy_68 : decode cX12_dayBy 68 = .ok (.aload_n 0, 1) := okd_at mX12_dayBy_0 43 rfl
theorem dX12_dayBy_69 : decode cX12_dayBy 69 = .ok (.invokevirtual 219, 3) := okd_at mX12_dayBy_0 44 rfl
theorem dX12_dayBy_72 : decode cX12_dayBy 72 = .ok (.iconst 0, 1) := okd_at mX12_dayBy_0 45 rfl
theorem dX12_dayBy_73 : decode cX12_dayBy 73 = .ok (.istore 4, 2) := okd_at mX12_dayBy_0 46 rfl
theorem dX12_dayBy_75 : decode cX12_dayBy 75 = .ok (.iload 4, 2) := okd_at mX12_dayBy_0 47 rfl
theorem dX12_dayBy_77 : decode cX12_dayBy 77 = .ok (.aload_n 0, 1) := okd_at mX12_dayBy_0 48 rfl
theorem dX12_dayBy_78 : decode cX12_dayBy 78 = .ok (.getfield 90, 3) := okd_at mX12_dayBy_0 49 rfl
theorem dX12_dayBy_81 : decode cX12_dayBy 81 = .ok (.if_icmp .ge 27, 3) := okd_at mX12_dayBy_0 50 rfl
theorem dX12_dayBy_84 : decode cX12_dayBy 84 = .ok (.aload_n 0, 1) := okd_at mX12_dayBy_0 51 rfl
theorem dX12_dayBy_85 : decode cX12_dayBy 85 = .ok (.getfield 7, 3) := okd_at mX12_dayBy_0 52 rfl
theorem dX12_dayBy_88 : decode cX12_dayBy 88 = .ok (.iconst 3, 1) := okd_at mX12_dayBy_0 53 rfl
theorem dX12_dayBy_89 : decode cX12_dayBy 89 = .ok (.iload 4, 2) := okd_at mX12_dayBy_0 54 rfl
theorem dX12_dayBy_91 : decode cX12_dayBy 91 = .ok (.imul, 1) := okd_at mX12_dayBy_0 55 rfl
theorem dX12_dayBy_92 : decode cX12_dayBy 92 = .ok (.iconst 1, 1) := okd_at mX12_dayBy_0 56 rfl
theorem dX12_dayBy_93 : decode cX12_dayBy 93 = .ok (.iadd, 1) := okd_at mX12_dayBy_0 57 rfl
theorem dX12_dayBy_94 : decode cX12_dayBy 94 = .ok (.aload_n 0, 1) := okd_at mX12_dayBy_0 58 rfl
theorem dX12_dayBy_95 : decode cX12_dayBy 95 = .ok (.getfield 80, 3) := okd_at mX12_dayBy_0 59 rfl
def lmX12_dayBy_1 : List (Nat × Instr × Nat) := [(98, .iload 4, 2), (100, .iaload, 1), (101, .iastore, 1), (102, .iinc 4 1, 3), (105, .goto (-30), 3), (108, .return_, 1)]
theorem mX12_dayBy_1 : okd cX12_dayBy lmX12_dayBy_1 = true := by decide +kernel
theorem dX12_dayBy_98 : decode cX12_dayBy 98 = .ok (.iload 4, 2) := okd_at mX12_dayBy_1 0 rfl
theorem dX12_dayBy_100 : decode cX12_dayBy 100 = .ok (.iaload, 1) := okd_at mX12_dayBy_1 1 rfl
theorem dX12_dayBy_101 : decode cX12_dayBy 101 = .ok (.iastore, 1) := okd_at mX12_dayBy_1 2 rfl
theorem dX12_dayBy_102 : decode cX12_dayBy 102 = .ok (.iinc 4 1, 3) := okd_at mX12_dayBy_1 3 rfl
theorem dX12_dayBy_105 : decode cX12_dayBy 105 = .ok (.goto (-30), 3) := okd_at mX12_dayBy_1 4 rfl
theorem dX12_dayBy_108 : decode cX12_dayBy 108 = .ok (.return_, 1) := okd_at mX12_dayBy_1 5 rfl
def lmX12_does_0 : List (Nat × Instr × Nat) := [(0, .aload_n 0, 1), (1, .iload_n 1, 1), (2, .invokevirtual 106, 3), (5, .ifCond .ne 7, 3), (8, .sipush (-1005), 3), (11, .ireturn, 1), (12, .aload_n 0, 1), (13, .iload_n 2, 1), (14, .invokevirtual 182, 3), (17, .ifCond .ne 7, 3), (20, .sipush (-1006), 3), (23, .ireturn, 1), (24, .aload_n 0, 1), (25, .invokevirtual 198, 3), (28, .aload_n 0, 1), (29, .iload_n 1, 1), (30, .iload_n 2, 1), (31, .invokevirtual 195, 3), (34, .ireturn, 1)]
theorem mX12_does_0 : okd cX12_does lmX12_does_0 = true := by decide +kernel
theorem dX12_does_0 : decode cX12_does 0 = .ok (.aload_n 0, 1) := okd_at mX12_does_0 0 rfl
theorem dX12_does_1 : decode cX12_does 1 = .ok (.iload_n 1, 1) := okd_at mX12_does_0 1 rfl
theorem dX12_does_2 : decode cX12_does 2 = .ok (.invokevirtual 106, 3) := okd_at mX12_does_0 2 rfl
theorem dX12_does_5 : decode cX12_does 5 = .ok (.ifCond .ne 7, 3) := okd_at mX12_does_0 3 rfl
theorem dX12_does_8 : decode cX12_does 8 = .ok (.sipush (-1005), 3) := okd_at mX12_does_0 4 rfl
theorem dX12_does_11 : decode cX12_does 11 = .ok (.ireturn, 1) := okd_at mX12_does_0 5 rfl
theorem dX12_does_12 : decode cX12_does 12 = .ok (.aload_n 0, 1) := okd_at mX12_does_0 6 rfl
theorem dX12_does_13 : decode cX12_does 13 = .ok (.iload_n 2, 1) := okd_at mX12_does_0 7 rfl
theorem dX12_does_14 : decode cX12_does 14 = .ok (.invokevirtual 182, 3) := okd_at mX12_does_0 8 rfl
theorem dX12_does_17 : decode cX12_does 17 = .ok (.ifCond .ne 7, 3) := okd_at mX12_does_0 9 rfl
theorem dX12_does_20 : decode cX12_does 20 = .ok (.sipush (-1006), 3) := okd_at mX12_does_0 10 rfl
theorem dX12_does_23 : decode cX12_does 23 = .ok (.ireturn, 1) := okd_at mX12_does_0 11 rfl
theorem dX12_does_24 : decode cX12_does 24 = .ok (.aload_n 0, 1) := okd_at mX12_does_0 12 rfl
theorem dX12_does_25 : decode cX12_does 25 = .ok (.invokevirtual 198, 3) := okd_at mX12_does_0 13 rfl
theorem dX12_does_28 : decode cX12_does 28 = .ok (.aload_n 0, 1) := okd_at mX12_does_0 14 rfl
theorem dX12_does_29 : decode cX12_does 29 = .ok (.iload_n 1, 1) := okd_at mX12_does_0 15 rfl
theorem dX12_does_30 : decode cX12_does 30 = .ok (.iload_n 2, 1) := okd_at mX12_does_0 16 rfl
theorem dX12_does_31 : decode cX12_does 31 = .ok (.invokevirtual 195, 3) := okd_at mX12_does_0 17 rfl
theorem dX12_does_34 : decode cX12_does 34 = .ok (.ireturn, 1) := okd_at mX12_does_0 18 rfl
def lmX12_drawn_0 : List (Nat × Instr × Nat) := [(0, .iload_n 1, 1), (1, .iconst 0, 1), (2, .ldc_w 265, 3), (5, .invokestatic 93, 3), (8, .ifCond .eq 12, 3), (11, .iload_n 2, 1), (12, .iconst 0, 1), (13, .iconst 1, 1), (14, .invokestatic 93, 3), (17, .ifCond .ne 7, 3), (20, .sipush (-1000), 3), (23, .ireturn, 1), (24, .aload_n 0, 1), (25, .iload_n 1, 1), (26, .invokevirtual 266, 3), (29, .iload_n 2, 1), (30, .ifCond .ne 10, 3), (33, .aload_n 0, 1), (34, .getfield 213, 3), (37, .goto 7, 3), (40, .aload_n 0, 1), (41, .getfield 207, 3), (44, .ireturn, 1)]
theorem mX12_drawn_0 : okd cX12_drawn lmX12_drawn_0 = true := by decide +kernel
theorem dX12_drawn_0 : decode cX12_drawn 0 = .ok (.iload_n 1, 1) := okd_at mX12_drawn_0 0 rfl
theorem dX12_drawn_1 : decode cX12_drawn 1 = .ok (.iconst 0, 1) := okd_at mX12_drawn_0 1 rfl
theorem dX12_drawn_2 : decode cX12_drawn 2 = .ok (.ldc_w 265, 3) := okd_at mX12_drawn_0 2 rfl
theorem dX12_drawn_5 : decode cX12_drawn 5 = .ok (.invokestatic 93, 3) := okd_at mX12_drawn_0 3 rfl
theorem dX12_drawn_8 : decode cX12_drawn 8 = .ok (.ifCond .eq 12, 3) := okd_at mX12_drawn_0 4 rfl
theorem dX12_drawn_11 : decode cX12_drawn 11 = .ok (.iload_n 2, 1) := okd_at mX12_drawn_0 5 rfl
theorem dX12_drawn_12 : decode cX12_drawn 12 = .ok (.iconst 0, 1) := okd_at mX12_drawn_0 6 rfl
theorem dX12_drawn_13 : decode cX12_drawn 13 = .ok (.iconst 1, 1) := okd_at mX12_drawn_0 7 rfl
theorem dX12_drawn_14 : decode cX12_drawn 14 = .ok (.invokestatic 93, 3) := okd_at mX12_drawn_0 8 rfl
theorem dX12_drawn_17 : decode cX12_drawn 17 = .ok (.ifCond .ne 7, 3) := okd_at mX12_drawn_0 9 rfl
theorem dX12_drawn_20 : decode cX12_drawn 20 = .ok (.sipush (-1000), 3) := okd_at mX12_drawn_0 10 rfl
theorem dX12_drawn_23 : decode cX12_drawn 23 = .ok (.ireturn, 1) := okd_at mX12_drawn_0 11 rfl
theorem dX12_drawn_24 : decode cX12_drawn 24 = .ok (.aload_n 0, 1) := okd_at mX12_drawn_0 12 rfl
theorem dX12_drawn_25 : decode cX12_drawn 25 = .ok (.iload_n 1, 1) := okd_at mX12_drawn_0 13 rfl
theorem dX12_drawn_26 : decode cX12_drawn 26 = .ok (.invokevirtual 266, 3) := okd_at mX12_drawn_0 14 rfl
theorem dX12_drawn_29 : decode cX12_drawn 29 = .ok (.iload_n 2, 1) := okd_at mX12_drawn_0 15 rfl
theorem dX12_drawn_30 : decode cX12_drawn 30 = .ok (.ifCond .ne 10, 3) := okd_at mX12_drawn_0 16 rfl
theorem dX12_drawn_33 : decode cX12_drawn 33 = .ok (.aload_n 0, 1) := okd_at mX12_drawn_0 17 rfl
theorem dX12_drawn_34 : decode cX12_drawn 34 = .ok (.getfield 213, 3) := okd_at mX12_drawn_0 18 rfl
theorem dX12_drawn_37 : decode cX12_drawn 37 = .ok (.goto 7, 3) := okd_at mX12_drawn_0 19 rfl
theorem dX12_drawn_40 : decode cX12_drawn 40 = .ok (.aload_n 0, 1) := okd_at mX12_drawn_0 20 rfl
theorem dX12_drawn_41 : decode cX12_drawn 41 = .ok (.getfield 207, 3) := okd_at mX12_drawn_0 21 rfl
theorem dX12_drawn_44 : decode cX12_drawn 44 = .ok (.ireturn, 1) := okd_at mX12_drawn_0 22 rfl
def lmX12_drop_0 : List (Nat × Instr × Nat) := [(0, .iload_n 1, 1), (1, .iconst 0, 1), (2, .iconst 2, 1), (3, .invokestatic 93, 3), (6, .ifCond .ne 7, 3), (9, .sipush (-1000), 3), (12, .ireturn, 1), (13, .aload_n 0, 1), (14, .invokevirtual 234, 3), (17, .iconst 0, 1), (18, .istore_n 2, 1), (19, .iload_n 2, 1), (20, .aload_n 0, 1), (21, .getfield 97, 3), (24, .if_icmp .ge 19, 3), (27, .aload_n 0, 1), (28, .iload_n 2, 1), (29, .putfield 76, 3), (32, .aload_n 0, 1), (33, .iload_n 2, 1), (34, .invokevirtual 237, 3), (37, .iinc 2 1, 3), (40, .goto (-21), 3), (43, .aload_n 0, 1), (44, .iconst (-1), 1), (45, .putfield 76, 3), (48, .aload_n 0, 1), (49, .iload_n 1, 1), (50, .invokevirtual 244, 3), (53, .ireturn, 1)]
theorem mX12_drop_0 : okd cX12_drop lmX12_drop_0 = true := by decide +kernel
theorem dX12_drop_0 : decode cX12_drop 0 = .ok (.iload_n 1, 1) := okd_at mX12_drop_0 0 rfl
theorem dX12_drop_1 : decode cX12_drop 1 = .ok (.iconst 0, 1) := okd_at mX12_drop_0 1 rfl
theorem dX12_drop_2 : decode cX12_drop 2 = .ok (.iconst 2, 1) := okd_at mX12_drop_0 2 rfl
theorem dX12_drop_3 : decode cX12_drop 3 = .ok (.invokestatic 93, 3) := okd_at mX12_drop_0 3 rfl
theorem dX12_drop_6 : decode cX12_drop 6 = .ok (.ifCond .ne 7, 3) := okd_at mX12_drop_0 4 rfl
theorem dX12_drop_9 : decode cX12_drop 9 = .ok (.sipush (-1000), 3) := okd_at mX12_drop_0 5 rfl
theorem dX12_drop_12 : decode cX12_drop 12 = .ok (.ireturn, 1) := okd_at mX12_drop_0 6 rfl
theorem dX12_drop_13 : decode cX12_drop 13 = .ok (.aload_n 0, 1) := okd_at mX12_drop_0 7 rfl
theorem dX12_drop_14 : decode cX12_drop 14 = .ok (.invokevirtual 234, 3) := okd_at mX12_drop_0 8 rfl
theorem dX12_drop_17 : decode cX12_drop 17 = .ok (.iconst 0, 1) := okd_at mX12_drop_0 9 rfl
theorem dX12_drop_18 : decode cX12_drop 18 = .ok (.istore_n 2, 1) := okd_at mX12_drop_0 10 rfl
theorem dX12_drop_19 : decode cX12_drop 19 = .ok (.iload_n 2, 1) := okd_at mX12_drop_0 11 rfl
theorem dX12_drop_20 : decode cX12_drop 20 = .ok (.aload_n 0, 1) := okd_at mX12_drop_0 12 rfl
theorem dX12_drop_21 : decode cX12_drop 21 = .ok (.getfield 97, 3) := okd_at mX12_drop_0 13 rfl
theorem dX12_drop_24 : decode cX12_drop 24 = .ok (.if_icmp .ge 19, 3) := okd_at mX12_drop_0 14 rfl
theorem dX12_drop_27 : decode cX12_drop 27 = .ok (.aload_n 0, 1) := okd_at mX12_drop_0 15 rfl
theorem dX12_drop_28 : decode cX12_drop 28 = .ok (.iload_n 2, 1) := okd_at mX12_drop_0 16 rfl
theorem dX12_drop_29 : decode cX12_drop 29 = .ok (.putfield 76, 3) := okd_at mX12_drop_0 17 rfl
theorem dX12_drop_32 : decode cX12_drop 32 = .ok (.aload_n 0, 1) := okd_at mX12_drop_0 18 rfl
theorem dX12_drop_33 : decode cX12_drop 33 = .ok (.iload_n 2, 1) := okd_at mX12_drop_0 19 rfl
theorem dX12_drop_34 : decode cX12_drop 34 = .ok (.invokevirtual 237, 3) := okd_at mX12_drop_0 20 rfl
theorem dX12_drop_37 : decode cX12_drop 37 = .ok (.iinc 2 1, 3) := okd_at mX12_drop_0 21 rfl
theorem dX12_drop_40 : decode cX12_drop 40 = .ok (.goto (-21), 3) := okd_at mX12_drop_0 22 rfl
theorem dX12_drop_43 : decode cX12_drop 43 = .ok (.aload_n 0, 1) := okd_at mX12_drop_0 23 rfl
theorem dX12_drop_44 : decode cX12_drop 44 = .ok (.iconst (-1), 1) := okd_at mX12_drop_0 24 rfl
theorem dX12_drop_45 : decode cX12_drop 45 = .ok (.putfield 76, 3) := okd_at mX12_drop_0 25 rfl
theorem dX12_drop_48 : decode cX12_drop 48 = .ok (.aload_n 0, 1) := okd_at mX12_drop_0 26 rfl
theorem dX12_drop_49 : decode cX12_drop 49 = .ok (.iload_n 1, 1) := okd_at mX12_drop_0 27 rfl
theorem dX12_drop_50 : decode cX12_drop 50 = .ok (.invokevirtual 244, 3) := okd_at mX12_drop_0 28 rfl
theorem dX12_drop_53 : decode cX12_drop 53 = .ok (.ireturn, 1) := okd_at mX12_drop_0 29 rfl
def lmX12_eRead_0 : List (Nat × Instr × Nat) := [(0, .aload_n 0, 1), (1, .iconst 0, 1), (2, .putfield 132, 3), (5, .aload_n 0, 1), (6, .iconst 0, 1), (7, .putfield 139, 3), (10, .iconst 1, 1), (11, .istore_n 1, 1), (12, .iconst 1, 1), (13, .istore_n 2, 1), (14, .aload_n 0, 1), (15, .invokevirtual 152, 3), (18, .iload_n 1, 1), (19, .ifCond .eq 131, 3), (22, .aload_n 0, 1), (23, .getfield 119, 3), (26, .iconst 1, 1), (27, .if_icmp .eq 11, 3), (30, .aload_n 0, 1), (31, .getfield 119, 3), (34, .iconst 2, 1), (35, .if_icmp .ne 40, 3), (38, .aload_n 0, 1), (39, .aload_n 0, 1), (40, .getfield 119, 3), (43, .iconst 1, 1), (44, .if_icmp .ne 13, 3), (47, .ldc 155, 2), (49, .aload_n 0, 1), (50, .getfield 122, 3), (53, .iadd, 1), (54, .goto 7, 3), (57, .aload_n 0, 1), (58, .getfield 122, 3), (61, .invokevirtual 142, 3), (64, .aload_n 0, 1), (65, .bipush 7, 2), (67, .invokevirtual 149, 3), (70, .iconst 0, 1), (71, .istore_n 1, 1), (72, .goto (-58), 3), (75, .aload_n 0, 1), (76, .getfield 119, 3), (79, .bipush 6, 2), (81, .if_icmp .ne 18, 3), (84, .iload_n 2, 1), (85, .ifCond .eq 14, 3), (88, .aload_n 0, 1), (89, .bipush 13, 2), (91, .invokevirtual 156, 3), (94, .ifCond .ne (-80), 3), (97, .iconst 0, 1), (98, .ireturn, 1), (99, .aload_n 0, 1), (100, .getfield 119, 3), (103, .bipush 45, 2), (105, .if_icmp .ne 19, 3), (108, .aload_n 0, 1), (109, .bipush 19, 2), (111, .invokevirtual 156, 3)]
theorem mX12_eRead_0 : okd cX12_eRead lmX12_eRead_0 = true := by decide +kernel
theorem dX12_eRead_0 : decode cX12_eRead 0 = .ok (.aload_n 0, 1) := okd_at mX12_eRead_0 0 rfl
theorem dX12_eRead_1 : decode cX12_eRead 1 = .ok (.iconst 0, 1) := okd_at mX12_eRead_0 1 rfl
theorem dX12_eRead_2 : decode cX12_eRead 2 = .ok (.putfield 132, 3) := okd_at mX12_eRead_0 2 rfl
theorem dX12_eRead_5 : decode cX12_eRead 5 = .ok (.aload_n 0, 1) := okd_at mX12_eRead_0 3 rfl
theorem dX12_eRead_6 : decode cX12_eRead 6 = .ok (.iconst 0, 1) := okd_at mX12_eRead_0 4 rfl
theorem dX12_eRead_7 : decode cX12_eRead 7 = .ok (.putfield 139, 3) := okd_at mX12_eRead_0 5 rfl
theorem dX12_eRead_10 : decode cX12_eRead 10 = .ok (.iconst 1, 1) := okd_at mX12_eRead_0 6 rfl
theorem dX12_eRead_11 : decode cX12_eRead 11 = .ok (.istore_n 1, 1) := okd_at mX12_eRead_0 7 rfl
theorem dX12_eRead_12 : decode cX12_eRead 12 = .ok (.iconst 1, 1) := okd_at mX12_eRead_0 8 rfl
theorem dX12_eRead_13 : decode cX12_eRead 13 = .ok (.istore_n 2, 1) := okd_at mX12_eRead_0 9 rfl
theorem dX12_eRead_14 : decode cX12_eRead 14 = .ok (.aload_n 0, 1) := okd_at mX12_eRead_0 10 rfl
theorem dX12_eRead_15 : decode cX12_eRead 15 = .ok (.invokevirtual 152, 3) := okd_at mX12_eRead_0 11 rfl
theorem dX12_eRead_18 : decode cX12_eRead 18 = .ok (.iload_n 1, 1) := okd_at mX12_eRead_0 12 rfl
theorem dX12_eRead_19 : decode cX12_eRead 19 = .ok (.ifCond .eq 131, 3) := okd_at mX12_eRead_0 13 rfl
theorem dX12_eRead_22 : decode cX12_eRead 22 = .ok (.aload_n 0, 1) := okd_at mX12_eRead_0 14 rfl
theorem dX12_eRead_23 : decode cX12_eRead 23 = .ok (.getfield 119, 3) := okd_at mX12_eRead_0 15 rfl
theorem dX12_eRead_26 : decode cX12_eRead 26 = .ok (.iconst 1, 1) := okd_at mX12_eRead_0 16 rfl
theorem dX12_eRead_27 : decode cX12_eRead 27 = .ok (.if_icmp .eq 11, 3) := okd_at mX12_eRead_0 17 rfl
theorem dX12_eRead_30 : decode cX12_eRead 30 = .ok (.aload_n 0, 1) := okd_at mX12_eRead_0 18 rfl
theorem dX12_eRead_31 : decode cX12_eRead 31 = .ok (.getfield 119, 3) := okd_at mX12_eRead_0 19 rfl
theorem dX12_eRead_34 : decode cX12_eRead 34 = .ok (.iconst 2, 1) := okd_at mX12_eRead_0 20 rfl
theorem dX12_eRead_35 : decode cX12_eRead 35 = .ok (.if_icmp .ne 40, 3) := okd_at mX12_eRead_0 21 rfl
theorem dX12_eRead_38 : decode cX12_eRead 38 = .ok (.aload_n 0, 1) := okd_at mX12_eRead_0 22 rfl
theorem dX12_eRead_39 : decode cX12_eRead 39 = .ok (.aload_n 0, 1) := okd_at mX12_eRead_0 23 rfl
theorem dX12_eRead_40 : decode cX12_eRead 40 = .ok (.getfield 119, 3) := okd_at mX12_eRead_0 24 rfl
theorem dX12_eRead_43 : decode cX12_eRead 43 = .ok (.iconst 1, 1) := okd_at mX12_eRead_0 25 rfl
theorem dX12_eRead_44 : decode cX12_eRead 44 = .ok (.if_icmp .ne 13, 3) := okd_at mX12_eRead_0 26 rfl
theorem dX12_eRead_47 : decode cX12_eRead 47 = .ok (.ldc 155, 2) := okd_at mX12_eRead_0 27 rfl
theorem dX12_eRead_49 : decode cX12_eRead 49 = .ok (.aload_n 0, 1) := okd_at mX12_eRead_0 28 rfl
theorem dX12_eRead_50 : decode cX12_eRead 50 = .ok (.getfield 122, 3) := okd_at mX12_eRead_0 29 rfl
theorem dX12_eRead_53 : decode cX12_eRead 53 = .ok (.iadd, 1) := okd_at mX12_eRead_0 30 rfl
theorem dX12_eRead_54 : decode cX12_eRead 54 = .ok (.goto 7, 3) := okd_at mX12_eRead_0 31 rfl
theorem dX12_eRead_57 : decode cX12_eRead 57 = .ok (.aload_n 0, 1) := okd_at mX12_eRead_0 32 rfl
theorem dX12_eRead_58 : decode cX12_eRead 58 = .ok (.getfield 122, 3) := okd_at mX12_eRead_0 33 rfl
theorem dX12_eRead_61 : decode cX12_eRead 61 = .ok (.invokevirtual 142, 3) := okd_at mX12_eRead_0 34 rfl
theorem dX12_eRead_64 : decode cX12_eRead 64 = .ok (.aload_n 0, 1) := okd_at mX12_eRead_0 35 rfl
theorem dX12_eRead_65 : decode cX12_eRead 65 = .ok (.bipush 7, 2) := okd_at mX12_eRead_0 36 rfl
theorem dX12_eRead_67 : decode cX12_eRead 67 = .ok (.invokevirtual 149, 3) := okd_at mX12_eRead_0 37 rfl
theorem dX12_eRead_70 : decode cX12_eRead 70 = .ok (.iconst 0, 1) := okd_at mX12_eRead_0 38 rfl
theorem dX12_eRead_71 : decode cX12_eRead 71 = .ok (.istore_n 1, 1) := okd_at mX12_eRead_0 39 rfl
theorem dX12_eRead_72 : decode cX12_eRead 72 = .ok (.goto (-58), 3) := okd_at mX12_eRead_0 40 rfl
theorem dX12_eRead_75 : decode cX12_eRead 75 = .ok (.aload_n 0, 1) := okd_at mX12_eRead_0 41 rfl
theorem dX12_eRead_76 : decode cX12_eRead 76 = .ok (.getfield 119, 3) := okd_at mX12_eRead_0 42 rfl
theorem dX12_eRead_79 : decode cX12_eRead 79 = .ok (.bipush 6, 2) := okd_at mX12_eRead_0 43 rfl
theorem dX12_eRead_81 : decode cX12_eRead 81 = .ok (.if_icmp .ne 18, 3) := okd_at mX12_eRead_0 44 rfl
theorem dX12_eRead_84 : decode cX12_eRead 84 = .ok (.iload_n 2, 1) := okd_at mX12_eRead_0 45 rfl
theorem dX12_eRead_85 : decode cX12_eRead 85 = .ok (.ifCond .eq 14, 3) := okd_at mX12_eRead_0 46 rfl
theorem dX12_eRead_88 : decode cX12_eRead 88 = .ok (.aload_n 0, 1) := okd_at mX12_eRead_0 47 rfl
theorem dX12_eRead_89 : decode cX12_eRead 89 = .ok (.bipush 13, 2) := okd_at mX12_eRead_0 48 rfl
theorem dX12_eRead_91 : decode cX12_eRead 91 = .ok (.invokevirtual 156, 3) := okd_at mX12_eRead_0 49 rfl
theorem dX12_eRead_94 : decode cX12_eRead 94 = .ok (.ifCond .ne (-80), 3) := okd_at mX12_eRead_0 50 rfl
theorem dX12_eRead_97 : decode cX12_eRead 97 = .ok (.iconst 0, 1) := okd_at mX12_eRead_0 51 rfl
theorem dX12_eRead_98 : decode cX12_eRead 98 = .ok (.ireturn, 1) := okd_at mX12_eRead_0 52 rfl
theorem dX12_eRead_99 : decode cX12_eRead 99 = .ok (.aload_n 0, 1) := okd_at mX12_eRead_0 53 rfl
theorem dX12_eRead_100 : decode cX12_eRead 100 = .ok (.getfield 119, 3) := okd_at mX12_eRead_0 54 rfl
theorem dX12_eRead_103 : decode cX12_eRead 103 = .ok (.bipush 45, 2) := okd_at mX12_eRead_0 55 rfl
theorem dX12_eRead_105 : decode cX12_eRead 105 = .ok (.if_icmp .ne 19, 3) := okd_at mX12_eRead_0 56 rfl
theorem dX12_eRead_108 : decode cX12_eRead 108 = .ok (.aload_n 0, 1) := okd_at mX12_eRead_0 57 rfl
theorem dX12_eRead_109 : decode cX12_eRead 109 = .ok (.bipush 19, 2) := okd_at mX12_eRead_0 58 rfl
theorem dX12_eRead_111 : decode cX12_eRead 111 = .ok (.invokevirtual 156, 3) := okd_at mX12_eRead_0 59 rfl
def lmX12_eRead_1 : List (Nat × Instr × Nat) := [(114, .ifCond .ne 5, 3), (117, .iconst 0, 1), (118, .ireturn, 1), (119, .iconst 0, 1), (120, .istore_n 2, 1), (121, .goto (-107), 3), (124, .aload_n 0, 1), (125, .getfield 119, 3), (128, .bipush 40, 2), (130, .if_icmp .ne 18, 3), (133, .aload_n 0, 1), (134, .iconst 0, 1), (135, .invokevirtual 156, 3), (138, .ifCond .ne 5, 3), (141, .iconst 0, 1), (142, .ireturn, 1), (143, .iconst 1, 1), (144, .istore_n 2, 1), (145, .goto (-131), 3), (148, .iconst 0, 1), (149, .ireturn, 1), (150, .aload_n 0, 1), (151, .getfield 119, 3), (154, .bipush 59, 2), (156, .if_icmp .ne 21, 3), (159, .aload_n 0, 1), (160, .iconst 1, 1), (161, .invokevirtual 149, 3), (164, .aload_n 0, 1), (165, .getfield 132, 3), (168, .ifCond .ne 7, 3), (171, .iconst 1, 1), (172, .goto 4, 3), (175, .iconst 0, 1), (176, .ireturn, 1), (177, .aload_n 0, 1), (178, .getfield 119, 3), (181, .bipush 41, 2), (183, .if_icmp .ne 46, 3), (186, .aload_n 0, 1), (187, .iconst 1, 1), (188, .invokevirtual 149, 3), (191, .aload_n 0, 1), (192, .getfield 132, 3), (195, .ifCond .ne 5, 3), (198, .iconst 0, 1), (199, .ireturn, 1), (200, .aload_n 0, 1), (201, .dup, 1), (202, .getfield 132, 3), (205, .iconst 1, 1), (206, .isub, 1), (207, .putfield 132, 3), (210, .aload_n 0, 1), (211, .dup, 1), (212, .getfield 139, 3), (215, .iconst 1, 1), (216, .isub, 1), (217, .putfield 139, 3), (220, .aload_n 0, 1)]
theorem mX12_eRead_1 : okd cX12_eRead lmX12_eRead_1 = true := by decide +kernel
theorem dX12_eRead_114 : decode cX12_eRead 114 = .ok (.ifCond .ne 5, 3) := okd_at mX12_eRead_1 0 rfl
theorem dX12_eRead_117 : decode cX12_eRead 117 = .ok (.iconst 0, 1) := okd_at mX12_eRead_1 1 rfl
theorem dX12_eRead_118 : decode cX12_eRead 118 = .ok (.ireturn, 1) := okd_at mX12_eRead_1 2 rfl
theorem dX12_eRead_119 : decode cX12_eRead 119 = .ok (.iconst 0, 1) := okd_at mX12_eRead_1 3 rfl
theorem dX12_eRead_120 : decode cX12_eRead 120 = .ok (.istore_n 2, 1) := okd_at mX12_eRead_1 4 rfl
theorem dX12_eRead_121 : decode cX12_eRead 121 = .ok (.goto (-107), 3) := okd_at mX12_eRead_1 5 rfl
theorem dX12_eRead_124 : decode cX12_eRead 124 = .ok (.aload_n 0, 1) := okd_at mX12_eRead_1 6 rfl
theorem dX12_eRead_125 : decode cX12_eRead 125 = .ok (.getfield 119, 3) := okd_at mX12_eRead_1 7 rfl
theorem dX12_eRead_128 : decode cX12_eRead 128 = .ok (.bipush 40, 2) := okd_at mX12_eRead_1 8 rfl
theorem dX12_eRead_130 : decode cX12_eRead 130 = .ok (.if_icmp .ne 18, 3) := okd_at mX12_eRead_1 9 rfl
theorem dX12_eRead_133 : decode cX12_eRead 133 = .ok (.aload_n 0, 1) := okd_at mX12_eRead_1 10 rfl
theorem dX12_eRead_134 : decode cX12_eRead 134 = .ok (.iconst 0, 1) := okd_at mX12_eRead_1 11 rfl
theorem dX12_eRead_135 : decode cX12_eRead 135 = .ok (.invokevirtual 156, 3) := okd_at mX12_eRead_1 12 rfl
theorem dX12_eRead_138 : decode cX12_eRead 138 = .ok (.ifCond .ne 5, 3) := okd_at mX12_eRead_1 13 rfl
theorem dX12_eRead_141 : decode cX12_eRead 141 = .ok (.iconst 0, 1) := okd_at mX12_eRead_1 14 rfl
theorem dX12_eRead_142 : decode cX12_eRead 142 = .ok (.ireturn, 1) := okd_at mX12_eRead_1 15 rfl
theorem dX12_eRead_143 : decode cX12_eRead 143 = .ok (.iconst 1, 1) := okd_at mX12_eRead_1 16 rfl
theorem dX12_eRead_144 : decode cX12_eRead 144 = .ok (.istore_n 2, 1) := okd_at mX12_eRead_1 17 rfl
theorem dX12_eRead_145 : decode cX12_eRead 145 = .ok (.goto (-131), 3) := okd_at mX12_eRead_1 18 rfl
theorem dX12_eRead_148 : decode cX12_eRead 148 = .ok (.iconst 0, 1) := okd_at mX12_eRead_1 19 rfl
theorem dX12_eRead_149 : decode cX12_eRead 149 = .ok (.ireturn, 1) := okd_at mX12_eRead_1 20 rfl
theorem dX12_eRead_150 : decode cX12_eRead 150 = .ok (.aload_n 0, 1) := okd_at mX12_eRead_1 21 rfl
theorem dX12_eRead_151 : decode cX12_eRead 151 = .ok (.getfield 119, 3) := okd_at mX12_eRead_1 22 rfl
theorem dX12_eRead_154 : decode cX12_eRead 154 = .ok (.bipush 59, 2) := okd_at mX12_eRead_1 23 rfl
theorem dX12_eRead_156 : decode cX12_eRead 156 = .ok (.if_icmp .ne 21, 3) := okd_at mX12_eRead_1 24 rfl
theorem dX12_eRead_159 : decode cX12_eRead 159 = .ok (.aload_n 0, 1) := okd_at mX12_eRead_1 25 rfl
theorem dX12_eRead_160 : decode cX12_eRead 160 = .ok (.iconst 1, 1) := okd_at mX12_eRead_1 26 rfl
theorem dX12_eRead_161 : decode cX12_eRead 161 = .ok (.invokevirtual 149, 3) := okd_at mX12_eRead_1 27 rfl
theorem dX12_eRead_164 : decode cX12_eRead 164 = .ok (.aload_n 0, 1) := okd_at mX12_eRead_1 28 rfl
theorem dX12_eRead_165 : decode cX12_eRead 165 = .ok (.getfield 132, 3) := okd_at mX12_eRead_1 29 rfl
theorem dX12_eRead_168 : decode cX12_eRead 168 = .ok (.ifCond .ne 7, 3) := okd_at mX12_eRead_1 30 rfl
theorem dX12_eRead_171 : decode cX12_eRead 171 = .ok (.iconst 1, 1) := okd_at mX12_eRead_1 31 rfl
theorem dX12_eRead_172 : decode cX12_eRead 172 = .ok (.goto 4, 3) := okd_at mX12_eRead_1 32 rfl
theorem dX12_eRead_175 : decode cX12_eRead 175 = .ok (.iconst 0, 1) := okd_at mX12_eRead_1 33 rfl
theorem dX12_eRead_176 : decode cX12_eRead 176 = .ok (.ireturn, 1) := okd_at mX12_eRead_1 34 rfl
theorem dX12_eRead_177 : decode cX12_eRead 177 = .ok (.aload_n 0, 1) := okd_at mX12_eRead_1 35 rfl
theorem dX12_eRead_178 : decode cX12_eRead 178 = .ok (.getfield 119, 3) := okd_at mX12_eRead_1 36 rfl
theorem dX12_eRead_181 : decode cX12_eRead 181 = .ok (.bipush 41, 2) := okd_at mX12_eRead_1 37 rfl
theorem dX12_eRead_183 : decode cX12_eRead 183 = .ok (.if_icmp .ne 46, 3) := okd_at mX12_eRead_1 38 rfl
theorem dX12_eRead_186 : decode cX12_eRead 186 = .ok (.aload_n 0, 1) := okd_at mX12_eRead_1 39 rfl
theorem dX12_eRead_187 : decode cX12_eRead 187 = .ok (.iconst 1, 1) := okd_at mX12_eRead_1 40 rfl
theorem dX12_eRead_188 : decode cX12_eRead 188 = .ok (.invokevirtual 149, 3) := okd_at mX12_eRead_1 41 rfl
theorem dX12_eRead_191 : decode cX12_eRead 191 = .ok (.aload_n 0, 1) := okd_at mX12_eRead_1 42 rfl
theorem dX12_eRead_192 : decode cX12_eRead 192 = .ok (.getfield 132, 3) := okd_at mX12_eRead_1 43 rfl
theorem dX12_eRead_195 : decode cX12_eRead 195 = .ok (.ifCond .ne 5, 3) := okd_at mX12_eRead_1 44 rfl
theorem dX12_eRead_198 : decode cX12_eRead 198 = .ok (.iconst 0, 1) := okd_at mX12_eRead_1 45 rfl
theorem dX12_eRead_199 : decode cX12_eRead 199 = .ok (.ireturn, 1) := okd_at mX12_eRead_1 46 rfl
theorem dX12_eRead_200 : decode cX12_eRead 200 = .ok (.aload_n 0, 1) := okd_at mX12_eRead_1 47 rfl
theorem dX12_eRead_201 : decode cX12_eRead 201 = .ok (.dup, 1) := okd_at mX12_eRead_1 48 rfl
theorem dX12_eRead_202 : decode cX12_eRead 202 = .ok (.getfield 132, 3) := okd_at mX12_eRead_1 49 rfl
theorem dX12_eRead_205 : decode cX12_eRead 205 = .ok (.iconst 1, 1) := okd_at mX12_eRead_1 50 rfl
theorem dX12_eRead_206 : decode cX12_eRead 206 = .ok (.isub, 1) := okd_at mX12_eRead_1 51 rfl
theorem dX12_eRead_207 : decode cX12_eRead 207 = .ok (.putfield 132, 3) := okd_at mX12_eRead_1 52 rfl
theorem dX12_eRead_210 : decode cX12_eRead 210 = .ok (.aload_n 0, 1) := okd_at mX12_eRead_1 53 rfl
theorem dX12_eRead_211 : decode cX12_eRead 211 = .ok (.dup, 1) := okd_at mX12_eRead_1 54 rfl
theorem dX12_eRead_212 : decode cX12_eRead 212 = .ok (.getfield 139, 3) := okd_at mX12_eRead_1 55 rfl
theorem dX12_eRead_215 : decode cX12_eRead 215 = .ok (.iconst 1, 1) := okd_at mX12_eRead_1 56 rfl
theorem dX12_eRead_216 : decode cX12_eRead 216 = .ok (.isub, 1) := okd_at mX12_eRead_1 57 rfl
theorem dX12_eRead_217 : decode cX12_eRead 217 = .ok (.putfield 139, 3) := okd_at mX12_eRead_1 58 rfl
theorem dX12_eRead_220 : decode cX12_eRead 220 = .ok (.aload_n 0, 1) := okd_at mX12_eRead_1 59 rfl
def lmX12_eRead_2 : List (Nat × Instr × Nat) := [(221, .bipush 7, 2), (223, .invokevirtual 149, 3), (226, .goto (-212), 3), (229, .aload_n 0, 1), (230, .invokevirtual 159, 3), (233, .istore_n 3, 1), (234, .iload_n 3, 1), (235, .iconst (-1), 1), (236, .if_icmp .eq 11, 3), (239, .aload_n 0, 1), (240, .iload_n 3, 1), (241, .invokevirtual 162, 3), (244, .ifCond .ne 5, 3), (247, .iconst 0, 1), (248, .ireturn, 1), (249, .iconst 1, 1), (250, .istore_n 1, 1), (251, .iload_n 3, 1), (252, .bipush 12, 2), (254, .if_icmp .gt 7, 3), (257, .iconst 1, 1), (258, .goto 4, 3), (261, .iconst 0, 1), (262, .istore_n 2, 1), (263, .goto (-249), 3)]
theorem mX12_eRead_2 : okd cX12_eRead lmX12_eRead_2 = true := by decide +kernel
theorem dX12_eRead_221 : decode cX12_eRead 221 = .ok (.bipush 7, 2) := okd_at mX12_eRead_2 0 rfl
theorem dX12_eRead_223 : decode cX12_eRead 223 = .ok (.invokevirtual 149, 3) := okd_at mX12_eRead_2 1 rfl
theorem dX12_eRead_226 : decode cX12_eRead 226 = .ok (.goto (-212), 3) := okd_at mX12_eRead_2 2 rfl
theorem dX12_eRead_229 : decode cX12_eRead 229 = .ok (.aload_n 0, 1) := okd_at mX12_eRead_2 3 rfl
theorem dX12_eRead_230 : decode cX12_eRead 230 = .ok (.invokevirtual 159, 3) := okd_at mX12_eRead_2 4 rfl
theorem dX12_eRead_233 : decode cX12_eRead 233 = .ok (.istore_n 3, 1) := okd_at mX12_eRead_2 5 rfl
theorem dX12_eRead_234 : decode cX12_eRead 234 = .ok (.iload_n 3, 1) := okd_at mX12_eRead_2 6 rfl
theorem dX12_eRead_235 : decode cX12_eRead 235 = .ok (.iconst (-1), 1) := okd_at mX12_eRead_2 7 rfl
theorem dX12_eRead_236 : decode cX12_eRead 236 = .ok (.if_icmp .eq 11, 3) := okd_at mX12_eRead_2 8 rfl
theorem dX12_eRead_239 : decode cX12_eRead 239 = .ok (.aload_n 0, 1) := okd_at mX12_eRead_2 9 rfl
theorem dX12_eRead_240 : decode cX12_eRead 240 = .ok (.iload_n 3, 1) := okd_at mX12_eRead_2 10 rfl
theorem dX12_eRead_241 : decode cX12_eRead 241 = .ok (.invokevirtual 162, 3) := okd_at mX12_eRead_2 11 rfl
theorem dX12_eRead_244 : decode cX12_eRead 244 = .ok (.ifCond .ne 5, 3) := okd_at mX12_eRead_2 12 rfl
theorem dX12_eRead_247 : decode cX12_eRead 247 = .ok (.iconst 0, 1) := okd_at mX12_eRead_2 13 rfl
theorem dX12_eRead_248 : decode cX12_eRead 248 = .ok (.ireturn, 1) := okd_at mX12_eRead_2 14 rfl
theorem dX12_eRead_249 : decode cX12_eRead 249 = .ok (.iconst 1, 1) := okd_at mX12_eRead_2 15 rfl
theorem dX12_eRead_250 : decode cX12_eRead 250 = .ok (.istore_n 1, 1) := okd_at mX12_eRead_2 16 rfl
theorem dX12_eRead_251 : decode cX12_eRead 251 = .ok (.iload_n 3, 1) := okd_at mX12_eRead_2 17 rfl
theorem dX12_eRead_252 : decode cX12_eRead 252 = .ok (.bipush 12, 2) := okd_at mX12_eRead_2 18 rfl
theorem dX12_eRead_254 : decode cX12_eRead 254 = .ok (.if_icmp .gt 7, 3) := okd_at mX12_eRead_2 19 rfl
theorem dX12_eRead_257 : decode cX12_eRead 257 = .ok (.iconst 1, 1) := okd_at mX12_eRead_2 20 rfl
theorem dX12_eRead_258 : decode cX12_eRead 258 = .ok (.goto 4, 3) := okd_at mX12_eRead_2 21 rfl
theorem dX12_eRead_261 : decode cX12_eRead 261 = .ok (.iconst 0, 1) := okd_at mX12_eRead_2 22 rfl
theorem dX12_eRead_262 : decode cX12_eRead 262 = .ok (.istore_n 2, 1) := okd_at mX12_eRead_2 23 rfl
theorem dX12_eRead_263 : decode cX12_eRead 263 = .ok (.goto (-249), 3) := okd_at mX12_eRead_2 24 rfl
def lmX12_enter_0 : List (Nat × Instr × Nat) := [(0, .aload_n 0, 1), (1, .iload_n 1, 1), (2, .invokevirtual 182, 3), (5, .ifCond .ne 6, 3), (8, .bipush (-6), 2), (10, .ireturn, 1), (11, .iload_n 2, 1), (12, .ifCond .ne 11, 3), (15, .aload_n 0, 1), (16, .iload_n 3, 1), (17, .invokevirtual 189, 3), (20, .goto 22, 3), (23, .iload_n 2, 1), (24, .iconst 1, 1), (25, .if_icmp .ne 16, 3), (28, .iload_n 3, 1), (29, .iconst 0, 1), (30, .iconst 3, 1), (31, .invokestatic 93, 3), (34, .ifCond .eq 7, 3), (37, .iconst 1, 1), (38, .goto 4, 3), (41, .iconst 0, 1), (42, .istore 4, 2), (44, .iload 4, 2), (46, .ifCond .ne 6, 3), (49, .bipush (-7), 2), (51, .ireturn, 1), (52, .aload_n 0, 1), (53, .getfield 19, 3), (56, .iconst 2, 1), (57, .iload_n 1, 1), (58, .imul, 1), (59, .iload_n 2, 1), (60, .iadd, 1), (61, .iaload, 1), (62, .istore 5, 2), (64, .aload_n 0, 1), (65, .getfield 19, 3), (68, .iconst 2, 1), (69, .iload_n 1, 1), (70, .imul, 1), (71, .iload_n 2, 1), (72, .iadd, 1), (73, .iload_n 3, 1), (74, .iastore, 1), (75, .iload 5, 2), (77, .ireturn, 1)]
theorem mX12_enter_0 : okd cX12_enter lmX12_enter_0 = true := by decide +kernel
theorem dX12_enter_0 : decode cX12_enter 0 = .ok (.aload_n 0, 1) := okd_at mX12_enter_0 0 rfl
theorem dX12_enter_1 : decode cX12_enter 1 = .ok (.iload_n 1, 1) := okd_at mX12_enter_0 1 rfl
theorem dX12_enter_2 : decode cX12_enter 2 = .ok (.invokevirtual 182, 3) := okd_at mX12_enter_0 2 rfl
theorem dX12_enter_5 : decode cX12_enter 5 = .ok (.ifCond .ne 6, 3) := okd_at mX12_enter_0 3 rfl
theorem dX12_enter_8 : decode cX12_enter 8 = .ok (.bipush (-6), 2) := okd_at mX12_enter_0 4 rfl
theorem dX12_enter_10 : decode cX12_enter 10 = .ok (.ireturn, 1) := okd_at mX12_enter_0 5 rfl
theorem dX12_enter_11 : decode cX12_enter 11 = .ok (.iload_n 2, 1) := okd_at mX12_enter_0 6 rfl
theorem dX12_enter_12 : decode cX12_enter 12 = .ok (.ifCond .ne 11, 3) := okd_at mX12_enter_0 7 rfl
theorem dX12_enter_15 : decode cX12_enter 15 = .ok (.aload_n 0, 1) := okd_at mX12_enter_0 8 rfl
theorem dX12_enter_16 : decode cX12_enter 16 = .ok (.iload_n 3, 1) := okd_at mX12_enter_0 9 rfl
theorem dX12_enter_17 : decode cX12_enter 17 = .ok (.invokevirtual 189, 3) := okd_at mX12_enter_0 10 rfl
theorem dX12_enter_20 : decode cX12_enter 20 = .ok (.goto 22, 3) := okd_at mX12_enter_0 11 rfl
theorem dX12_enter_23 : decode cX12_enter 23 = .ok (.iload_n 2, 1) := okd_at mX12_enter_0 12 rfl
theorem dX12_enter_24 : decode cX12_enter 24 = .ok (.iconst 1, 1) := okd_at mX12_enter_0 13 rfl
theorem dX12_enter_25 : decode cX12_enter 25 = .ok (.if_icmp .ne 16, 3) := okd_at mX12_enter_0 14 rfl
theorem dX12_enter_28 : decode cX12_enter 28 = .ok (.iload_n 3, 1) := okd_at mX12_enter_0 15 rfl
theorem dX12_enter_29 : decode cX12_enter 29 = .ok (.iconst 0, 1) := okd_at mX12_enter_0 16 rfl
theorem dX12_enter_30 : decode cX12_enter 30 = .ok (.iconst 3, 1) := okd_at mX12_enter_0 17 rfl
theorem dX12_enter_31 : decode cX12_enter 31 = .ok (.invokestatic 93, 3) := okd_at mX12_enter_0 18 rfl
theorem dX12_enter_34 : decode cX12_enter 34 = .ok (.ifCond .eq 7, 3) := okd_at mX12_enter_0 19 rfl
theorem dX12_enter_37 : decode cX12_enter 37 = .ok (.iconst 1, 1) := okd_at mX12_enter_0 20 rfl
theorem dX12_enter_38 : decode cX12_enter 38 = .ok (.goto 4, 3) := okd_at mX12_enter_0 21 rfl
theorem dX12_enter_41 : decode cX12_enter 41 = .ok (.iconst 0, 1) := okd_at mX12_enter_0 22 rfl
theorem dX12_enter_42 : decode cX12_enter 42 = .ok (.istore 4, 2) := okd_at mX12_enter_0 23 rfl
theorem dX12_enter_44 : decode cX12_enter 44 = .ok (.iload 4, 2) := okd_at mX12_enter_0 24 rfl
theorem dX12_enter_46 : decode cX12_enter 46 = .ok (.ifCond .ne 6, 3) := okd_at mX12_enter_0 25 rfl
theorem dX12_enter_49 : decode cX12_enter 49 = .ok (.bipush (-7), 2) := okd_at mX12_enter_0 26 rfl
theorem dX12_enter_51 : decode cX12_enter 51 = .ok (.ireturn, 1) := okd_at mX12_enter_0 27 rfl
theorem dX12_enter_52 : decode cX12_enter 52 = .ok (.aload_n 0, 1) := okd_at mX12_enter_0 28 rfl
theorem dX12_enter_53 : decode cX12_enter 53 = .ok (.getfield 19, 3) := okd_at mX12_enter_0 29 rfl
theorem dX12_enter_56 : decode cX12_enter 56 = .ok (.iconst 2, 1) := okd_at mX12_enter_0 30 rfl
theorem dX12_enter_57 : decode cX12_enter 57 = .ok (.iload_n 1, 1) := okd_at mX12_enter_0 31 rfl
theorem dX12_enter_58 : decode cX12_enter 58 = .ok (.imul, 1) := okd_at mX12_enter_0 32 rfl
theorem dX12_enter_59 : decode cX12_enter 59 = .ok (.iload_n 2, 1) := okd_at mX12_enter_0 33 rfl
theorem dX12_enter_60 : decode cX12_enter 60 = .ok (.iadd, 1) := okd_at mX12_enter_0 34 rfl
theorem dX12_enter_61 : decode cX12_enter 61 = .ok (.iaload, 1) := okd_at mX12_enter_0 35 rfl
theorem dX12_enter_62 : decode cX12_enter 62 = .ok (.istore 5, 2) := okd_at mX12_enter_0 36 rfl
theorem dX12_enter_64 : decode cX12_enter 64 = .ok (.aload_n 0, 1) := okd_at mX12_enter_0 37 rfl
theorem dX12_enter_65 : decode cX12_enter 65 = .ok (.getfield 19, 3) := okd_at mX12_enter_0 38 rfl
theorem dX12_enter_68 : decode cX12_enter 68 = .ok (.iconst 2, 1) := okd_at mX12_enter_0 39 rfl
theorem dX12_enter_69 : decode cX12_enter 69 = .ok (.iload_n 1, 1) := okd_at mX12_enter_0 40 rfl
theorem dX12_enter_70 : decode cX12_enter 70 = .ok (.imul, 1) := okd_at mX12_enter_0 41 rfl
theorem dX12_enter_71 : decode cX12_enter 71 = .ok (.iload_n 2, 1) := okd_at mX12_enter_0 42 rfl
theorem dX12_enter_72 : decode cX12_enter 72 = .ok (.iadd, 1) := okd_at mX12_enter_0 43 rfl
theorem dX12_enter_73 : decode cX12_enter 73 = .ok (.iload_n 3, 1) := okd_at mX12_enter_0 44 rfl
theorem dX12_enter_74 : decode cX12_enter 74 = .ok (.iastore, 1) := okd_at mX12_enter_0 45 rfl
theorem dX12_enter_75 : decode cX12_enter 75 = .ok (.iload 5, 2) := okd_at mX12_enter_0 46 rfl
theorem dX12_enter_77 : decode cX12_enter 77 = .ok (.ireturn, 1) := okd_at mX12_enter_0 47 rfl
def lmX12_feed_0 : List (Nat × Instr × Nat) := [(0, .iload_n 1, 1), (1, .iconst 1, 1), (2, .iconst 5, 1), (3, .invokestatic 93, 3), (6, .ifCond .eq 41, 3), (9, .iload_n 2, 1), (10, .invokestatic 110, 3), (13, .ifCond .eq 34, 3), (16, .iload_n 3, 1), (17, .invokestatic 110, 3), (20, .ifCond .eq 27, 3), (23, .iload 4, 2), (25, .invokestatic 110, 3), (28, .ifCond .eq 19, 3), (31, .iload 5, 2), (33, .invokestatic 110, 3), (36, .ifCond .eq 11, 3), (39, .iload 6, 2), (41, .invokestatic 110, 3), (44, .ifCond .ne 6, 3), (47, .bipush (-2), 2), (49, .ireturn, 1), (50, .aload_n 0, 1), (51, .getfield 83, 3), (54, .iload_n 1, 1), (55, .iadd, 1), (56, .sipush 160, 3), (59, .if_icmp .le 6, 3), (62, .bipush (-4), 2), (64, .ireturn, 1), (65, .iconst 0, 1), (66, .istore 7, 2), (68, .iload 7, 2), (70, .iload_n 1, 1), (71, .if_icmp .ge 71, 3), (74, .aload_n 0, 1), (75, .getfield 22, 3), (78, .aload_n 0, 1), (79, .getfield 83, 3), (82, .iload 7, 2), (84, .ifCond .ne 7, 3), (87, .iload_n 2, 1), (88, .goto 37, 3), (91, .iload 7, 2), (93, .iconst 1, 1), (94, .if_icmp .ne 7, 3), (97, .iload_n 3, 1), (98, .goto 27, 3), (101, .iload 7, 2), (103, .iconst 2, 1), (104, .if_icmp .ne 8, 3), (107, .iload 4, 2), (109, .goto 16, 3), (112, .iload 7, 2), (114, .iconst 3, 1), (115, .if_icmp .ne 8, 3), (118, .iload 5, 2), (120, .goto 5, 3), (123, .iload 6, 2), (125, .iastore, 1)]
theorem mX12_feed_0 : okd cX12_feed lmX12_feed_0 = true := by decide +kernel
theorem dX12_feed_0 : decode cX12_feed 0 = .ok (.iload_n 1, 1) := okd_at mX12_feed_0 0 rfl
theorem dX12_feed_1 : decode cX12_feed 1 = .ok (.iconst 1, 1) := okd_at mX12_feed_0 1 rfl
theorem dX12_feed_2 : decode cX12_feed 2 = .ok (.iconst 5, 1) := okd_at mX12_feed_0 2 rfl
theorem dX12_feed_3 : decode cX12_feed 3 = .ok (.invokestatic 93, 3) := okd_at mX12_feed_0 3 rfl
theorem dX12_feed_6 : decode cX12_feed 6 = .ok (.ifCond .eq 41, 3) := okd_at mX12_feed_0 4 rfl
theorem dX12_feed_9 : decode cX12_feed 9 = .ok (.iload_n 2, 1) := okd_at mX12_feed_0 5 rfl
theorem dX12_feed_10 : decode cX12_feed 10 = .ok (.invokestatic 110, 3) := okd_at mX12_feed_0 6 rfl
theorem dX12_feed_13 : decode cX12_feed 13 = .ok (.ifCond .eq 34, 3) := okd_at mX12_feed_0 7 rfl
theorem dX12_feed_16 : decode cX12_feed 16 = .ok (.iload_n 3, 1) := okd_at mX12_feed_0 8 rfl
theorem dX12_feed_17 : decode cX12_feed 17 = .ok (.invokestatic 110, 3) := okd_at mX12_feed_0 9 rfl
theorem dX12_feed_20 : decode cX12_feed 20 = .ok (.ifCond .eq 27, 3) := okd_at mX12_feed_0 10 rfl
theorem dX12_feed_23 : decode cX12_feed 23 = .ok (.iload 4, 2) := okd_at mX12_feed_0 11 rfl
theorem dX12_feed_25 : decode cX12_feed 25 = .ok (.invokestatic 110, 3) := okd_at mX12_feed_0 12 rfl
theorem dX12_feed_28 : decode cX12_feed 28 = .ok (.ifCond .eq 19, 3) := okd_at mX12_feed_0 13 rfl
theorem dX12_feed_31 : decode cX12_feed 31 = .ok (.iload 5, 2) := okd_at mX12_feed_0 14 rfl
theorem dX12_feed_33 : decode cX12_feed 33 = .ok (.invokestatic 110, 3) := okd_at mX12_feed_0 15 rfl
theorem dX12_feed_36 : decode cX12_feed 36 = .ok (.ifCond .eq 11, 3) := okd_at mX12_feed_0 16 rfl
theorem dX12_feed_39 : decode cX12_feed 39 = .ok (.iload 6, 2) := okd_at mX12_feed_0 17 rfl
theorem dX12_feed_41 : decode cX12_feed 41 = .ok (.invokestatic 110, 3) := okd_at mX12_feed_0 18 rfl
theorem dX12_feed_44 : decode cX12_feed 44 = .ok (.ifCond .ne 6, 3) := okd_at mX12_feed_0 19 rfl
theorem dX12_feed_47 : decode cX12_feed 47 = .ok (.bipush (-2), 2) := okd_at mX12_feed_0 20 rfl
theorem dX12_feed_49 : decode cX12_feed 49 = .ok (.ireturn, 1) := okd_at mX12_feed_0 21 rfl
theorem dX12_feed_50 : decode cX12_feed 50 = .ok (.aload_n 0, 1) := okd_at mX12_feed_0 22 rfl
theorem dX12_feed_51 : decode cX12_feed 51 = .ok (.getfield 83, 3) := okd_at mX12_feed_0 23 rfl
theorem dX12_feed_54 : decode cX12_feed 54 = .ok (.iload_n 1, 1) := okd_at mX12_feed_0 24 rfl
theorem dX12_feed_55 : decode cX12_feed 55 = .ok (.iadd, 1) := okd_at mX12_feed_0 25 rfl
theorem dX12_feed_56 : decode cX12_feed 56 = .ok (.sipush 160, 3) := okd_at mX12_feed_0 26 rfl
theorem dX12_feed_59 : decode cX12_feed 59 = .ok (.if_icmp .le 6, 3) := okd_at mX12_feed_0 27 rfl
theorem dX12_feed_62 : decode cX12_feed 62 = .ok (.bipush (-4), 2) := okd_at mX12_feed_0 28 rfl
theorem dX12_feed_64 : decode cX12_feed 64 = .ok (.ireturn, 1) := okd_at mX12_feed_0 29 rfl
theorem dX12_feed_65 : decode cX12_feed 65 = .ok (.iconst 0, 1) := okd_at mX12_feed_0 30 rfl
theorem dX12_feed_66 : decode cX12_feed 66 = .ok (.istore 7, 2) := okd_at mX12_feed_0 31 rfl
theorem dX12_feed_68 : decode cX12_feed 68 = .ok (.iload 7, 2) := okd_at mX12_feed_0 32 rfl
theorem dX12_feed_70 : decode cX12_feed 70 = .ok (.iload_n 1, 1) := okd_at mX12_feed_0 33 rfl
theorem dX12_feed_71 : decode cX12_feed 71 = .ok (.if_icmp .ge 71, 3) := okd_at mX12_feed_0 34 rfl
theorem dX12_feed_74 : decode cX12_feed 74 = .ok (.aload_n 0, 1) := okd_at mX12_feed_0 35 rfl
theorem dX12_feed_75 : decode cX12_feed 75 = .ok (.getfield 22, 3) := okd_at mX12_feed_0 36 rfl
theorem dX12_feed_78 : decode cX12_feed 78 = .ok (.aload_n 0, 1) := okd_at mX12_feed_0 37 rfl
theorem dX12_feed_79 : decode cX12_feed 79 = .ok (.getfield 83, 3) := okd_at mX12_feed_0 38 rfl
theorem dX12_feed_82 : decode cX12_feed 82 = .ok (.iload 7, 2) := okd_at mX12_feed_0 39 rfl
theorem dX12_feed_84 : decode cX12_feed 84 = .ok (.ifCond .ne 7, 3) := okd_at mX12_feed_0 40 rfl
theorem dX12_feed_87 : decode cX12_feed 87 = .ok (.iload_n 2, 1) := okd_at mX12_feed_0 41 rfl
theorem dX12_feed_88 : decode cX12_feed 88 = .ok (.goto 37, 3) := okd_at mX12_feed_0 42 rfl
theorem dX12_feed_91 : decode cX12_feed 91 = .ok (.iload 7, 2) := okd_at mX12_feed_0 43 rfl
theorem dX12_feed_93 : decode cX12_feed 93 = .ok (.iconst 1, 1) := okd_at mX12_feed_0 44 rfl
theorem dX12_feed_94 : decode cX12_feed 94 = .ok (.if_icmp .ne 7, 3) := okd_at mX12_feed_0 45 rfl
theorem dX12_feed_97 : decode cX12_feed 97 = .ok (.iload_n 3, 1) := okd_at mX12_feed_0 46 rfl
theorem dX12_feed_98 : decode cX12_feed 98 = .ok (.goto 27, 3) := okd_at mX12_feed_0 47 rfl
theorem dX12_feed_101 : decode cX12_feed 101 = .ok (.iload 7, 2) := okd_at mX12_feed_0 48 rfl
theorem dX12_feed_103 : decode cX12_feed 103 = .ok (.iconst 2, 1) := okd_at mX12_feed_0 49 rfl
theorem dX12_feed_104 : decode cX12_feed 104 = .ok (.if_icmp .ne 8, 3) := okd_at mX12_feed_0 50 rfl
theorem dX12_feed_107 : decode cX12_feed 107 = .ok (.iload 4, 2) := okd_at mX12_feed_0 51 rfl
theorem dX12_feed_109 : decode cX12_feed 109 = .ok (.goto 16, 3) := okd_at mX12_feed_0 52 rfl
theorem dX12_feed_112 : decode cX12_feed 112 = .ok (.iload 7, 2) := okd_at mX12_feed_0 53 rfl
theorem dX12_feed_114 : decode cX12_feed 114 = .ok (.iconst 3, 1) := okd_at mX12_feed_0 54 rfl
theorem dX12_feed_115 : decode cX12_feed 115 = .ok (.if_icmp .ne 8, 3) := okd_at mX12_feed_0 55 rfl
theorem dX12_feed_118 : decode cX12_feed 118 = .ok (.iload 5, 2) := okd_at mX12_feed_0 56 rfl
theorem dX12_feed_120 : decode cX12_feed 120 = .ok (.goto 5, 3) := okd_at mX12_feed_0 57 rfl
theorem dX12_feed_123 : decode cX12_feed 123 = .ok (.iload 6, 2) := okd_at mX12_feed_0 58 rfl
theorem dX12_feed_125 : decode cX12_feed 125 = .ok (.iastore, 1) := okd_at mX12_feed_0 59 rfl
def lmX12_feed_1 : List (Nat × Instr × Nat) := [(126, .aload_n 0, 1), (127, .dup, 1), (128, .getfield 83, 3), (131, .iconst 1, 1), (132, .iadd, 1), (133, .putfield 83, 3), (136, .iinc 7 1, 3), (139, .goto (-71), 3), (142, .aload_n 0, 1), (143, .getfield 83, 3), (146, .ireturn, 1)]
theorem mX12_feed_1 : okd cX12_feed lmX12_feed_1 = true := by decide +kernel
theorem dX12_feed_126 : decode cX12_feed 126 = .ok (.aload_n 0, 1) := okd_at mX12_feed_1 0 rfl
theorem dX12_feed_127 : decode cX12_feed 127 = .ok (.dup, 1) := okd_at mX12_feed_1 1 rfl
theorem dX12_feed_128 : decode cX12_feed 128 = .ok (.getfield 83, 3) := okd_at mX12_feed_1 2 rfl
theorem dX12_feed_131 : decode cX12_feed 131 = .ok (.iconst 1, 1) := okd_at mX12_feed_1 3 rfl
theorem dX12_feed_132 : decode cX12_feed 132 = .ok (.iadd, 1) := okd_at mX12_feed_1 4 rfl
theorem dX12_feed_133 : decode cX12_feed 133 = .ok (.putfield 83, 3) := okd_at mX12_feed_1 5 rfl
theorem dX12_feed_136 : decode cX12_feed 136 = .ok (.iinc 7 1, 3) := okd_at mX12_feed_1 6 rfl
theorem dX12_feed_139 : decode cX12_feed 139 = .ok (.goto (-71), 3) := okd_at mX12_feed_1 7 rfl
theorem dX12_feed_142 : decode cX12_feed 142 = .ok (.aload_n 0, 1) := okd_at mX12_feed_1 8 rfl
theorem dX12_feed_143 : decode cX12_feed 143 = .ok (.getfield 83, 3) := okd_at mX12_feed_1 9 rfl
theorem dX12_feed_146 : decode cX12_feed 146 = .ok (.ireturn, 1) := okd_at mX12_feed_1 10 rfl
def lmX12_film_0 : List (Nat × Instr × Nat) := [(0, .iload_n 1, 1), (1, .iconst 0, 1), (2, .iconst 3, 1), (3, .invokestatic 93, 3), (6, .ifCond .ne 6, 3), (9, .bipush (-2), 2), (11, .ireturn, 1), (12, .aload_n 0, 1), (13, .invokevirtual 219, 3), (16, .aload_n 0, 1), (17, .getfield 37, 3), (20, .iload_n 1, 1), (21, .iconst 1, 1), (22, .iastore, 1), (23, .aload_n 0, 1), (24, .getfield 40, 3), (27, .iload_n 1, 1), (28, .aload_n 0, 1), (29, .getfield 97, 3), (32, .iastore, 1), (33, .iconst 0, 1), (34, .istore_n 2, 1), (35, .iload_n 2, 1), (36, .bipush 40, 2), (38, .if_icmp .ge 43, 3), (41, .aload_n 0, 1), (42, .getfield 43, 3), (45, .bipush 40, 2), (47, .iload_n 1, 1), (48, .imul, 1), (49, .iload_n 2, 1), (50, .iadd, 1), (51, .iload_n 2, 1), (52, .aload_n 0, 1), (53, .getfield 97, 3), (56, .if_icmp .ge 17, 3), (59, .aload_n 0, 1), (60, .getfield 70, 3), (63, .iload_n 2, 1), (64, .iconst 0, 1), (65, .iconst 5, 1), (66, .invokestatic 173, 3), (69, .iaload, 1), (70, .goto 4, 3), (73, .iconst 0, 1), (74, .iastore, 1), (75, .iinc 2 1, 3), (78, .goto (-43), 3), (81, .aload_n 0, 1), (82, .getfield 210, 3), (85, .ireturn, 1)]
theorem mX12_film_0 : okd cX12_film lmX12_film_0 = true := by decide +kernel
theorem dX12_film_0 : decode cX12_film 0 = .ok (.iload_n 1, 1) := okd_at mX12_film_0 0 rfl
theorem dX12_film_1 : decode cX12_film 1 = .ok (.iconst 0, 1) := okd_at mX12_film_0 1 rfl
theorem dX12_film_2 : decode cX12_film 2 = .ok (.iconst 3, 1) := okd_at mX12_film_0 2 rfl
theorem dX12_film_3 : decode cX12_film 3 = .ok (.invokestatic 93, 3) := okd_at mX12_film_0 3 rfl
theorem dX12_film_6 : decode cX12_film 6 = .ok (.ifCond .ne 6, 3) := okd_at mX12_film_0 4 rfl
theorem dX12_film_9 : decode cX12_film 9 = .ok (.bipush (-2), 2) := okd_at mX12_film_0 5 rfl
theorem dX12_film_11 : decode cX12_film 11 = .ok (.ireturn, 1) := okd_at mX12_film_0 6 rfl
theorem dX12_film_12 : decode cX12_film 12 = .ok (.aload_n 0, 1) := okd_at mX12_film_0 7 rfl
theorem dX12_film_13 : decode cX12_film 13 = .ok (.invokevirtual 219, 3) := okd_at mX12_film_0 8 rfl
theorem dX12_film_16 : decode cX12_film 16 = .ok (.aload_n 0, 1) := okd_at mX12_film_0 9 rfl
theorem dX12_film_17 : decode cX12_film 17 = .ok (.getfield 37, 3) := okd_at mX12_film_0 10 rfl
theorem dX12_film_20 : decode cX12_film 20 = .ok (.iload_n 1, 1) := okd_at mX12_film_0 11 rfl
theorem dX12_film_21 : decode cX12_film 21 = .ok (.iconst 1, 1) := okd_at mX12_film_0 12 rfl
theorem dX12_film_22 : decode cX12_film 22 = .ok (.iastore, 1) := okd_at mX12_film_0 13 rfl
theorem dX12_film_23 : decode cX12_film 23 = .ok (.aload_n 0, 1) := okd_at mX12_film_0 14 rfl
theorem dX12_film_24 : decode cX12_film 24 = .ok (.getfield 40, 3) := okd_at mX12_film_0 15 rfl
theorem dX12_film_27 : decode cX12_film 27 = .ok (.iload_n 1, 1) := okd_at mX12_film_0 16 rfl
theorem dX12_film_28 : decode cX12_film 28 = .ok (.aload_n 0, 1) := okd_at mX12_film_0 17 rfl
theorem dX12_film_29 : decode cX12_film 29 = .ok (.getfield 97, 3) := okd_at mX12_film_0 18 rfl
theorem dX12_film_32 : decode cX12_film 32 = .ok (.iastore, 1) := okd_at mX12_film_0 19 rfl
theorem dX12_film_33 : decode cX12_film 33 = .ok (.iconst 0, 1) := okd_at mX12_film_0 20 rfl
theorem dX12_film_34 : decode cX12_film 34 = .ok (.istore_n 2, 1) := okd_at mX12_film_0 21 rfl
theorem dX12_film_35 : decode cX12_film 35 = .ok (.iload_n 2, 1) := okd_at mX12_film_0 22 rfl
theorem dX12_film_36 : decode cX12_film 36 = .ok (.bipush 40, 2) := okd_at mX12_film_0 23 rfl
theorem dX12_film_38 : decode cX12_film 38 = .ok (.if_icmp .ge 43, 3) := okd_at mX12_film_0 24 rfl
theorem dX12_film_41 : decode cX12_film 41 = .ok (.aload_n 0, 1) := okd_at mX12_film_0 25 rfl
theorem dX12_film_42 : decode cX12_film 42 = .ok (.getfield 43, 3) := okd_at mX12_film_0 26 rfl
theorem dX12_film_45 : decode cX12_film 45 = .ok (.bipush 40, 2) := okd_at mX12_film_0 27 rfl
theorem dX12_film_47 : decode cX12_film 47 = .ok (.iload_n 1, 1) := okd_at mX12_film_0 28 rfl
theorem dX12_film_48 : decode cX12_film 48 = .ok (.imul, 1) := okd_at mX12_film_0 29 rfl
theorem dX12_film_49 : decode cX12_film 49 = .ok (.iload_n 2, 1) := okd_at mX12_film_0 30 rfl
theorem dX12_film_50 : decode cX12_film 50 = .ok (.iadd, 1) := okd_at mX12_film_0 31 rfl
theorem dX12_film_51 : decode cX12_film 51 = .ok (.iload_n 2, 1) := okd_at mX12_film_0 32 rfl
theorem dX12_film_52 : decode cX12_film 52 = .ok (.aload_n 0, 1) := okd_at mX12_film_0 33 rfl
theorem dX12_film_53 : decode cX12_film 53 = .ok (.getfield 97, 3) := okd_at mX12_film_0 34 rfl
theorem dX12_film_56 : decode cX12_film 56 = .ok (.if_icmp .ge 17, 3) := okd_at mX12_film_0 35 rfl
theorem dX12_film_59 : decode cX12_film 59 = .ok (.aload_n 0, 1) := okd_at mX12_film_0 36 rfl
theorem dX12_film_60 : decode cX12_film 60 = .ok (.getfield 70, 3) := okd_at mX12_film_0 37 rfl
theorem dX12_film_63 : decode cX12_film 63 = .ok (.iload_n 2, 1) := okd_at mX12_film_0 38 rfl
theorem dX12_film_64 : decode cX12_film 64 = .ok (.iconst 0, 1) := okd_at mX12_film_0 39 rfl
theorem dX12_film_65 : decode cX12_film 65 = .ok (.iconst 5, 1) := okd_at mX12_film_0 40 rfl
theorem dX12_film_66 : decode cX12_film 66 = .ok (.invokestatic 173, 3) := okd_at mX12_film_0 41 rfl
theorem dX12_film_69 : decode cX12_film 69 = .ok (.iaload, 1) := okd_at mX12_film_0 42 rfl
theorem dX12_film_70 : decode cX12_film 70 = .ok (.goto 4, 3) := okd_at mX12_film_0 43 rfl
theorem dX12_film_73 : decode cX12_film 73 = .ok (.iconst 0, 1) := okd_at mX12_film_0 44 rfl
theorem dX12_film_74 : decode cX12_film 74 = .ok (.iastore, 1) := okd_at mX12_film_0 45 rfl
theorem dX12_film_75 : decode cX12_film 75 = .ok (.iinc 2 1, 3) := okd_at mX12_film_0 46 rfl
theorem dX12_film_78 : decode cX12_film 78 = .ok (.goto (-43), 3) := okd_at mX12_film_0 47 rfl
theorem dX12_film_81 : decode cX12_film 81 = .ok (.aload_n 0, 1) := okd_at mX12_film_0 48 rfl
theorem dX12_film_82 : decode cX12_film 82 = .ok (.getfield 210, 3) := okd_at mX12_film_0 49 rfl
theorem dX12_film_85 : decode cX12_film 85 = .ok (.ireturn, 1) := okd_at mX12_film_0 50 rfl
def lmX12_forMany_0 : List (Nat × Instr × Nat) := [(0, .aload_n 0, 1), (1, .getfield 19, 3), (4, .iconst 2, 1), (5, .iload_n 1, 1), (6, .imul, 1), (7, .iaload, 1), (8, .invokestatic 176, 3), (11, .istore_n 2, 1), (12, .aload_n 0, 1), (13, .getfield 19, 3), (16, .iconst 2, 1), (17, .iload_n 1, 1), (18, .imul, 1), (19, .iconst 1, 1), (20, .iadd, 1), (21, .iaload, 1), (22, .istore_n 3, 1), (23, .aload_n 0, 1), (24, .getfield 13, 3), (27, .iload_n 1, 1), (28, .iaload, 1), (29, .tableswitch 52 2 5 #[31, 52, 31, 45], 31), (60, .iload_n 2, 1), (61, .iconst 3, 1), (62, .if_icmp .ge 7, 3), (65, .iconst 1, 1), (66, .goto 4, 3), (69, .iload_n 3, 1), (70, .istore_n 3, 1), (71, .goto 10, 3), (74, .iload_n 2, 1), (75, .iconst 2, 1), (76, .idiv, 1), (77, .istore_n 3, 1), (78, .goto 3, 3), (81, .iload_n 3, 1), (82, .iload_n 2, 1), (83, .if_icmp .le 7, 3), (86, .iload_n 2, 1), (87, .goto 4, 3), (90, .iload_n 3, 1), (91, .ireturn, 1)]
theorem mX12_forMany_0 : okd cX12_forMany lmX12_forMany_0 = true := by decide +kernel
theorem dX12_forMany_0 : decode cX12_forMany 0 = .ok (.aload_n 0, 1) := okd_at mX12_forMany_0 0 rfl
theorem dX12_forMany_1 : decode cX12_forMany 1 = .ok (.getfield 19, 3) := okd_at mX12_forMany_0 1 rfl
theorem dX12_forMany_4 : decode cX12_forMany 4 = .ok (.iconst 2, 1) := okd_at mX12_forMany_0 2 rfl
theorem dX12_forMany_5 : decode cX12_forMany 5 = .ok (.iload_n 1, 1) := okd_at mX12_forMany_0 3 rfl
theorem dX12_forMany_6 : decode cX12_forMany 6 = .ok (.imul, 1) := okd_at mX12_forMany_0 4 rfl
theorem dX12_forMany_7 : decode cX12_forMany 7 = .ok (.iaload, 1) := okd_at mX12_forMany_0 5 rfl
theorem dX12_forMany_8 : decode cX12_forMany 8 = .ok (.invokestatic 176, 3) := okd_at mX12_forMany_0 6 rfl
theorem dX12_forMany_11 : decode cX12_forMany 11 = .ok (.istore_n 2, 1) := okd_at mX12_forMany_0 7 rfl
theorem dX12_forMany_12 : decode cX12_forMany 12 = .ok (.aload_n 0, 1) := okd_at mX12_forMany_0 8 rfl
theorem dX12_forMany_13 : decode cX12_forMany 13 = .ok (.getfield 19, 3) := okd_at mX12_forMany_0 9 rfl
theorem dX12_forMany_16 : decode cX12_forMany 16 = .ok (.iconst 2, 1) := okd_at mX12_forMany_0 10 rfl
theorem dX12_forMany_17 : decode cX12_forMany 17 = .ok (.iload_n 1, 1) := okd_at mX12_forMany_0 11 rfl
theorem dX12_forMany_18 : decode cX12_forMany 18 = .ok (.imul, 1) := okd_at mX12_forMany_0 12 rfl
theorem dX12_forMany_19 : decode cX12_forMany 19 = .ok (.iconst 1, 1) := okd_at mX12_forMany_0 13 rfl
theorem dX12_forMany_20 : decode cX12_forMany 20 = .ok (.iadd, 1) := okd_at mX12_forMany_0 14 rfl
theorem dX12_forMany_21 : decode cX12_forMany 21 = .ok (.iaload, 1) := okd_at mX12_forMany_0 15 rfl
theorem dX12_forMany_22 : decode cX12_forMany 22 = .ok (.istore_n 3, 1) := okd_at mX12_forMany_0 16 rfl
theorem dX12_forMany_23 : decode cX12_forMany 23 = .ok (.aload_n 0, 1) := okd_at mX12_forMany_0 17 rfl
theorem dX12_forMany_24 : decode cX12_forMany 24 = .ok (.getfield 13, 3) := okd_at mX12_forMany_0 18 rfl
theorem dX12_forMany_27 : decode cX12_forMany 27 = .ok (.iload_n 1, 1) := okd_at mX12_forMany_0 19 rfl
theorem dX12_forMany_28 : decode cX12_forMany 28 = .ok (.iaload, 1) := okd_at mX12_forMany_0 20 rfl
theorem dX12_forMany_29 : decode cX12_forMany 29 = .ok (.tableswitch 52 2 5 #[31, 52, 31, 45], 31) := okd_at mX12_forMany_0 21 rfl
theorem dX12_forMany_60 : decode cX12_forMany 60 = .ok (.iload_n 2, 1) := okd_at mX12_forMany_0 22 rfl
theorem dX12_forMany_61 : decode cX12_forMany 61 = .ok (.iconst 3, 1) := okd_at mX12_forMany_0 23 rfl
theorem dX12_forMany_62 : decode cX12_forMany 62 = .ok (.if_icmp .ge 7, 3) := okd_at mX12_forMany_0 24 rfl
theorem dX12_forMany_65 : decode cX12_forMany 65 = .ok (.iconst 1, 1) := okd_at mX12_forMany_0 25 rfl
theorem dX12_forMany_66 : decode cX12_forMany 66 = .ok (.goto 4, 3) := okd_at mX12_forMany_0 26 rfl
theorem dX12_forMany_69 : decode cX12_forMany 69 = .ok (.iload_n 3, 1) := okd_at mX12_forMany_0 27 rfl
theorem dX12_forMany_70 : decode cX12_forMany 70 = .ok (.istore_n 3, 1) := okd_at mX12_forMany_0 28 rfl
theorem dX12_forMany_71 : decode cX12_forMany 71 = .ok (.goto 10, 3) := okd_at mX12_forMany_0 29 rfl
theorem dX12_forMany_74 : decode cX12_forMany 74 = .ok (.iload_n 2, 1) := okd_at mX12_forMany_0 30 rfl
theorem dX12_forMany_75 : decode cX12_forMany 75 = .ok (.iconst 2, 1) := okd_at mX12_forMany_0 31 rfl
theorem dX12_forMany_76 : decode cX12_forMany 76 = .ok (.idiv, 1) := okd_at mX12_forMany_0 32 rfl
theorem dX12_forMany_77 : decode cX12_forMany 77 = .ok (.istore_n 3, 1) := okd_at mX12_forMany_0 33 rfl
theorem dX12_forMany_78 : decode cX12_forMany 78 = .ok (.goto 3, 3) := okd_at mX12_forMany_0 34 rfl
theorem dX12_forMany_81 : decode cX12_forMany 81 = .ok (.iload_n 3, 1) := okd_at mX12_forMany_0 35 rfl
theorem dX12_forMany_82 : decode cX12_forMany 82 = .ok (.iload_n 2, 1) := okd_at mX12_forMany_0 36 rfl
theorem dX12_forMany_83 : decode cX12_forMany 83 = .ok (.if_icmp .le 7, 3) := okd_at mX12_forMany_0 37 rfl
theorem dX12_forMany_86 : decode cX12_forMany 86 = .ok (.iload_n 2, 1) := okd_at mX12_forMany_0 38 rfl
theorem dX12_forMany_87 : decode cX12_forMany 87 = .ok (.goto 4, 3) := okd_at mX12_forMany_0 39 rfl
theorem dX12_forMany_90 : decode cX12_forMany 90 = .ok (.iload_n 3, 1) := okd_at mX12_forMany_0 40 rfl
theorem dX12_forMany_91 : decode cX12_forMany 91 = .ok (.ireturn, 1) := okd_at mX12_forMany_0 41 rfl
def lmX12_force_0 : List (Nat × Instr × Nat) := [(0, .iload_n 1, 1), (1, .iconst 0, 1), (2, .aload_n 0, 1), (3, .getfield 100, 3), (6, .iconst 1, 1), (7, .isub, 1), (8, .invokestatic 93, 3), (11, .ifCond .ne 6, 3), (14, .bipush (-2), 2), (16, .ireturn, 1), (17, .aload_n 0, 1), (18, .getfield 103, 3), (21, .istore_n 2, 1), (22, .aload_n 0, 1), (23, .iload_n 1, 1), (24, .putfield 103, 3), (27, .iload_n 2, 1), (28, .ireturn, 1)]
theorem mX12_force_0 : okd cX12_force lmX12_force_0 = true := by decide +kernel
theorem dX12_force_0 : decode cX12_force 0 = .ok (.iload_n 1, 1) := okd_at mX12_force_0 0 rfl
theorem dX12_force_1 : decode cX12_force 1 = .ok (.iconst 0, 1) := okd_at mX12_force_0 1 rfl
theorem dX12_force_2 : decode cX12_force 2 = .ok (.aload_n 0, 1) := okd_at mX12_force_0 2 rfl
theorem dX12_force_3 : decode cX12_force 3 = .ok (.getfield 100, 3) := okd_at mX12_force_0 3 rfl
theorem dX12_force_6 : decode cX12_force 6 = .ok (.iconst 1, 1) := okd_at mX12_force_0 4 rfl
theorem dX12_force_7 : decode cX12_force 7 = .ok (.isub, 1) := okd_at mX12_force_0 5 rfl
theorem dX12_force_8 : decode cX12_force 8 = .ok (.invokestatic 93, 3) := okd_at mX12_force_0 6 rfl
theorem dX12_force_11 : decode cX12_force 11 = .ok (.ifCond .ne 6, 3) := okd_at mX12_force_0 7 rfl
theorem dX12_force_14 : decode cX12_force 14 = .ok (.bipush (-2), 2) := okd_at mX12_force_0 8 rfl
theorem dX12_force_16 : decode cX12_force 16 = .ok (.ireturn, 1) := okd_at mX12_force_0 9 rfl
theorem dX12_force_17 : decode cX12_force 17 = .ok (.aload_n 0, 1) := okd_at mX12_force_0 10 rfl
theorem dX12_force_18 : decode cX12_force 18 = .ok (.getfield 103, 3) := okd_at mX12_force_0 11 rfl
theorem dX12_force_21 : decode cX12_force 21 = .ok (.istore_n 2, 1) := okd_at mX12_force_0 12 rfl
theorem dX12_force_22 : decode cX12_force 22 = .ok (.aload_n 0, 1) := okd_at mX12_force_0 13 rfl
theorem dX12_force_23 : decode cX12_force 23 = .ok (.iload_n 1, 1) := okd_at mX12_force_0 14 rfl
theorem dX12_force_24 : decode cX12_force 24 = .ok (.putfield 103, 3) := okd_at mX12_force_0 15 rfl
theorem dX12_force_27 : decode cX12_force 27 = .ok (.iload_n 2, 1) := okd_at mX12_force_0 16 rfl
theorem dX12_force_28 : decode cX12_force 28 = .ok (.ireturn, 1) := okd_at mX12_force_0 17 rfl
def lmX12_goes_0 : List (Nat × Instr × Nat) := [(0, .aload_n 0, 1), (1, .invokevirtual 198, 3), (4, .aload_n 0, 1), (5, .iconst 0, 1), (6, .putfield 207, 3), (9, .aload_n 0, 1), (10, .iconst 0, 1), (11, .putfield 213, 3), (14, .aload_n 0, 1), (15, .iconst 0, 1), (16, .putfield 210, 3), (19, .iconst 0, 1), (20, .istore_n 1, 1), (21, .iload_n 1, 1), (22, .aload_n 0, 1), (23, .getfield 97, 3), (26, .if_icmp .ge 32, 3), (29, .aload_n 0, 1), (30, .getfield 73, 3), (33, .iload_n 1, 1), (34, .iaload, 1), (35, .aload_n 0, 1), (36, .getfield 76, 3), (39, .if_icmp .eq 13, 3), (42, .aload_n 0, 1), (43, .aload_n 0, 1), (44, .getfield 73, 3), (47, .iload_n 1, 1), (48, .iaload, 1), (49, .invokevirtual 216, 3), (52, .iinc 1 1, 3), (55, .goto (-34), 3), (58, .iconst 0, 1), (59, .istore_n 1, 1), (60, .iload_n 1, 1), (61, .aload_n 0, 1), (62, .getfield 90, 3), (65, .if_icmp .ge 45, 3), (68, .aload_n 0, 1), (69, .getfield 61, 3), (72, .iload_n 1, 1), (73, .iaload, 1), (74, .ifCond .ne 30, 3), (77, .aload_n 0, 1), (78, .dup, 1), (79, .getfield 213, 3), (82, .iconst 1, 1), (83, .iadd, 1), (84, .putfield 213, 3), (87, .aload_n 0, 1), (88, .dup, 1), (89, .getfield 207, 3), (92, .aload_n 0, 1), (93, .iconst 2, 1), (94, .iload_n 1, 1), (95, .iconst (-1), 1), (96, .iconst 0, 1), (97, .invokevirtual 185, 3), (100, .iadd, 1), (101, .putfield 207, 3)]
theorem mX12_goes_0 : okd cX12_goes lmX12_goes_0 = true := by decide +kernel
theorem dX12_goes_0 : decode cX12_goes 0 = .ok (.aload_n 0, 1) := okd_at mX12_goes_0 0 rfl
theorem dX12_goes_1 : decode cX12_goes 1 = .ok (.invokevirtual 198, 3) := okd_at mX12_goes_0 1 rfl
theorem dX12_goes_4 : decode cX12_goes 4 = .ok (.aload_n 0, 1) := okd_at mX12_goes_0 2 rfl
theorem dX12_goes_5 : decode cX12_goes 5 = .ok (.iconst 0, 1) := okd_at mX12_goes_0 3 rfl
theorem dX12_goes_6 : decode cX12_goes 6 = .ok (.putfield 207, 3) := okd_at mX12_goes_0 4 rfl
theorem dX12_goes_9 : decode cX12_goes 9 = .ok (.aload_n 0, 1) := okd_at mX12_goes_0 5 rfl
theorem dX12_goes_10 : decode cX12_goes 10 = .ok (.iconst 0, 1) := okd_at mX12_goes_0 6 rfl
theorem dX12_goes_11 : decode cX12_goes 11 = .ok (.putfield 213, 3) := okd_at mX12_goes_0 7 rfl
theorem dX12_goes_14 : decode cX12_goes 14 = .ok (.aload_n 0, 1) := okd_at mX12_goes_0 8 rfl
theorem dX12_goes_15 : decode cX12_goes 15 = .ok (.iconst 0, 1) := okd_at mX12_goes_0 9 rfl
theorem dX12_goes_16 : decode cX12_goes 16 = .ok (.putfield 210, 3) := okd_at mX12_goes_0 10 rfl
theorem dX12_goes_19 : decode cX12_goes 19 = .ok (.iconst 0, 1) := okd_at mX12_goes_0 11 rfl
theorem dX12_goes_20 : decode cX12_goes 20 = .ok (.istore_n 1, 1) := okd_at mX12_goes_0 12 rfl
theorem dX12_goes_21 : decode cX12_goes 21 = .ok (.iload_n 1, 1) := okd_at mX12_goes_0 13 rfl
theorem dX12_goes_22 : decode cX12_goes 22 = .ok (.aload_n 0, 1) := okd_at mX12_goes_0 14 rfl
theorem dX12_goes_23 : decode cX12_goes 23 = .ok (.getfield 97, 3) := okd_at mX12_goes_0 15 rfl
theorem dX12_goes_26 : decode cX12_goes 26 = .ok (.if_icmp .ge 32, 3) := okd_at mX12_goes_0 16 rfl
theorem dX12_goes_29 : decode cX12_goes 29 = .ok (.aload_n 0, 1) := okd_at mX12_goes_0 17 rfl
theorem dX12_goes_30 : decode cX12_goes 30 = .ok (.getfield 73, 3) := okd_at mX12_goes_0 18 rfl
theorem dX12_goes_33 : decode cX12_goes 33 = .ok (.iload_n 1, 1) := okd_at mX12_goes_0 19 rfl
theorem dX12_goes_34 : decode cX12_goes 34 = .ok (.iaload, 1) := okd_at mX12_goes_0 20 rfl
theorem dX12_goes_35 : decode cX12_goes 35 = .ok (.aload_n 0, 1) := okd_at mX12_goes_0 21 rfl
theorem dX12_goes_36 : decode cX12_goes 36 = .ok (.getfield 76, 3) := okd_at mX12_goes_0 22 rfl
theorem dX12_goes_39 : decode cX12_goes 39 = .ok (.if_icmp .eq 13, 3) := okd_at mX12_goes_0 23 rfl
theorem dX12_goes_42 : decode cX12_goes 42 = .ok (.aload_n 0, 1) := okd_at mX12_goes_0 24 rfl
theorem dX12_goes_43 : decode cX12_goes 43 = .ok (.aload_n 0, 1) := okd_at mX12_goes_0 25 rfl
theorem dX12_goes_44 : decode cX12_goes 44 = .ok (.getfield 73, 3) := okd_at mX12_goes_0 26 rfl
theorem dX12_goes_47 : decode cX12_goes 47 = .ok (.iload_n 1, 1) := okd_at mX12_goes_0 27 rfl
theorem dX12_goes_48 : decode cX12_goes 48 = .ok (.iaload, 1) := okd_at mX12_goes_0 28 rfl
theorem dX12_goes_49 : decode cX12_goes 49 = .ok (.invokevirtual 216, 3) := okd_at mX12_goes_0 29 rfl
theorem dX12_goes_52 : decode cX12_goes 52 = .ok (.iinc 1 1, 3) := okd_at mX12_goes_0 30 rfl
theorem dX12_goes_55 : decode cX12_goes 55 = .ok (.goto (-34), 3) := okd_at mX12_goes_0 31 rfl
theorem dX12_goes_58 : decode cX12_goes 58 = .ok (.iconst 0, 1) := okd_at mX12_goes_0 32 rfl
theorem dX12_goes_59 : decode cX12_goes 59 = .ok (.istore_n 1, 1) := okd_at mX12_goes_0 33 rfl
theorem dX12_goes_60 : decode cX12_goes 60 = .ok (.iload_n 1, 1) := okd_at mX12_goes_0 34 rfl
theorem dX12_goes_61 : decode cX12_goes 61 = .ok (.aload_n 0, 1) := okd_at mX12_goes_0 35 rfl
theorem dX12_goes_62 : decode cX12_goes 62 = .ok (.getfield 90, 3) := okd_at mX12_goes_0 36 rfl
theorem dX12_goes_65 : decode cX12_goes 65 = .ok (.if_icmp .ge 45, 3) := okd_at mX12_goes_0 37 rfl
theorem dX12_goes_68 : decode cX12_goes 68 = .ok (.aload_n 0, 1) := okd_at mX12_goes_0 38 rfl
theorem dX12_goes_69 : decode cX12_goes 69 = .ok (.getfield 61, 3) := okd_at mX12_goes_0 39 rfl
theorem dX12_goes_72 : decode cX12_goes 72 = .ok (.iload_n 1, 1) := okd_at mX12_goes_0 40 rfl
theorem dX12_goes_73 : decode cX12_goes 73 = .ok (.iaload, 1) := okd_at mX12_goes_0 41 rfl
theorem dX12_goes_74 : decode cX12_goes 74 = .ok (.ifCond .ne 30, 3) := okd_at mX12_goes_0 42 rfl
theorem dX12_goes_77 : decode cX12_goes 77 = .ok (.aload_n 0, 1) := okd_at mX12_goes_0 43 rfl
theorem dX12_goes_78 : decode cX12_goes 78 = .ok (.dup, 1) := okd_at mX12_goes_0 44 rfl
theorem dX12_goes_79 : decode cX12_goes 79 = .ok (.getfield 213, 3) := okd_at mX12_goes_0 45 rfl
theorem dX12_goes_82 : decode cX12_goes 82 = .ok (.iconst 1, 1) := okd_at mX12_goes_0 46 rfl
theorem dX12_goes_83 : decode cX12_goes 83 = .ok (.iadd, 1) := okd_at mX12_goes_0 47 rfl
theorem dX12_goes_84 : decode cX12_goes 84 = .ok (.putfield 213, 3) := okd_at mX12_goes_0 48 rfl
theorem dX12_goes_87 : decode cX12_goes 87 = .ok (.aload_n 0, 1) := okd_at mX12_goes_0 49 rfl
theorem dX12_goes_88 : decode cX12_goes 88 = .ok (.dup, 1) := okd_at mX12_goes_0 50 rfl
theorem dX12_goes_89 : decode cX12_goes 89 = .ok (.getfield 207, 3) := okd_at mX12_goes_0 51 rfl
theorem dX12_goes_92 : decode cX12_goes 92 = .ok (.aload_n 0, 1) := okd_at mX12_goes_0 52 rfl
theorem dX12_goes_93 : decode cX12_goes 93 = .ok (.iconst 2, 1) := okd_at mX12_goes_0 53 rfl
theorem dX12_goes_94 : decode cX12_goes 94 = .ok (.iload_n 1, 1) := okd_at mX12_goes_0 54 rfl
theorem dX12_goes_95 : decode cX12_goes 95 = .ok (.iconst (-1), 1) := okd_at mX12_goes_0 55 rfl
theorem dX12_goes_96 : decode cX12_goes 96 = .ok (.iconst 0, 1) := okd_at mX12_goes_0 56 rfl
theorem dX12_goes_97 : decode cX12_goes 97 = .ok (.invokevirtual 185, 3) := okd_at mX12_goes_0 57 rfl
theorem dX12_goes_100 : decode cX12_goes 100 = .ok (.iadd, 1) := okd_at mX12_goes_0 58 rfl
theorem dX12_goes_101 : decode cX12_goes 101 = .ok (.putfield 207, 3) := okd_at mX12_goes_0 59 rfl
def lmX12_goes_1 : List (Nat × Instr × Nat) := [(104, .iinc 1 1, 3), (107, .goto (-47), 3), (110, .return_, 1)]
theorem mX12_goes_1 : okd cX12_goes lmX12_goes_1 = true := by decide +kernel
theorem dX12_goes_104 : decode cX12_goes 104 = .ok (.iinc 1 1, 3) := okd_at mX12_goes_1 0 rfl
theorem dX12_goes_107 : decode cX12_goes 107 = .ok (.goto (-47), 3) := okd_at mX12_goes_1 1 rfl
theorem dX12_goes_110 : decode cX12_goes 110 = .ok (.return_, 1) := okd_at mX12_goes_1 2 rfl
def lmX12_holds_0 : List (Nat × Instr × Nat) := [(0, .aload_n 0, 1), (1, .getfield 52, 3), (4, .aload_n 0, 1), (5, .getfield 132, 3), (8, .iload_n 1, 1), (9, .iastore, 1), (10, .aload_n 0, 1), (11, .dup, 1), (12, .getfield 132, 3), (15, .iconst 1, 1), (16, .iadd, 1), (17, .putfield 132, 3), (20, .return_, 1)]
theorem mX12_holds_0 : okd cX12_holds lmX12_holds_0 = true := by decide +kernel
theorem dX12_holds_0 : decode cX12_holds 0 = .ok (.aload_n 0, 1) := okd_at mX12_holds_0 0 rfl
theorem dX12_holds_1 : decode cX12_holds 1 = .ok (.getfield 52, 3) := okd_at mX12_holds_0 1 rfl
theorem dX12_holds_4 : decode cX12_holds 4 = .ok (.aload_n 0, 1) := okd_at mX12_holds_0 2 rfl
theorem dX12_holds_5 : decode cX12_holds 5 = .ok (.getfield 132, 3) := okd_at mX12_holds_0 3 rfl
theorem dX12_holds_8 : decode cX12_holds 8 = .ok (.iload_n 1, 1) := okd_at mX12_holds_0 4 rfl
theorem dX12_holds_9 : decode cX12_holds 9 = .ok (.iastore, 1) := okd_at mX12_holds_0 5 rfl
theorem dX12_holds_10 : decode cX12_holds 10 = .ok (.aload_n 0, 1) := okd_at mX12_holds_0 6 rfl
theorem dX12_holds_11 : decode cX12_holds 11 = .ok (.dup, 1) := okd_at mX12_holds_0 7 rfl
theorem dX12_holds_12 : decode cX12_holds 12 = .ok (.getfield 132, 3) := okd_at mX12_holds_0 8 rfl
theorem dX12_holds_15 : decode cX12_holds 15 = .ok (.iconst 1, 1) := okd_at mX12_holds_0 9 rfl
theorem dX12_holds_16 : decode cX12_holds 16 = .ok (.iadd, 1) := okd_at mX12_holds_0 10 rfl
theorem dX12_holds_17 : decode cX12_holds 17 = .ok (.putfield 132, 3) := okd_at mX12_holds_0 11 rfl
theorem dX12_holds_20 : decode cX12_holds 20 = .ok (.return_, 1) := okd_at mX12_holds_0 12 rfl
def lmX12_image_0 : List (Nat × Instr × Nat) := [(0, .aload_n 0, 1), (1, .iconst 1, 1), (2, .putfield 275, 3), (5, .iconst 0, 1), (6, .istore_n 1, 1), (7, .iload_n 1, 1), (8, .bipush 24, 2), (10, .if_icmp .ge 21, 3), (13, .aload_n 0, 1), (14, .getfield 31, 3), (17, .iload_n 1, 1), (18, .aload_n 0, 1), (19, .getfield 7, 3), (22, .iload_n 1, 1), (23, .iaload, 1), (24, .iastore, 1), (25, .iinc 1 1, 3), (28, .goto (-21), 3), (31, .iconst 0, 1), (32, .istore_n 1, 1), (33, .iload_n 1, 1), (34, .bipush 12, 2), (36, .if_icmp .ge 24, 3), (39, .aload_n 0, 1), (40, .getfield 31, 3), (43, .bipush 24, 2), (45, .iload_n 1, 1), (46, .iadd, 1), (47, .aload_n 0, 1), (48, .getfield 19, 3), (51, .iload_n 1, 1), (52, .iaload, 1), (53, .iastore, 1), (54, .iinc 1 1, 3), (57, .goto (-24), 3), (60, .aload_n 0, 1), (61, .getfield 34, 3), (64, .iconst 0, 1), (65, .aload_n 0, 1), (66, .getfield 97, 3), (69, .iastore, 1), (70, .aload_n 0, 1), (71, .getfield 34, 3), (74, .iconst 1, 1), (75, .aload_n 0, 1), (76, .getfield 90, 3), (79, .iastore, 1), (80, .aload_n 0, 1), (81, .getfield 34, 3), (84, .iconst 2, 1), (85, .aload_n 0, 1), (86, .getfield 103, 3), (89, .iastore, 1), (90, .aload_n 0, 1), (91, .getfield 97, 3), (94, .ireturn, 1)]
theorem mX12_image_0 : okd cX12_image lmX12_image_0 = true := by decide +kernel
theorem dX12_image_0 : decode cX12_image 0 = .ok (.aload_n 0, 1) := okd_at mX12_image_0 0 rfl
theorem dX12_image_1 : decode cX12_image 1 = .ok (.iconst 1, 1) := okd_at mX12_image_0 1 rfl
theorem dX12_image_2 : decode cX12_image 2 = .ok (.putfield 275, 3) := okd_at mX12_image_0 2 rfl
theorem dX12_image_5 : decode cX12_image 5 = .ok (.iconst 0, 1) := okd_at mX12_image_0 3 rfl
theorem dX12_image_6 : decode cX12_image 6 = .ok (.istore_n 1, 1) := okd_at mX12_image_0 4 rfl
theorem dX12_image_7 : decode cX12_image 7 = .ok (.iload_n 1, 1) := okd_at mX12_image_0 5 rfl
theorem dX12_image_8 : decode cX12_image 8 = .ok (.bipush 24, 2) := okd_at mX12_image_0 6 rfl
theorem dX12_image_10 : decode cX12_image 10 = .ok (.if_icmp .ge 21, 3) := okd_at mX12_image_0 7 rfl
theorem dX12_image_13 : decode cX12_image 13 = .ok (.aload_n 0, 1) := okd_at mX12_image_0 8 rfl
theorem dX12_image_14 : decode cX12_image 14 = .ok (.getfield 31, 3) := okd_at mX12_image_0 9 rfl
theorem dX12_image_17 : decode cX12_image 17 = .ok (.iload_n 1, 1) := okd_at mX12_image_0 10 rfl
theorem dX12_image_18 : decode cX12_image 18 = .ok (.aload_n 0, 1) := okd_at mX12_image_0 11 rfl
theorem dX12_image_19 : decode cX12_image 19 = .ok (.getfield 7, 3) := okd_at mX12_image_0 12 rfl
theorem dX12_image_22 : decode cX12_image 22 = .ok (.iload_n 1, 1) := okd_at mX12_image_0 13 rfl
theorem dX12_image_23 : decode cX12_image 23 = .ok (.iaload, 1) := okd_at mX12_image_0 14 rfl
theorem dX12_image_24 : decode cX12_image 24 = .ok (.iastore, 1) := okd_at mX12_image_0 15 rfl
theorem dX12_image_25 : decode cX12_image 25 = .ok (.iinc 1 1, 3) := okd_at mX12_image_0 16 rfl
theorem dX12_image_28 : decode cX12_image 28 = .ok (.goto (-21), 3) := okd_at mX12_image_0 17 rfl
theorem dX12_image_31 : decode cX12_image 31 = .ok (.iconst 0, 1) := okd_at mX12_image_0 18 rfl
theorem dX12_image_32 : decode cX12_image 32 = .ok (.istore_n 1, 1) := okd_at mX12_image_0 19 rfl
theorem dX12_image_33 : decode cX12_image 33 = .ok (.iload_n 1, 1) := okd_at mX12_image_0 20 rfl
theorem dX12_image_34 : decode cX12_image 34 = .ok (.bipush 12, 2) := okd_at mX12_image_0 21 rfl
theorem dX12_image_36 : decode cX12_image 36 = .ok (.if_icmp .ge 24, 3) := okd_at mX12_image_0 22 rfl
theorem dX12_image_39 : decode cX12_image 39 = .ok (.aload_n 0, 1) := okd_at mX12_image_0 23 rfl
theorem dX12_image_40 : decode cX12_image 40 = .ok (.getfield 31, 3) := okd_at mX12_image_0 24 rfl
theorem dX12_image_43 : decode cX12_image 43 = .ok (.bipush 24, 2) := okd_at mX12_image_0 25 rfl
theorem dX12_image_45 : decode cX12_image 45 = .ok (.iload_n 1, 1) := okd_at mX12_image_0 26 rfl
theorem dX12_image_46 : decode cX12_image 46 = .ok (.iadd, 1) := okd_at mX12_image_0 27 rfl
theorem dX12_image_47 : decode cX12_image 47 = .ok (.aload_n 0, 1) := okd_at mX12_image_0 28 rfl
theorem dX12_image_48 : decode cX12_image 48 = .ok (.getfield 19, 3) := okd_at mX12_image_0 29 rfl
theorem dX12_image_51 : decode cX12_image 51 = .ok (.iload_n 1, 1) := okd_at mX12_image_0 30 rfl
theorem dX12_image_52 : decode cX12_image 52 = .ok (.iaload, 1) := okd_at mX12_image_0 31 rfl
theorem dX12_image_53 : decode cX12_image 53 = .ok (.iastore, 1) := okd_at mX12_image_0 32 rfl
theorem dX12_image_54 : decode cX12_image 54 = .ok (.iinc 1 1, 3) := okd_at mX12_image_0 33 rfl
theorem dX12_image_57 : decode cX12_image 57 = .ok (.goto (-24), 3) := okd_at mX12_image_0 34 rfl
theorem dX12_image_60 : decode cX12_image 60 = .ok (.aload_n 0, 1) := okd_at mX12_image_0 35 rfl
theorem dX12_image_61 : decode cX12_image 61 = .ok (.getfield 34, 3) := okd_at mX12_image_0 36 rfl
theorem dX12_image_64 : decode cX12_image 64 = .ok (.iconst 0, 1) := okd_at mX12_image_0 37 rfl
theorem dX12_image_65 : decode cX12_image 65 = .ok (.aload_n 0, 1) := okd_at mX12_image_0 38 rfl
theorem dX12_image_66 : decode cX12_image 66 = .ok (.getfield 97, 3) := okd_at mX12_image_0 39 rfl
theorem dX12_image_69 : decode cX12_image 69 = .ok (.iastore, 1) := okd_at mX12_image_0 40 rfl
theorem dX12_image_70 : decode cX12_image 70 = .ok (.aload_n 0, 1) := okd_at mX12_image_0 41 rfl
theorem dX12_image_71 : decode cX12_image 71 = .ok (.getfield 34, 3) := okd_at mX12_image_0 42 rfl
theorem dX12_image_74 : decode cX12_image 74 = .ok (.iconst 1, 1) := okd_at mX12_image_0 43 rfl
theorem dX12_image_75 : decode cX12_image 75 = .ok (.aload_n 0, 1) := okd_at mX12_image_0 44 rfl
theorem dX12_image_76 : decode cX12_image 76 = .ok (.getfield 90, 3) := okd_at mX12_image_0 45 rfl
theorem dX12_image_79 : decode cX12_image 79 = .ok (.iastore, 1) := okd_at mX12_image_0 46 rfl
theorem dX12_image_80 : decode cX12_image 80 = .ok (.aload_n 0, 1) := okd_at mX12_image_0 47 rfl
theorem dX12_image_81 : decode cX12_image 81 = .ok (.getfield 34, 3) := okd_at mX12_image_0 48 rfl
theorem dX12_image_84 : decode cX12_image 84 = .ok (.iconst 2, 1) := okd_at mX12_image_0 49 rfl
theorem dX12_image_85 : decode cX12_image 85 = .ok (.aload_n 0, 1) := okd_at mX12_image_0 50 rfl
theorem dX12_image_86 : decode cX12_image 86 = .ok (.getfield 103, 3) := okd_at mX12_image_0 51 rfl
theorem dX12_image_89 : decode cX12_image 89 = .ok (.iastore, 1) := okd_at mX12_image_0 52 rfl
theorem dX12_image_90 : decode cX12_image 90 = .ok (.aload_n 0, 1) := okd_at mX12_image_0 53 rfl
theorem dX12_image_91 : decode cX12_image 91 = .ok (.getfield 97, 3) := okd_at mX12_image_0 54 rfl
theorem dX12_image_94 : decode cX12_image 94 = .ok (.ireturn, 1) := okd_at mX12_image_0 55 rfl
def lmX12_in_0 : List (Nat × Instr × Nat) := [(0, .iload_n 0, 1), (1, .iload_n 1, 1), (2, .if_icmp .lt 12, 3), (5, .iload_n 0, 1), (6, .iload_n 2, 1), (7, .if_icmp .gt 7, 3), (10, .iconst 1, 1), (11, .goto 4, 3), (14, .iconst 0, 1), (15, .ireturn, 1)]
theorem mX12_in_0 : okd cX12_in lmX12_in_0 = true := by decide +kernel
theorem dX12_in_0 : decode cX12_in 0 = .ok (.iload_n 0, 1) := okd_at mX12_in_0 0 rfl
theorem dX12_in_1 : decode cX12_in 1 = .ok (.iload_n 1, 1) := okd_at mX12_in_0 1 rfl
theorem dX12_in_2 : decode cX12_in 2 = .ok (.if_icmp .lt 12, 3) := okd_at mX12_in_0 2 rfl
theorem dX12_in_5 : decode cX12_in 5 = .ok (.iload_n 0, 1) := okd_at mX12_in_0 3 rfl
theorem dX12_in_6 : decode cX12_in 6 = .ok (.iload_n 2, 1) := okd_at mX12_in_0 4 rfl
theorem dX12_in_7 : decode cX12_in 7 = .ok (.if_icmp .gt 7, 3) := okd_at mX12_in_0 5 rfl
theorem dX12_in_10 : decode cX12_in 10 = .ok (.iconst 1, 1) := okd_at mX12_in_0 6 rfl
theorem dX12_in_11 : decode cX12_in 11 = .ok (.goto 4, 3) := okd_at mX12_in_0 7 rfl
theorem dX12_in_14 : decode cX12_in 14 = .ok (.iconst 0, 1) := okd_at mX12_in_0 8 rfl
theorem dX12_in_15 : decode cX12_in 15 = .ok (.ireturn, 1) := okd_at mX12_in_0 9 rfl
def lmX12_isByte_0 : List (Nat × Instr × Nat) := [(0, .iload_n 0, 1), (1, .iconst 0, 1), (2, .sipush 255, 3), (5, .invokestatic 93, 3), (8, .ireturn, 1)]
theorem mX12_isByte_0 : okd cX12_isByte lmX12_isByte_0 = true := by decide +kernel
theorem dX12_isByte_0 : decode cX12_isByte 0 = .ok (.iload_n 0, 1) := okd_at mX12_isByte_0 0 rfl
theorem dX12_isByte_1 : decode cX12_isByte 1 = .ok (.iconst 0, 1) := okd_at mX12_isByte_0 1 rfl
theorem dX12_isByte_2 : decode cX12_isByte 2 = .ok (.sipush 255, 3) := okd_at mX12_isByte_0 2 rfl
theorem dX12_isByte_5 : decode cX12_isByte 5 = .ok (.invokestatic 93, 3) := okd_at mX12_isByte_0 3 rfl
theorem dX12_isByte_8 : decode cX12_isByte 8 = .ok (.ireturn, 1) := okd_at mX12_isByte_0 4 rfl
def lmX12_isChild_0 : List (Nat × Instr × Nat) := [(0, .iload_n 1, 1), (1, .iconst 0, 1), (2, .aload_n 0, 1), (3, .getfield 90, 3), (6, .iconst 1, 1), (7, .isub, 1), (8, .invokestatic 93, 3), (11, .ireturn, 1)]
theorem mX12_isChild_0 : okd cX12_isChild lmX12_isChild_0 = true := by decide +kernel
theorem dX12_isChild_0 : decode cX12_isChild 0 = .ok (.iload_n 1, 1) := okd_at mX12_isChild_0 0 rfl
theorem dX12_isChild_1 : decode cX12_isChild 1 = .ok (.iconst 0, 1) := okd_at mX12_isChild_0 1 rfl
theorem dX12_isChild_2 : decode cX12_isChild 2 = .ok (.aload_n 0, 1) := okd_at mX12_isChild_0 2 rfl
theorem dX12_isChild_3 : decode cX12_isChild 3 = .ok (.getfield 90, 3) := okd_at mX12_isChild_0 3 rfl
theorem dX12_isChild_6 : decode cX12_isChild 6 = .ok (.iconst 1, 1) := okd_at mX12_isChild_0 4 rfl
theorem dX12_isChild_7 : decode cX12_isChild 7 = .ok (.isub, 1) := okd_at mX12_isChild_0 5 rfl
theorem dX12_isChild_8 : decode cX12_isChild 8 = .ok (.invokestatic 93, 3) := okd_at mX12_isChild_0 6 rfl
theorem dX12_isChild_11 : decode cX12_isChild 11 = .ok (.ireturn, 1) := okd_at mX12_isChild_0 7 rfl
def lmX12_isRace_0 : List (Nat × Instr × Nat) := [(0, .iload_n 1, 1), (1, .iconst 0, 1), (2, .aload_n 0, 1), (3, .getfield 97, 3), (6, .iconst 1, 1), (7, .isub, 1), (8, .invokestatic 93, 3), (11, .ireturn, 1)]
theorem mX12_isRace_0 : okd cX12_isRace lmX12_isRace_0 = true := by decide +kernel
theorem dX12_isRace_0 : decode cX12_isRace 0 = .ok (.iload_n 1, 1) := okd_at mX12_isRace_0 0 rfl
theorem dX12_isRace_1 : decode cX12_isRace 1 = .ok (.iconst 0, 1) := okd_at mX12_isRace_0 1 rfl
theorem dX12_isRace_2 : decode cX12_isRace 2 = .ok (.aload_n 0, 1) := okd_at mX12_isRace_0 2 rfl
theorem dX12_isRace_3 : decode cX12_isRace 3 = .ok (.getfield 97, 3) := okd_at mX12_isRace_0 3 rfl
theorem dX12_isRace_6 : decode cX12_isRace 6 = .ok (.iconst 1, 1) := okd_at mX12_isRace_0 4 rfl
theorem dX12_isRace_7 : decode cX12_isRace 7 = .ok (.isub, 1) := okd_at mX12_isRace_0 5 rfl
theorem dX12_isRace_8 : decode cX12_isRace 8 = .ok (.invokestatic 93, 3) := okd_at mX12_isRace_0 6 rfl
theorem dX12_isRace_11 : decode cX12_isRace 11 = .ok (.ireturn, 1) := okd_at mX12_isRace_0 7 rfl
def lmX12_isUnder_0 : List (Nat × Instr × Nat) := [(0, .iload_n 1, 1), (1, .ifCond .eq 28, 3), (4, .iload_n 0, 1), (5, .iload_n 1, 1), (6, .if_icmp .eq 23, 3), (9, .iload_n 1, 1), (10, .iconst 1, 1), (11, .if_icmp .ne 8, 3), (14, .iload_n 0, 1), (15, .iconst 3, 1), (16, .if_icmp .eq 13, 3), (19, .iload_n 1, 1), (20, .iconst 2, 1), (21, .if_icmp .ne 12, 3), (24, .iload_n 0, 1), (25, .iconst 4, 1), (26, .if_icmp .ne 7, 3), (29, .iconst 1, 1), (30, .goto 4, 3), (33, .iconst 0, 1), (34, .ireturn, 1)]
theorem mX12_isUnder_0 : okd cX12_isUnder lmX12_isUnder_0 = true := by decide +kernel
theorem dX12_isUnder_0 : decode cX12_isUnder 0 = .ok (.iload_n 1, 1) := okd_at mX12_isUnder_0 0 rfl
theorem dX12_isUnder_1 : decode cX12_isUnder 1 = .ok (.ifCond .eq 28, 3) := okd_at mX12_isUnder_0 1 rfl
theorem dX12_isUnder_4 : decode cX12_isUnder 4 = .ok (.iload_n 0, 1) := okd_at mX12_isUnder_0 2 rfl
theorem dX12_isUnder_5 : decode cX12_isUnder 5 = .ok (.iload_n 1, 1) := okd_at mX12_isUnder_0 3 rfl
theorem dX12_isUnder_6 : decode cX12_isUnder 6 = .ok (.if_icmp .eq 23, 3) := okd_at mX12_isUnder_0 4 rfl
theorem dX12_isUnder_9 : decode cX12_isUnder 9 = .ok (.iload_n 1, 1) := okd_at mX12_isUnder_0 5 rfl
theorem dX12_isUnder_10 : decode cX12_isUnder 10 = .ok (.iconst 1, 1) := okd_at mX12_isUnder_0 6 rfl
theorem dX12_isUnder_11 : decode cX12_isUnder 11 = .ok (.if_icmp .ne 8, 3) := okd_at mX12_isUnder_0 7 rfl
theorem dX12_isUnder_14 : decode cX12_isUnder 14 = .ok (.iload_n 0, 1) := okd_at mX12_isUnder_0 8 rfl
theorem dX12_isUnder_15 : decode cX12_isUnder 15 = .ok (.iconst 3, 1) := okd_at mX12_isUnder_0 9 rfl
theorem dX12_isUnder_16 : decode cX12_isUnder 16 = .ok (.if_icmp .eq 13, 3) := okd_at mX12_isUnder_0 10 rfl
theorem dX12_isUnder_19 : decode cX12_isUnder 19 = .ok (.iload_n 1, 1) := okd_at mX12_isUnder_0 11 rfl
theorem dX12_isUnder_20 : decode cX12_isUnder 20 = .ok (.iconst 2, 1) := okd_at mX12_isUnder_0 12 rfl
theorem dX12_isUnder_21 : decode cX12_isUnder 21 = .ok (.if_icmp .ne 12, 3) := okd_at mX12_isUnder_0 13 rfl
theorem dX12_isUnder_24 : decode cX12_isUnder 24 = .ok (.iload_n 0, 1) := okd_at mX12_isUnder_0 14 rfl
theorem dX12_isUnder_25 : decode cX12_isUnder 25 = .ok (.iconst 4, 1) := okd_at mX12_isUnder_0 15 rfl
theorem dX12_isUnder_26 : decode cX12_isUnder 26 = .ok (.if_icmp .ne 7, 3) := okd_at mX12_isUnder_0 16 rfl
theorem dX12_isUnder_29 : decode cX12_isUnder 29 = .ok (.iconst 1, 1) := okd_at mX12_isUnder_0 17 rfl
theorem dX12_isUnder_30 : decode cX12_isUnder 30 = .ok (.goto 4, 3) := okd_at mX12_isUnder_0 18 rfl
theorem dX12_isUnder_33 : decode cX12_isUnder 33 = .ok (.iconst 0, 1) := okd_at mX12_isUnder_0 19 rfl
theorem dX12_isUnder_34 : decode cX12_isUnder 34 = .ok (.ireturn, 1) := okd_at mX12_isUnder_0 20 rfl
def lmX12_judge_0 : List (Nat × Instr × Nat) := [(0, .aload_n 0, 1), (1, .iload_n 1, 1), (2, .invokevirtual 253, 3), (5, .istore_n 2, 1), (6, .iload_n 2, 1), (7, .ifCond .ne 11, 3), (10, .aload_n 0, 1), (11, .iload_n 1, 1), (12, .invokevirtual 256, 3), (15, .goto 4, 3), (18, .iload_n 2, 1), (19, .ireturn, 1)]
theorem mX12_judge_0 : okd cX12_judge lmX12_judge_0 = true := by decide +kernel
theorem dX12_judge_0 : decode cX12_judge 0 = .ok (.aload_n 0, 1) := okd_at mX12_judge_0 0 rfl
theorem dX12_judge_1 : decode cX12_judge 1 = .ok (.iload_n 1, 1) := okd_at mX12_judge_0 1 rfl
theorem dX12_judge_2 : decode cX12_judge 2 = .ok (.invokevirtual 253, 3) := okd_at mX12_judge_0 2 rfl
theorem dX12_judge_5 : decode cX12_judge 5 = .ok (.istore_n 2, 1) := okd_at mX12_judge_0 3 rfl
theorem dX12_judge_6 : decode cX12_judge 6 = .ok (.iload_n 2, 1) := okd_at mX12_judge_0 4 rfl
theorem dX12_judge_7 : decode cX12_judge 7 = .ok (.ifCond .ne 11, 3) := okd_at mX12_judge_0 5 rfl
theorem dX12_judge_10 : decode cX12_judge 10 = .ok (.aload_n 0, 1) := okd_at mX12_judge_0 6 rfl
theorem dX12_judge_11 : decode cX12_judge 11 = .ok (.iload_n 1, 1) := okd_at mX12_judge_0 7 rfl
theorem dX12_judge_12 : decode cX12_judge 12 = .ok (.invokevirtual 256, 3) := okd_at mX12_judge_0 8 rfl
theorem dX12_judge_15 : decode cX12_judge 15 = .ok (.goto 4, 3) := okd_at mX12_judge_0 9 rfl
theorem dX12_judge_18 : decode cX12_judge 18 = .ok (.iload_n 2, 1) := okd_at mX12_judge_0 10 rfl
theorem dX12_judge_19 : decode cX12_judge 19 = .ok (.ireturn, 1) := okd_at mX12_judge_0 11 rfl
def lmX12_kinds_0 : List (Nat × Instr × Nat) := [(0, .aload_n 0, 1), (1, .iload_n 1, 1), (2, .invokevirtual 253, 3), (5, .istore 4, 2), (7, .iload 4, 2), (9, .ifCond .eq 6, 3), (12, .iload 4, 2), (14, .ireturn, 1), (15, .aload_n 0, 1), (16, .iload_n 2, 1), (17, .invokevirtual 182, 3), (20, .ifCond .ne 6, 3), (23, .bipush (-6), 2), (25, .ireturn, 1), (26, .iload_n 3, 1), (27, .iconst 0, 1), (28, .iconst 2, 1), (29, .invokestatic 93, 3), (32, .ifCond .ne 6, 3), (35, .bipush (-7), 2), (37, .ireturn, 1), (38, .aload_n 0, 1), (39, .getfield 13, 3), (42, .iload_n 2, 1), (43, .iaload, 1), (44, .istore 5, 2), (46, .aload_n 0, 1), (47, .getfield 16, 3), (50, .iload_n 2, 1), (51, .iaload, 1), (52, .istore 6, 2), (54, .aload_n 0, 1), (55, .getfield 19, 3), (58, .iconst 2, 1), (59, .iload_n 2, 1), (60, .imul, 1), (61, .iconst 1, 1), (62, .iadd, 1), (63, .iaload, 1), (64, .istore 7, 2), (66, .iconst 0, 1), (67, .istore 8, 2), (69, .iconst 0, 1), (70, .istore 9, 2), (72, .iload 9, 2), (74, .iload_n 3, 1), (75, .ifCond .ne 8, 3), (78, .bipush 6, 2), (80, .goto 14, 3), (83, .iload_n 3, 1), (84, .iconst 1, 1), (85, .if_icmp .ne 8, 3), (88, .bipush 10, 2), (90, .goto 4, 3), (93, .iconst 4, 1), (94, .if_icmp .ge 88, 3), (97, .aload_n 0, 1), (98, .getfield 13, 3), (101, .iload_n 2, 1), (102, .iload_n 3, 1)]
theorem mX12_kinds_0 : okd cX12_kinds lmX12_kinds_0 = true := by decide +kernel
theorem dX12_kinds_0 : decode cX12_kinds 0 = .ok (.aload_n 0, 1) := okd_at mX12_kinds_0 0 rfl
theorem dX12_kinds_1 : decode cX12_kinds 1 = .ok (.iload_n 1, 1) := okd_at mX12_kinds_0 1 rfl
theorem dX12_kinds_2 : decode cX12_kinds 2 = .ok (.invokevirtual 253, 3) := okd_at mX12_kinds_0 2 rfl
theorem dX12_kinds_5 : decode cX12_kinds 5 = .ok (.istore 4, 2) := okd_at mX12_kinds_0 3 rfl
theorem dX12_kinds_7 : decode cX12_kinds 7 = .ok (.iload 4, 2) := okd_at mX12_kinds_0 4 rfl
theorem dX12_kinds_9 : decode cX12_kinds 9 = .ok (.ifCond .eq 6, 3) := okd_at mX12_kinds_0 5 rfl
theorem dX12_kinds_12 : decode cX12_kinds 12 = .ok (.iload 4, 2) := okd_at mX12_kinds_0 6 rfl
theorem dX12_kinds_14 : decode cX12_kinds 14 = .ok (.ireturn, 1) := okd_at mX12_kinds_0 7 rfl
theorem dX12_kinds_15 : decode cX12_kinds 15 = .ok (.aload_n 0, 1) := okd_at mX12_kinds_0 8 rfl
theorem dX12_kinds_16 : decode cX12_kinds 16 = .ok (.iload_n 2, 1) := okd_at mX12_kinds_0 9 rfl
theorem dX12_kinds_17 : decode cX12_kinds 17 = .ok (.invokevirtual 182, 3) := okd_at mX12_kinds_0 10 rfl
theorem dX12_kinds_20 : decode cX12_kinds 20 = .ok (.ifCond .ne 6, 3) := okd_at mX12_kinds_0 11 rfl
theorem dX12_kinds_23 : decode cX12_kinds 23 = .ok (.bipush (-6), 2) := okd_at mX12_kinds_0 12 rfl
theorem dX12_kinds_25 : decode cX12_kinds 25 = .ok (.ireturn, 1) := okd_at mX12_kinds_0 13 rfl
theorem dX12_kinds_26 : decode cX12_kinds 26 = .ok (.iload_n 3, 1) := okd_at mX12_kinds_0 14 rfl
theorem dX12_kinds_27 : decode cX12_kinds 27 = .ok (.iconst 0, 1) := okd_at mX12_kinds_0 15 rfl
theorem dX12_kinds_28 : decode cX12_kinds 28 = .ok (.iconst 2, 1) := okd_at mX12_kinds_0 16 rfl
theorem dX12_kinds_29 : decode cX12_kinds 29 = .ok (.invokestatic 93, 3) := okd_at mX12_kinds_0 17 rfl
theorem dX12_kinds_32 : decode cX12_kinds 32 = .ok (.ifCond .ne 6, 3) := okd_at mX12_kinds_0 18 rfl
theorem dX12_kinds_35 : decode cX12_kinds 35 = .ok (.bipush (-7), 2) := okd_at mX12_kinds_0 19 rfl
theorem dX12_kinds_37 : decode cX12_kinds 37 = .ok (.ireturn, 1) := okd_at mX12_kinds_0 20 rfl
theorem dX12_kinds_38 : decode cX12_kinds 38 = .ok (.aload_n 0, 1) := okd_at mX12_kinds_0 21 rfl
theorem dX12_kinds_39 : decode cX12_kinds 39 = .ok (.getfield 13, 3) := okd_at mX12_kinds_0 22 rfl
theorem dX12_kinds_42 : decode cX12_kinds 42 = .ok (.iload_n 2, 1) := okd_at mX12_kinds_0 23 rfl
theorem dX12_kinds_43 : decode cX12_kinds 43 = .ok (.iaload, 1) := okd_at mX12_kinds_0 24 rfl
theorem dX12_kinds_44 : decode cX12_kinds 44 = .ok (.istore 5, 2) := okd_at mX12_kinds_0 25 rfl
theorem dX12_kinds_46 : decode cX12_kinds 46 = .ok (.aload_n 0, 1) := okd_at mX12_kinds_0 26 rfl
theorem dX12_kinds_47 : decode cX12_kinds 47 = .ok (.getfield 16, 3) := okd_at mX12_kinds_0 27 rfl
theorem dX12_kinds_50 : decode cX12_kinds 50 = .ok (.iload_n 2, 1) := okd_at mX12_kinds_0 28 rfl
theorem dX12_kinds_51 : decode cX12_kinds 51 = .ok (.iaload, 1) := okd_at mX12_kinds_0 29 rfl
theorem dX12_kinds_52 : decode cX12_kinds 52 = .ok (.istore 6, 2) := okd_at mX12_kinds_0 30 rfl
theorem dX12_kinds_54 : decode cX12_kinds 54 = .ok (.aload_n 0, 1) := okd_at mX12_kinds_0 31 rfl
theorem dX12_kinds_55 : decode cX12_kinds 55 = .ok (.getfield 19, 3) := okd_at mX12_kinds_0 32 rfl
theorem dX12_kinds_58 : decode cX12_kinds 58 = .ok (.iconst 2, 1) := okd_at mX12_kinds_0 33 rfl
theorem dX12_kinds_59 : decode cX12_kinds 59 = .ok (.iload_n 2, 1) := okd_at mX12_kinds_0 34 rfl
theorem dX12_kinds_60 : decode cX12_kinds 60 = .ok (.imul, 1) := okd_at mX12_kinds_0 35 rfl
theorem dX12_kinds_61 : decode cX12_kinds 61 = .ok (.iconst 1, 1) := okd_at mX12_kinds_0 36 rfl
theorem dX12_kinds_62 : decode cX12_kinds 62 = .ok (.iadd, 1) := okd_at mX12_kinds_0 37 rfl
theorem dX12_kinds_63 : decode cX12_kinds 63 = .ok (.iaload, 1) := okd_at mX12_kinds_0 38 rfl
theorem dX12_kinds_64 : decode cX12_kinds 64 = .ok (.istore 7, 2) := okd_at mX12_kinds_0 39 rfl
theorem dX12_kinds_66 : decode cX12_kinds 66 = .ok (.iconst 0, 1) := okd_at mX12_kinds_0 40 rfl
theorem dX12_kinds_67 : decode cX12_kinds 67 = .ok (.istore 8, 2) := okd_at mX12_kinds_0 41 rfl
theorem dX12_kinds_69 : decode cX12_kinds 69 = .ok (.iconst 0, 1) := okd_at mX12_kinds_0 42 rfl
theorem dX12_kinds_70 : decode cX12_kinds 70 = .ok (.istore 9, 2) := okd_at mX12_kinds_0 43 rfl
theorem dX12_kinds_72 : decode cX12_kinds 72 = .ok (.iload 9, 2) := okd_at mX12_kinds_0 44 rfl
theorem dX12_kinds_74 : decode cX12_kinds 74 = .ok (.iload_n 3, 1) := okd_at mX12_kinds_0 45 rfl
theorem dX12_kinds_75 : decode cX12_kinds 75 = .ok (.ifCond .ne 8, 3) := okd_at mX12_kinds_0 46 rfl
theorem dX12_kinds_78 : decode cX12_kinds 78 = .ok (.bipush 6, 2) := okd_at mX12_kinds_0 47 rfl
theorem dX12_kinds_80 : decode cX12_kinds 80 = .ok (.goto 14, 3) := okd_at mX12_kinds_0 48 rfl
theorem dX12_kinds_83 : decode cX12_kinds 83 = .ok (.iload_n 3, 1) := okd_at mX12_kinds_0 49 rfl
theorem dX12_kinds_84 : decode cX12_kinds 84 = .ok (.iconst 1, 1) := okd_at mX12_kinds_0 50 rfl
theorem dX12_kinds_85 : decode cX12_kinds 85 = .ok (.if_icmp .ne 8, 3) := okd_at mX12_kinds_0 51 rfl
theorem dX12_kinds_88 : decode cX12_kinds 88 = .ok (.bipush 10, 2) := okd_at mX12_kinds_0 52 rfl
theorem dX12_kinds_90 : decode cX12_kinds 90 = .ok (.goto 4, 3) := okd_at mX12_kinds_0 53 rfl
theorem dX12_kinds_93 : decode cX12_kinds 93 = .ok (.iconst 4, 1) := okd_at mX12_kinds_0 54 rfl
theorem dX12_kinds_94 : decode cX12_kinds 94 = .ok (.if_icmp .ge 88, 3) := okd_at mX12_kinds_0 55 rfl
theorem dX12_kinds_97 : decode cX12_kinds 97 = .ok (.aload_n 0, 1) := okd_at mX12_kinds_0 56 rfl
theorem dX12_kinds_98 : decode cX12_kinds 98 = .ok (.getfield 13, 3) := okd_at mX12_kinds_0 57 rfl
theorem dX12_kinds_101 : decode cX12_kinds 101 = .ok (.iload_n 2, 1) := okd_at mX12_kinds_0 58 rfl
theorem dX12_kinds_102 : decode cX12_kinds 102 = .ok (.iload_n 3, 1) := okd_at mX12_kinds_0 59 rfl
def lmX12_kinds_1 : List (Nat × Instr × Nat) := [(103, .ifCond .ne 8, 3), (106, .iload 9, 2), (108, .goto 5, 3), (111, .iload 5, 2), (113, .iastore, 1), (114, .aload_n 0, 1), (115, .getfield 16, 3), (118, .iload_n 2, 1), (119, .iload_n 3, 1), (120, .iconst 1, 1), (121, .if_icmp .ne 8, 3), (124, .iload 9, 2), (126, .goto 5, 3), (129, .iload 6, 2), (131, .iastore, 1), (132, .aload_n 0, 1), (133, .getfield 19, 3), (136, .iconst 2, 1), (137, .iload_n 2, 1), (138, .imul, 1), (139, .iconst 1, 1), (140, .iadd, 1), (141, .iload_n 3, 1), (142, .iconst 2, 1), (143, .if_icmp .ne 8, 3), (146, .iload 9, 2), (148, .goto 5, 3), (151, .iload 7, 2), (153, .iastore, 1), (154, .iload 8, 2), (156, .aload_n 0, 1), (157, .iload_n 1, 1), (158, .invokevirtual 256, 3), (161, .iconst (-1), 1), (162, .if_icmp .ne 10, 3), (165, .iconst 1, 1), (166, .iload 9, 2), (168, .ishl, 1), (169, .goto 4, 3), (172, .iconst 0, 1), (173, .ior, 1), (174, .istore 8, 2), (176, .iinc 9 1, 3), (179, .goto (-107), 3), (182, .aload_n 0, 1), (183, .getfield 13, 3), (186, .iload_n 2, 1), (187, .iload 5, 2), (189, .iastore, 1), (190, .aload_n 0, 1), (191, .getfield 16, 3), (194, .iload_n 2, 1), (195, .iload 6, 2), (197, .iastore, 1), (198, .aload_n 0, 1), (199, .getfield 19, 3), (202, .iconst 2, 1), (203, .iload_n 2, 1), (204, .imul, 1), (205, .iconst 1, 1)]
theorem mX12_kinds_1 : okd cX12_kinds lmX12_kinds_1 = true := by decide +kernel
theorem dX12_kinds_103 : decode cX12_kinds 103 = .ok (.ifCond .ne 8, 3) := okd_at mX12_kinds_1 0 rfl
theorem dX12_kinds_106 : decode cX12_kinds 106 = .ok (.iload 9, 2) := okd_at mX12_kinds_1 1 rfl
theorem dX12_kinds_108 : decode cX12_kinds 108 = .ok (.goto 5, 3) := okd_at mX12_kinds_1 2 rfl
theorem dX12_kinds_111 : decode cX12_kinds 111 = .ok (.iload 5, 2) := okd_at mX12_kinds_1 3 rfl
theorem dX12_kinds_113 : decode cX12_kinds 113 = .ok (.iastore, 1) := okd_at mX12_kinds_1 4 rfl
theorem dX12_kinds_114 : decode cX12_kinds 114 = .ok (.aload_n 0, 1) := okd_at mX12_kinds_1 5 rfl
theorem dX12_kinds_115 : decode cX12_kinds 115 = .ok (.getfield 16, 3) := okd_at mX12_kinds_1 6 rfl
theorem dX12_kinds_118 : decode cX12_kinds 118 = .ok (.iload_n 2, 1) := okd_at mX12_kinds_1 7 rfl
theorem dX12_kinds_119 : decode cX12_kinds 119 = .ok (.iload_n 3, 1) := okd_at mX12_kinds_1 8 rfl
theorem dX12_kinds_120 : decode cX12_kinds 120 = .ok (.iconst 1, 1) := okd_at mX12_kinds_1 9 rfl
theorem dX12_kinds_121 : decode cX12_kinds 121 = .ok (.if_icmp .ne 8, 3) := okd_at mX12_kinds_1 10 rfl
theorem dX12_kinds_124 : decode cX12_kinds 124 = .ok (.iload 9, 2) := okd_at mX12_kinds_1 11 rfl
theorem dX12_kinds_126 : decode cX12_kinds 126 = .ok (.goto 5, 3) := okd_at mX12_kinds_1 12 rfl
theorem dX12_kinds_129 : decode cX12_kinds 129 = .ok (.iload 6, 2) := okd_at mX12_kinds_1 13 rfl
theorem dX12_kinds_131 : decode cX12_kinds 131 = .ok (.iastore, 1) := okd_at mX12_kinds_1 14 rfl
theorem dX12_kinds_132 : decode cX12_kinds 132 = .ok (.aload_n 0, 1) := okd_at mX12_kinds_1 15 rfl
theorem dX12_kinds_133 : decode cX12_kinds 133 = .ok (.getfield 19, 3) := okd_at mX12_kinds_1 16 rfl
theorem dX12_kinds_136 : decode cX12_kinds 136 = .ok (.iconst 2, 1) := okd_at mX12_kinds_1 17 rfl
theorem dX12_kinds_137 : decode cX12_kinds 137 = .ok (.iload_n 2, 1) := okd_at mX12_kinds_1 18 rfl
theorem dX12_kinds_138 : decode cX12_kinds 138 = .ok (.imul, 1) := okd_at mX12_kinds_1 19 rfl
theorem dX12_kinds_139 : decode cX12_kinds 139 = .ok (.iconst 1, 1) := okd_at mX12_kinds_1 20 rfl
theorem dX12_kinds_140 : decode cX12_kinds 140 = .ok (.iadd, 1) := okd_at mX12_kinds_1 21 rfl
theorem dX12_kinds_141 : decode cX12_kinds 141 = .ok (.iload_n 3, 1) := okd_at mX12_kinds_1 22 rfl
theorem dX12_kinds_142 : decode cX12_kinds 142 = .ok (.iconst 2, 1) := okd_at mX12_kinds_1 23 rfl
theorem dX12_kinds_143 : decode cX12_kinds 143 = .ok (.if_icmp .ne 8, 3) := okd_at mX12_kinds_1 24 rfl
theorem dX12_kinds_146 : decode cX12_kinds 146 = .ok (.iload 9, 2) := okd_at mX12_kinds_1 25 rfl
theorem dX12_kinds_148 : decode cX12_kinds 148 = .ok (.goto 5, 3) := okd_at mX12_kinds_1 26 rfl
theorem dX12_kinds_151 : decode cX12_kinds 151 = .ok (.iload 7, 2) := okd_at mX12_kinds_1 27 rfl
theorem dX12_kinds_153 : decode cX12_kinds 153 = .ok (.iastore, 1) := okd_at mX12_kinds_1 28 rfl
theorem dX12_kinds_154 : decode cX12_kinds 154 = .ok (.iload 8, 2) := okd_at mX12_kinds_1 29 rfl
theorem dX12_kinds_156 : decode cX12_kinds 156 = .ok (.aload_n 0, 1) := okd_at mX12_kinds_1 30 rfl
theorem dX12_kinds_157 : decode cX12_kinds 157 = .ok (.iload_n 1, 1) := okd_at mX12_kinds_1 31 rfl
theorem dX12_kinds_158 : decode cX12_kinds 158 = .ok (.invokevirtual 256, 3) := okd_at mX12_kinds_1 32 rfl
theorem dX12_kinds_161 : decode cX12_kinds 161 = .ok (.iconst (-1), 1) := okd_at mX12_kinds_1 33 rfl
theorem dX12_kinds_162 : decode cX12_kinds 162 = .ok (.if_icmp .ne 10, 3) := okd_at mX12_kinds_1 34 rfl
theorem dX12_kinds_165 : decode cX12_kinds 165 = .ok (.iconst 1, 1) := okd_at mX12_kinds_1 35 rfl
theorem dX12_kinds_166 : decode cX12_kinds 166 = .ok (.iload 9, 2) := okd_at mX12_kinds_1 36 rfl
theorem dX12_kinds_168 : decode cX12_kinds 168 = .ok (.ishl, 1) := okd_at mX12_kinds_1 37 rfl
theorem dX12_kinds_169 : decode cX12_kinds 169 = .ok (.goto 4, 3) := okd_at mX12_kinds_1 38 rfl
theorem dX12_kinds_172 : decode cX12_kinds 172 = .ok (.iconst 0, 1) := okd_at mX12_kinds_1 39 rfl
theorem dX12_kinds_173 : decode cX12_kinds 173 = .ok (.ior, 1) := okd_at mX12_kinds_1 40 rfl
theorem dX12_kinds_174 : decode cX12_kinds 174 = .ok (.istore 8, 2) := okd_at mX12_kinds_1 41 rfl
theorem dX12_kinds_176 : decode cX12_kinds 176 = .ok (.iinc 9 1, 3) := okd_at mX12_kinds_1 42 rfl
theorem dX12_kinds_179 : decode cX12_kinds 179 = .ok (.goto (-107), 3) := okd_at mX12_kinds_1 43 rfl
theorem dX12_kinds_182 : decode cX12_kinds 182 = .ok (.aload_n 0, 1) := okd_at mX12_kinds_1 44 rfl
theorem dX12_kinds_183 : decode cX12_kinds 183 = .ok (.getfield 13, 3) := okd_at mX12_kinds_1 45 rfl
theorem dX12_kinds_186 : decode cX12_kinds 186 = .ok (.iload_n 2, 1) := okd_at mX12_kinds_1 46 rfl
theorem dX12_kinds_187 : decode cX12_kinds 187 = .ok (.iload 5, 2) := okd_at mX12_kinds_1 47 rfl
theorem dX12_kinds_189 : decode cX12_kinds 189 = .ok (.iastore, 1) := okd_at mX12_kinds_1 48 rfl
theorem dX12_kinds_190 : decode cX12_kinds 190 = .ok (.aload_n 0, 1) := okd_at mX12_kinds_1 49 rfl
theorem dX12_kinds_191 : decode cX12_kinds 191 = .ok (.getfield 16, 3) := okd_at mX12_kinds_1 50 rfl
theorem dX12_kinds_194 : decode cX12_kinds 194 = .ok (.iload_n 2, 1) := okd_at mX12_kinds_1 51 rfl
theorem dX12_kinds_195 : decode cX12_kinds 195 = .ok (.iload 6, 2) := okd_at mX12_kinds_1 52 rfl
theorem dX12_kinds_197 : decode cX12_kinds 197 = .ok (.iastore, 1) := okd_at mX12_kinds_1 53 rfl
theorem dX12_kinds_198 : decode cX12_kinds 198 = .ok (.aload_n 0, 1) := okd_at mX12_kinds_1 54 rfl
theorem dX12_kinds_199 : decode cX12_kinds 199 = .ok (.getfield 19, 3) := okd_at mX12_kinds_1 55 rfl
theorem dX12_kinds_202 : decode cX12_kinds 202 = .ok (.iconst 2, 1) := okd_at mX12_kinds_1 56 rfl
theorem dX12_kinds_203 : decode cX12_kinds 203 = .ok (.iload_n 2, 1) := okd_at mX12_kinds_1 57 rfl
theorem dX12_kinds_204 : decode cX12_kinds 204 = .ok (.imul, 1) := okd_at mX12_kinds_1 58 rfl
theorem dX12_kinds_205 : decode cX12_kinds 205 = .ok (.iconst 1, 1) := okd_at mX12_kinds_1 59 rfl
def lmX12_kinds_2 : List (Nat × Instr × Nat) := [(206, .iadd, 1), (207, .iload 7, 2), (209, .iastore, 1), (210, .iload 8, 2), (212, .ireturn, 1)]
theorem mX12_kinds_2 : okd cX12_kinds lmX12_kinds_2 = true := by decide +kernel
theorem dX12_kinds_206 : decode cX12_kinds 206 = .ok (.iadd, 1) := okd_at mX12_kinds_2 0 rfl
theorem dX12_kinds_207 : decode cX12_kinds 207 = .ok (.iload 7, 2) := okd_at mX12_kinds_2 1 rfl
theorem dX12_kinds_209 : decode cX12_kinds 209 = .ok (.iastore, 1) := okd_at mX12_kinds_2 2 rfl
theorem dX12_kinds_210 : decode cX12_kinds 210 = .ok (.iload 8, 2) := okd_at mX12_kinds_2 3 rfl
theorem dX12_kinds_212 : decode cX12_kinds 212 = .ok (.ireturn, 1) := okd_at mX12_kinds_2 4 rfl
def lmX12_laws_0 : List (Nat × Instr × Nat) := [(0, .aload_n 0, 1), (1, .iload_n 1, 1), (2, .invokevirtual 253, 3), (5, .istore_n 2, 1), (6, .iload_n 2, 1), (7, .ifCond .eq 5, 3), (10, .iload_n 2, 1), (11, .ireturn, 1), (12, .aload_n 0, 1), (13, .getfield 103, 3), (16, .istore_n 3, 1), (17, .iconst 0, 1), (18, .istore 4, 2), (20, .iconst 0, 1), (21, .istore 5, 2), (23, .iload 5, 2), (25, .aload_n 0, 1), (26, .getfield 100, 3), (29, .if_icmp .ge 37, 3), (32, .aload_n 0, 1), (33, .iload 5, 2), (35, .putfield 103, 3), (38, .iload 4, 2), (40, .aload_n 0, 1), (41, .iload_n 1, 1), (42, .invokevirtual 256, 3), (45, .iconst (-1), 1), (46, .if_icmp .ne 10, 3), (49, .iconst 1, 1), (50, .iload 5, 2), (52, .ishl, 1), (53, .goto 4, 3), (56, .iconst 0, 1), (57, .ior, 1), (58, .istore 4, 2), (60, .iinc 5 1, 3), (63, .goto (-40), 3), (66, .aload_n 0, 1), (67, .iload_n 3, 1), (68, .putfield 103, 3), (71, .iload 4, 2), (73, .ireturn, 1)]
theorem mX12_laws_0 : okd cX12_laws lmX12_laws_0 = true := by decide +kernel
theorem dX12_laws_0 : decode cX12_laws 0 = .ok (.aload_n 0, 1) := okd_at mX12_laws_0 0 rfl
theorem dX12_laws_1 : decode cX12_laws 1 = .ok (.iload_n 1, 1) := okd_at mX12_laws_0 1 rfl
theorem dX12_laws_2 : decode cX12_laws 2 = .ok (.invokevirtual 253, 3) := okd_at mX12_laws_0 2 rfl
theorem dX12_laws_5 : decode cX12_laws 5 = .ok (.istore_n 2, 1) := okd_at mX12_laws_0 3 rfl
theorem dX12_laws_6 : decode cX12_laws 6 = .ok (.iload_n 2, 1) := okd_at mX12_laws_0 4 rfl
theorem dX12_laws_7 : decode cX12_laws 7 = .ok (.ifCond .eq 5, 3) := okd_at mX12_laws_0 5 rfl
theorem dX12_laws_10 : decode cX12_laws 10 = .ok (.iload_n 2, 1) := okd_at mX12_laws_0 6 rfl
theorem dX12_laws_11 : decode cX12_laws 11 = .ok (.ireturn, 1) := okd_at mX12_laws_0 7 rfl
theorem dX12_laws_12 : decode cX12_laws 12 = .ok (.aload_n 0, 1) := okd_at mX12_laws_0 8 rfl
theorem dX12_laws_13 : decode cX12_laws 13 = .ok (.getfield 103, 3) := okd_at mX12_laws_0 9 rfl
theorem dX12_laws_16 : decode cX12_laws 16 = .ok (.istore_n 3, 1) := okd_at mX12_laws_0 10 rfl
theorem dX12_laws_17 : decode cX12_laws 17 = .ok (.iconst 0, 1) := okd_at mX12_laws_0 11 rfl
theorem dX12_laws_18 : decode cX12_laws 18 = .ok (.istore 4, 2) := okd_at mX12_laws_0 12 rfl
theorem dX12_laws_20 : decode cX12_laws 20 = .ok (.iconst 0, 1) := okd_at mX12_laws_0 13 rfl
theorem dX12_laws_21 : decode cX12_laws 21 = .ok (.istore 5, 2) := okd_at mX12_laws_0 14 rfl
theorem dX12_laws_23 : decode cX12_laws 23 = .ok (.iload 5, 2) := okd_at mX12_laws_0 15 rfl
theorem dX12_laws_25 : decode cX12_laws 25 = .ok (.aload_n 0, 1) := okd_at mX12_laws_0 16 rfl
theorem dX12_laws_26 : decode cX12_laws 26 = .ok (.getfield 100, 3) := okd_at mX12_laws_0 17 rfl
theorem dX12_laws_29 : decode cX12_laws 29 = .ok (.if_icmp .ge 37, 3) := okd_at mX12_laws_0 18 rfl
theorem dX12_laws_32 : decode cX12_laws 32 = .ok (.aload_n 0, 1) := okd_at mX12_laws_0 19 rfl
theorem dX12_laws_33 : decode cX12_laws 33 = .ok (.iload 5, 2) := okd_at mX12_laws_0 20 rfl
theorem dX12_laws_35 : decode cX12_laws 35 = .ok (.putfield 103, 3) := okd_at mX12_laws_0 21 rfl
theorem dX12_laws_38 : decode cX12_laws 38 = .ok (.iload 4, 2) := okd_at mX12_laws_0 22 rfl
theorem dX12_laws_40 : decode cX12_laws 40 = .ok (.aload_n 0, 1) := okd_at mX12_laws_0 23 rfl
theorem dX12_laws_41 : decode cX12_laws 41 = .ok (.iload_n 1, 1) := okd_at mX12_laws_0 24 rfl
theorem dX12_laws_42 : decode cX12_laws 42 = .ok (.invokevirtual 256, 3) := okd_at mX12_laws_0 25 rfl
theorem dX12_laws_45 : decode cX12_laws 45 = .ok (.iconst (-1), 1) := okd_at mX12_laws_0 26 rfl
theorem dX12_laws_46 : decode cX12_laws 46 = .ok (.if_icmp .ne 10, 3) := okd_at mX12_laws_0 27 rfl
theorem dX12_laws_49 : decode cX12_laws 49 = .ok (.iconst 1, 1) := okd_at mX12_laws_0 28 rfl
theorem dX12_laws_50 : decode cX12_laws 50 = .ok (.iload 5, 2) := okd_at mX12_laws_0 29 rfl
theorem dX12_laws_52 : decode cX12_laws 52 = .ok (.ishl, 1) := okd_at mX12_laws_0 30 rfl
theorem dX12_laws_53 : decode cX12_laws 53 = .ok (.goto 4, 3) := okd_at mX12_laws_0 31 rfl
theorem dX12_laws_56 : decode cX12_laws 56 = .ok (.iconst 0, 1) := okd_at mX12_laws_0 32 rfl
theorem dX12_laws_57 : decode cX12_laws 57 = .ok (.ior, 1) := okd_at mX12_laws_0 33 rfl
theorem dX12_laws_58 : decode cX12_laws 58 = .ok (.istore 4, 2) := okd_at mX12_laws_0 34 rfl
theorem dX12_laws_60 : decode cX12_laws 60 = .ok (.iinc 5 1, 3) := okd_at mX12_laws_0 35 rfl
theorem dX12_laws_63 : decode cX12_laws 63 = .ok (.goto (-40), 3) := okd_at mX12_laws_0 36 rfl
theorem dX12_laws_66 : decode cX12_laws 66 = .ok (.aload_n 0, 1) := okd_at mX12_laws_0 37 rfl
theorem dX12_laws_67 : decode cX12_laws 67 = .ok (.iload_n 3, 1) := okd_at mX12_laws_0 38 rfl
theorem dX12_laws_68 : decode cX12_laws 68 = .ok (.putfield 103, 3) := okd_at mX12_laws_0 39 rfl
theorem dX12_laws_71 : decode cX12_laws 71 = .ok (.iload 4, 2) := okd_at mX12_laws_0 40 rfl
theorem dX12_laws_73 : decode cX12_laws 73 = .ok (.ireturn, 1) := okd_at mX12_laws_0 41 rfl
def lmX12_let_0 : List (Nat × Instr × Nat) := [(0, .iload_n 1, 1), (1, .iconst 0, 1), (2, .iconst 2, 1), (3, .invokestatic 93, 3), (6, .ifCond .ne 7, 3), (9, .sipush (-1000), 3), (12, .ireturn, 1), (13, .aload_n 0, 1), (14, .iconst 1, 1), (15, .invokevirtual 240, 3), (18, .aload_n 0, 1), (19, .iload_n 1, 1), (20, .invokevirtual 244, 3), (23, .ireturn, 1)]
theorem mX12_let_0 : okd cX12_let lmX12_let_0 = true := by decide +kernel
theorem dX12_let_0 : decode cX12_let 0 = .ok (.iload_n 1, 1) := okd_at mX12_let_0 0 rfl
theorem dX12_let_1 : decode cX12_let 1 = .ok (.iconst 0, 1) := okd_at mX12_let_0 1 rfl
theorem dX12_let_2 : decode cX12_let 2 = .ok (.iconst 2, 1) := okd_at mX12_let_0 2 rfl
theorem dX12_let_3 : decode cX12_let 3 = .ok (.invokestatic 93, 3) := okd_at mX12_let_0 3 rfl
theorem dX12_let_6 : decode cX12_let 6 = .ok (.ifCond .ne 7, 3) := okd_at mX12_let_0 4 rfl
theorem dX12_let_9 : decode cX12_let 9 = .ok (.sipush (-1000), 3) := okd_at mX12_let_0 5 rfl
theorem dX12_let_12 : decode cX12_let 12 = .ok (.ireturn, 1) := okd_at mX12_let_0 6 rfl
theorem dX12_let_13 : decode cX12_let 13 = .ok (.aload_n 0, 1) := okd_at mX12_let_0 7 rfl
theorem dX12_let_14 : decode cX12_let 14 = .ok (.iconst 1, 1) := okd_at mX12_let_0 8 rfl
theorem dX12_let_15 : decode cX12_let 15 = .ok (.invokevirtual 240, 3) := okd_at mX12_let_0 9 rfl
theorem dX12_let_18 : decode cX12_let 18 = .ok (.aload_n 0, 1) := okd_at mX12_let_0 10 rfl
theorem dX12_let_19 : decode cX12_let 19 = .ok (.iload_n 1, 1) := okd_at mX12_let_0 11 rfl
theorem dX12_let_20 : decode cX12_let 20 = .ok (.invokevirtual 244, 3) := okd_at mX12_let_0 12 rfl
theorem dX12_let_23 : decode cX12_let 23 = .ok (.ireturn, 1) := okd_at mX12_let_0 13 rfl
def lmX12_lowest_0 : List (Nat × Instr × Nat) := [(0, .lload_n 0, 1), (1, .lconst 0, 1), (2, .lcmp, 1), (3, .ifCond .ne 7, 3), (6, .iload 4, 2), (8, .i2l, 1), (9, .lreturn, 1), (10, .lload_n 0, 1), (11, .lstore 5, 2), (13, .lload_n 2, 1), (14, .lstore 7, 2), (16, .lload 7, 2), (18, .lconst 0, 1), (19, .lcmp, 1), (20, .ifCond .eq 21, 3), (23, .lload 5, 2), (25, .lload 7, 2), (27, .lrem, 1), (28, .lstore 9, 2), (30, .lload 7, 2), (32, .lstore 5, 2), (34, .lload 9, 2), (36, .lstore 7, 2), (38, .goto (-22), 3), (41, .iload 4, 2), (43, .ifCond .ne 7, 3), (46, .lload_n 0, 1), (47, .goto 4, 3), (50, .lload_n 2, 1), (51, .lload 5, 2), (53, .ldiv, 1), (54, .lreturn, 1)]
theorem mX12_lowest_0 : okd cX12_lowest lmX12_lowest_0 = true := by decide +kernel
theorem dX12_lowest_0 : decode cX12_lowest 0 = .ok (.lload_n 0, 1) := okd_at mX12_lowest_0 0 rfl
theorem dX12_lowest_1 : decode cX12_lowest 1 = .ok (.lconst 0, 1) := okd_at mX12_lowest_0 1 rfl
theorem dX12_lowest_2 : decode cX12_lowest 2 = .ok (.lcmp, 1) := okd_at mX12_lowest_0 2 rfl
theorem dX12_lowest_3 : decode cX12_lowest 3 = .ok (.ifCond .ne 7, 3) := okd_at mX12_lowest_0 3 rfl
theorem dX12_lowest_6 : decode cX12_lowest 6 = .ok (.iload 4, 2) := okd_at mX12_lowest_0 4 rfl
theorem dX12_lowest_8 : decode cX12_lowest 8 = .ok (.i2l, 1) := okd_at mX12_lowest_0 5 rfl
theorem dX12_lowest_9 : decode cX12_lowest 9 = .ok (.lreturn, 1) := okd_at mX12_lowest_0 6 rfl
theorem dX12_lowest_10 : decode cX12_lowest 10 = .ok (.lload_n 0, 1) := okd_at mX12_lowest_0 7 rfl
theorem dX12_lowest_11 : decode cX12_lowest 11 = .ok (.lstore 5, 2) := okd_at mX12_lowest_0 8 rfl
theorem dX12_lowest_13 : decode cX12_lowest 13 = .ok (.lload_n 2, 1) := okd_at mX12_lowest_0 9 rfl
theorem dX12_lowest_14 : decode cX12_lowest 14 = .ok (.lstore 7, 2) := okd_at mX12_lowest_0 10 rfl
theorem dX12_lowest_16 : decode cX12_lowest 16 = .ok (.lload 7, 2) := okd_at mX12_lowest_0 11 rfl
theorem dX12_lowest_18 : decode cX12_lowest 18 = .ok (.lconst 0, 1) := okd_at mX12_lowest_0 12 rfl
theorem dX12_lowest_19 : decode cX12_lowest 19 = .ok (.lcmp, 1) := okd_at mX12_lowest_0 13 rfl
theorem dX12_lowest_20 : decode cX12_lowest 20 = .ok (.ifCond .eq 21, 3) := okd_at mX12_lowest_0 14 rfl
theorem dX12_lowest_23 : decode cX12_lowest 23 = .ok (.lload 5, 2) := okd_at mX12_lowest_0 15 rfl
theorem dX12_lowest_25 : decode cX12_lowest 25 = .ok (.lload 7, 2) := okd_at mX12_lowest_0 16 rfl
theorem dX12_lowest_27 : decode cX12_lowest 27 = .ok (.lrem, 1) := okd_at mX12_lowest_0 17 rfl
theorem dX12_lowest_28 : decode cX12_lowest 28 = .ok (.lstore 9, 2) := okd_at mX12_lowest_0 18 rfl
theorem dX12_lowest_30 : decode cX12_lowest 30 = .ok (.lload 7, 2) := okd_at mX12_lowest_0 19 rfl
theorem dX12_lowest_32 : decode cX12_lowest 32 = .ok (.lstore 5, 2) := okd_at mX12_lowest_0 20 rfl
theorem dX12_lowest_34 : decode cX12_lowest 34 = .ok (.lload 9, 2) := okd_at mX12_lowest_0 21 rfl
theorem dX12_lowest_36 : decode cX12_lowest 36 = .ok (.lstore 7, 2) := okd_at mX12_lowest_0 22 rfl
theorem dX12_lowest_38 : decode cX12_lowest 38 = .ok (.goto (-22), 3) := okd_at mX12_lowest_0 23 rfl
theorem dX12_lowest_41 : decode cX12_lowest 41 = .ok (.iload 4, 2) := okd_at mX12_lowest_0 24 rfl
theorem dX12_lowest_43 : decode cX12_lowest 43 = .ok (.ifCond .ne 7, 3) := okd_at mX12_lowest_0 25 rfl
theorem dX12_lowest_46 : decode cX12_lowest 46 = .ok (.lload_n 0, 1) := okd_at mX12_lowest_0 26 rfl
theorem dX12_lowest_47 : decode cX12_lowest 47 = .ok (.goto 4, 3) := okd_at mX12_lowest_0 27 rfl
theorem dX12_lowest_50 : decode cX12_lowest 50 = .ok (.lload_n 2, 1) := okd_at mX12_lowest_0 28 rfl
theorem dX12_lowest_51 : decode cX12_lowest 51 = .ok (.lload 5, 2) := okd_at mX12_lowest_0 29 rfl
theorem dX12_lowest_53 : decode cX12_lowest 53 = .ok (.ldiv, 1) := okd_at mX12_lowest_0 30 rfl
theorem dX12_lowest_54 : decode cX12_lowest 54 = .ok (.lreturn, 1) := okd_at mX12_lowest_0 31 rfl
def lmX12_needs_0 : List (Nat × Instr × Nat) := [(0, .aload_n 0, 1), (1, .iload_n 1, 1), (2, .invokevirtual 106, 3), (5, .ifCond .ne 6, 3), (8, .bipush (-5), 2), (10, .ireturn, 1), (11, .iload_n 2, 1), (12, .iconst 0, 1), (13, .bipush 6, 2), (15, .invokestatic 93, 3), (18, .ifCond .ne 6, 3), (21, .bipush (-7), 2), (23, .ireturn, 1), (24, .aload_n 0, 1), (25, .getfield 7, 3), (28, .iconst 3, 1), (29, .iload_n 1, 1), (30, .imul, 1), (31, .iconst 2, 1), (32, .iadd, 1), (33, .iaload, 1), (34, .istore_n 3, 1), (35, .iconst (-1), 1), (36, .istore 4, 2), (38, .iconst 0, 1), (39, .istore 5, 2), (41, .iload 5, 2), (43, .bipush 99, 2), (45, .if_icmp .gt 49, 3), (48, .iload 4, 2), (50, .iconst (-1), 1), (51, .if_icmp .ne 43, 3), (54, .aload_n 0, 1), (55, .getfield 7, 3), (58, .iconst 3, 1), (59, .iload_n 1, 1), (60, .imul, 1), (61, .iconst 2, 1), (62, .iadd, 1), (63, .iload 5, 2), (65, .iastore, 1), (66, .aload_n 0, 1), (67, .invokevirtual 219, 3), (70, .aload_n 0, 1), (71, .getfield 61, 3), (74, .iload_n 1, 1), (75, .iaload, 1), (76, .iload_n 2, 1), (77, .if_icmp .lt 8, 3), (80, .iload 5, 2), (82, .goto 4, 3), (85, .iconst (-1), 1), (86, .istore 4, 2), (88, .iinc 5 1, 3), (91, .goto (-50), 3), (94, .aload_n 0, 1), (95, .getfield 7, 3), (98, .iconst 3, 1), (99, .iload_n 1, 1), (100, .imul, 1)]
theorem mX12_needs_0 : okd cX12_needs lmX12_needs_0 = true := by decide +kernel
theorem dX12_needs_0 : decode cX12_needs 0 = .ok (.aload_n 0, 1) := okd_at mX12_needs_0 0 rfl
theorem dX12_needs_1 : decode cX12_needs 1 = .ok (.iload_n 1, 1) := okd_at mX12_needs_0 1 rfl
theorem dX12_needs_2 : decode cX12_needs 2 = .ok (.invokevirtual 106, 3) := okd_at mX12_needs_0 2 rfl
theorem dX12_needs_5 : decode cX12_needs 5 = .ok (.ifCond .ne 6, 3) := okd_at mX12_needs_0 3 rfl
theorem dX12_needs_8 : decode cX12_needs 8 = .ok (.bipush (-5), 2) := okd_at mX12_needs_0 4 rfl
theorem dX12_needs_10 : decode cX12_needs 10 = .ok (.ireturn, 1) := okd_at mX12_needs_0 5 rfl
theorem dX12_needs_11 : decode cX12_needs 11 = .ok (.iload_n 2, 1) := okd_at mX12_needs_0 6 rfl
theorem dX12_needs_12 : decode cX12_needs 12 = .ok (.iconst 0, 1) := okd_at mX12_needs_0 7 rfl
theorem dX12_needs_13 : decode cX12_needs 13 = .ok (.bipush 6, 2) := okd_at mX12_needs_0 8 rfl
theorem dX12_needs_15 : decode cX12_needs 15 = .ok (.invokestatic 93, 3) := okd_at mX12_needs_0 9 rfl
theorem dX12_needs_18 : decode cX12_needs 18 = .ok (.ifCond .ne 6, 3) := okd_at mX12_needs_0 10 rfl
theorem dX12_needs_21 : decode cX12_needs 21 = .ok (.bipush (-7), 2) := okd_at mX12_needs_0 11 rfl
theorem dX12_needs_23 : decode cX12_needs 23 = .ok (.ireturn, 1) := okd_at mX12_needs_0 12 rfl
theorem dX12_needs_24 : decode cX12_needs 24 = .ok (.aload_n 0, 1) := okd_at mX12_needs_0 13 rfl
theorem dX12_needs_25 : decode cX12_needs 25 = .ok (.getfield 7, 3) := okd_at mX12_needs_0 14 rfl
theorem dX12_needs_28 : decode cX12_needs 28 = .ok (.iconst 3, 1) := okd_at mX12_needs_0 15 rfl
theorem dX12_needs_29 : decode cX12_needs 29 = .ok (.iload_n 1, 1) := okd_at mX12_needs_0 16 rfl
theorem dX12_needs_30 : decode cX12_needs 30 = .ok (.imul, 1) := okd_at mX12_needs_0 17 rfl
theorem dX12_needs_31 : decode cX12_needs 31 = .ok (.iconst 2, 1) := okd_at mX12_needs_0 18 rfl
theorem dX12_needs_32 : decode cX12_needs 32 = .ok (.iadd, 1) := okd_at mX12_needs_0 19 rfl
theorem dX12_needs_33 : decode cX12_needs 33 = .ok (.iaload, 1) := okd_at mX12_needs_0 20 rfl
theorem dX12_needs_34 : decode cX12_needs 34 = .ok (.istore_n 3, 1) := okd_at mX12_needs_0 21 rfl
theorem dX12_needs_35 : decode cX12_needs 35 = .ok (.iconst (-1), 1) := okd_at mX12_needs_0 22 rfl
theorem dX12_needs_36 : decode cX12_needs 36 = .ok (.istore 4, 2) := okd_at mX12_needs_0 23 rfl
theorem dX12_needs_38 : decode cX12_needs 38 = .ok (.iconst 0, 1) := okd_at mX12_needs_0 24 rfl
theorem dX12_needs_39 : decode cX12_needs 39 = .ok (.istore 5, 2) := okd_at mX12_needs_0 25 rfl
theorem dX12_needs_41 : decode cX12_needs 41 = .ok (.iload 5, 2) := okd_at mX12_needs_0 26 rfl
theorem dX12_needs_43 : decode cX12_needs 43 = .ok (.bipush 99, 2) := okd_at mX12_needs_0 27 rfl
theorem dX12_needs_45 : decode cX12_needs 45 = .ok (.if_icmp .gt 49, 3) := okd_at mX12_needs_0 28 rfl
theorem dX12_needs_48 : decode cX12_needs 48 = .ok (.iload 4, 2) := okd_at mX12_needs_0 29 rfl
theorem dX12_needs_50 : decode cX12_needs 50 = .ok (.iconst (-1), 1) := okd_at mX12_needs_0 30 rfl
theorem dX12_needs_51 : decode cX12_needs 51 = .ok (.if_icmp .ne 43, 3) := okd_at mX12_needs_0 31 rfl
theorem dX12_needs_54 : decode cX12_needs 54 = .ok (.aload_n 0, 1) := okd_at mX12_needs_0 32 rfl
theorem dX12_needs_55 : decode cX12_needs 55 = .ok (.getfield 7, 3) := okd_at mX12_needs_0 33 rfl
theorem dX12_needs_58 : decode cX12_needs 58 = .ok (.iconst 3, 1) := okd_at mX12_needs_0 34 rfl
theorem dX12_needs_59 : decode cX12_needs 59 = .ok (.iload_n 1, 1) := okd_at mX12_needs_0 35 rfl
theorem dX12_needs_60 : decode cX12_needs 60 = .ok (.imul, 1) := okd_at mX12_needs_0 36 rfl
theorem dX12_needs_61 : decode cX12_needs 61 = .ok (.iconst 2, 1) := okd_at mX12_needs_0 37 rfl
theorem dX12_needs_62 : decode cX12_needs 62 = .ok (.iadd, 1) := okd_at mX12_needs_0 38 rfl
theorem dX12_needs_63 : decode cX12_needs 63 = .ok (.iload 5, 2) := okd_at mX12_needs_0 39 rfl
theorem dX12_needs_65 : decode cX12_needs 65 = .ok (.iastore, 1) := okd_at mX12_needs_0 40 rfl
theorem dX12_needs_66 : decode cX12_needs 66 = .ok (.aload_n 0, 1) := okd_at mX12_needs_0 41 rfl
theorem dX12_needs_67 : decode cX12_needs 67 = .ok (.invokevirtual 219, 3) := okd_at mX12_needs_0 42 rfl
theorem dX12_needs_70 : decode cX12_needs 70 = .ok (.aload_n 0, 1) := okd_at mX12_needs_0 43 rfl
theorem dX12_needs_71 : decode cX12_needs 71 = .ok (.getfield 61, 3) := okd_at mX12_needs_0 44 rfl
theorem dX12_needs_74 : decode cX12_needs 74 = .ok (.iload_n 1, 1) := okd_at mX12_needs_0 45 rfl
theorem dX12_needs_75 : decode cX12_needs 75 = .ok (.iaload, 1) := okd_at mX12_needs_0 46 rfl
theorem dX12_needs_76 : decode cX12_needs 76 = .ok (.iload_n 2, 1) := okd_at mX12_needs_0 47 rfl
theorem dX12_needs_77 : decode cX12_needs 77 = .ok (.if_icmp .lt 8, 3) := okd_at mX12_needs_0 48 rfl
theorem dX12_needs_80 : decode cX12_needs 80 = .ok (.iload 5, 2) := okd_at mX12_needs_0 49 rfl
theorem dX12_needs_82 : decode cX12_needs 82 = .ok (.goto 4, 3) := okd_at mX12_needs_0 50 rfl
theorem dX12_needs_85 : decode cX12_needs 85 = .ok (.iconst (-1), 1) := okd_at mX12_needs_0 51 rfl
theorem dX12_needs_86 : decode cX12_needs 86 = .ok (.istore 4, 2) := okd_at mX12_needs_0 52 rfl
theorem dX12_needs_88 : decode cX12_needs 88 = .ok (.iinc 5 1, 3) := okd_at mX12_needs_0 53 rfl
theorem dX12_needs_91 : decode cX12_needs 91 = .ok (.goto (-50), 3) := okd_at mX12_needs_0 54 rfl
theorem dX12_needs_94 : decode cX12_needs 94 = .ok (.aload_n 0, 1) := okd_at mX12_needs_0 55 rfl
theorem dX12_needs_95 : decode cX12_needs 95 = .ok (.getfield 7, 3) := okd_at mX12_needs_0 56 rfl
theorem dX12_needs_98 : decode cX12_needs 98 = .ok (.iconst 3, 1) := okd_at mX12_needs_0 57 rfl
theorem dX12_needs_99 : decode cX12_needs 99 = .ok (.iload_n 1, 1) := okd_at mX12_needs_0 58 rfl
theorem dX12_needs_100 : decode cX12_needs 100 = .ok (.imul, 1) := okd_at mX12_needs_0 59 rfl
def lmX12_needs_1 : List (Nat × Instr × Nat) := [(101, .iconst 2, 1), (102, .iadd, 1), (103, .iload_n 3, 1), (104, .iastore, 1), (105, .iload 4, 2), (107, .ireturn, 1)]
theorem mX12_needs_1 : okd cX12_needs lmX12_needs_1 = true := by decide +kernel
theorem dX12_needs_101 : decode cX12_needs 101 = .ok (.iconst 2, 1) := okd_at mX12_needs_1 0 rfl
theorem dX12_needs_102 : decode cX12_needs 102 = .ok (.iadd, 1) := okd_at mX12_needs_1 1 rfl
theorem dX12_needs_103 : decode cX12_needs 103 = .ok (.iload_n 3, 1) := okd_at mX12_needs_1 2 rfl
theorem dX12_needs_104 : decode cX12_needs 104 = .ok (.iastore, 1) := okd_at mX12_needs_1 3 rfl
theorem dX12_needs_105 : decode cX12_needs 105 = .ok (.iload 4, 2) := okd_at mX12_needs_1 4 rfl
theorem dX12_needs_107 : decode cX12_needs 107 = .ok (.ireturn, 1) := okd_at mX12_needs_1 5 rfl
def lmX12_next_0 : List (Nat × Instr × Nat) := [(0, .aload_n 0, 1), (1, .getfield 113, 3), (4, .aload_n 0, 1), (5, .getfield 83, 3), (8, .if_icmp .ge 44, 3), (11, .aload_n 0, 1), (12, .getfield 22, 3), (15, .aload_n 0, 1), (16, .getfield 113, 3), (19, .iaload, 1), (20, .bipush 32, 2), (22, .if_icmp .eq 17, 3), (25, .aload_n 0, 1), (26, .getfield 22, 3), (29, .aload_n 0, 1), (30, .getfield 113, 3), (33, .iaload, 1), (34, .bipush 10, 2), (36, .if_icmp .ne 16, 3), (39, .aload_n 0, 1), (40, .dup, 1), (41, .getfield 113, 3), (44, .iconst 1, 1), (45, .iadd, 1), (46, .putfield 113, 3), (49, .goto (-49), 3), (52, .aload_n 0, 1), (53, .aload_n 0, 1), (54, .getfield 113, 3), (57, .putfield 116, 3), (60, .aload_n 0, 1), (61, .iconst 0, 1), (62, .putfield 119, 3), (65, .aload_n 0, 1), (66, .iconst 0, 1), (67, .putfield 122, 3), (70, .aload_n 0, 1), (71, .getfield 113, 3), (74, .aload_n 0, 1), (75, .getfield 83, 3), (78, .if_icmp .ne 4, 3), (81, .return_, 1), (82, .aload_n 0, 1), (83, .getfield 22, 3), (86, .aload_n 0, 1), (87, .getfield 113, 3), (90, .iaload, 1), (91, .istore_n 1, 1), (92, .iload_n 1, 1), (93, .bipush 97, 2), (95, .bipush 122, 2), (97, .invokestatic 93, 3), (100, .ifCond .eq 117, 3), (103, .aload_n 0, 1), (104, .getfield 113, 3), (107, .aload_n 0, 1), (108, .getfield 83, 3), (111, .if_icmp .ge 35, 3), (114, .aload_n 0, 1), (115, .getfield 22, 3)]
theorem mX12_next_0 : okd cX12_next lmX12_next_0 = true := by decide +kernel
theorem dX12_next_0 : decode cX12_next 0 = .ok (.aload_n 0, 1) := okd_at mX12_next_0 0 rfl
theorem dX12_next_1 : decode cX12_next 1 = .ok (.getfield 113, 3) := okd_at mX12_next_0 1 rfl
theorem dX12_next_4 : decode cX12_next 4 = .ok (.aload_n 0, 1) := okd_at mX12_next_0 2 rfl
theorem dX12_next_5 : decode cX12_next 5 = .ok (.getfield 83, 3) := okd_at mX12_next_0 3 rfl
theorem dX12_next_8 : decode cX12_next 8 = .ok (.if_icmp .ge 44, 3) := okd_at mX12_next_0 4 rfl
theorem dX12_next_11 : decode cX12_next 11 = .ok (.aload_n 0, 1) := okd_at mX12_next_0 5 rfl
theorem dX12_next_12 : decode cX12_next 12 = .ok (.getfield 22, 3) := okd_at mX12_next_0 6 rfl
theorem dX12_next_15 : decode cX12_next 15 = .ok (.aload_n 0, 1) := okd_at mX12_next_0 7 rfl
theorem dX12_next_16 : decode cX12_next 16 = .ok (.getfield 113, 3) := okd_at mX12_next_0 8 rfl
theorem dX12_next_19 : decode cX12_next 19 = .ok (.iaload, 1) := okd_at mX12_next_0 9 rfl
theorem dX12_next_20 : decode cX12_next 20 = .ok (.bipush 32, 2) := okd_at mX12_next_0 10 rfl
theorem dX12_next_22 : decode cX12_next 22 = .ok (.if_icmp .eq 17, 3) := okd_at mX12_next_0 11 rfl
theorem dX12_next_25 : decode cX12_next 25 = .ok (.aload_n 0, 1) := okd_at mX12_next_0 12 rfl
theorem dX12_next_26 : decode cX12_next 26 = .ok (.getfield 22, 3) := okd_at mX12_next_0 13 rfl
theorem dX12_next_29 : decode cX12_next 29 = .ok (.aload_n 0, 1) := okd_at mX12_next_0 14 rfl
theorem dX12_next_30 : decode cX12_next 30 = .ok (.getfield 113, 3) := okd_at mX12_next_0 15 rfl
theorem dX12_next_33 : decode cX12_next 33 = .ok (.iaload, 1) := okd_at mX12_next_0 16 rfl
theorem dX12_next_34 : decode cX12_next 34 = .ok (.bipush 10, 2) := okd_at mX12_next_0 17 rfl
theorem dX12_next_36 : decode cX12_next 36 = .ok (.if_icmp .ne 16, 3) := okd_at mX12_next_0 18 rfl
theorem dX12_next_39 : decode cX12_next 39 = .ok (.aload_n 0, 1) := okd_at mX12_next_0 19 rfl
theorem dX12_next_40 : decode cX12_next 40 = .ok (.dup, 1) := okd_at mX12_next_0 20 rfl
theorem dX12_next_41 : decode cX12_next 41 = .ok (.getfield 113, 3) := okd_at mX12_next_0 21 rfl
theorem dX12_next_44 : decode cX12_next 44 = .ok (.iconst 1, 1) := okd_at mX12_next_0 22 rfl
theorem dX12_next_45 : decode cX12_next 45 = .ok (.iadd, 1) := okd_at mX12_next_0 23 rfl
theorem dX12_next_46 : decode cX12_next 46 = .ok (.putfield 113, 3) := okd_at mX12_next_0 24 rfl
theorem dX12_next_49 : decode cX12_next 49 = .ok (.goto (-49), 3) := okd_at mX12_next_0 25 rfl
theorem dX12_next_52 : decode cX12_next 52 = .ok (.aload_n 0, 1) := okd_at mX12_next_0 26 rfl
theorem dX12_next_53 : decode cX12_next 53 = .ok (.aload_n 0, 1) := okd_at mX12_next_0 27 rfl
theorem dX12_next_54 : decode cX12_next 54 = .ok (.getfield 113, 3) := okd_at mX12_next_0 28 rfl
theorem dX12_next_57 : decode cX12_next 57 = .ok (.putfield 116, 3) := okd_at mX12_next_0 29 rfl
theorem dX12_next_60 : decode cX12_next 60 = .ok (.aload_n 0, 1) := okd_at mX12_next_0 30 rfl
theorem dX12_next_61 : decode cX12_next 61 = .ok (.iconst 0, 1) := okd_at mX12_next_0 31 rfl
theorem dX12_next_62 : decode cX12_next 62 = .ok (.putfield 119, 3) := okd_at mX12_next_0 32 rfl
theorem dX12_next_65 : decode cX12_next 65 = .ok (.aload_n 0, 1) := okd_at mX12_next_0 33 rfl
theorem dX12_next_66 : decode cX12_next 66 = .ok (.iconst 0, 1) := okd_at mX12_next_0 34 rfl
theorem dX12_next_67 : decode cX12_next 67 = .ok (.putfield 122, 3) := okd_at mX12_next_0 35 rfl
theorem dX12_next_70 : decode cX12_next 70 = .ok (.aload_n 0, 1) := okd_at mX12_next_0 36 rfl
theorem dX12_next_71 : decode cX12_next 71 = .ok (.getfield 113, 3) := okd_at mX12_next_0 37 rfl
theorem dX12_next_74 : decode cX12_next 74 = .ok (.aload_n 0, 1) := okd_at mX12_next_0 38 rfl
theorem dX12_next_75 : decode cX12_next 75 = .ok (.getfield 83, 3) := okd_at mX12_next_0 39 rfl
theorem dX12_next_78 : decode cX12_next 78 = .ok (.if_icmp .ne 4, 3) := okd_at mX12_next_0 40 rfl
theorem dX12_next_81 : decode cX12_next 81 = .ok (.return_, 1) := okd_at mX12_next_0 41 rfl
theorem dX12_next_82 : decode cX12_next 82 = .ok (.aload_n 0, 1) := okd_at mX12_next_0 42 rfl
theorem dX12_next_83 : decode cX12_next 83 = .ok (.getfield 22, 3) := okd_at mX12_next_0 43 rfl
theorem dX12_next_86 : decode cX12_next 86 = .ok (.aload_n 0, 1) := okd_at mX12_next_0 44 rfl
theorem dX12_next_87 : decode cX12_next 87 = .ok (.getfield 113, 3) := okd_at mX12_next_0 45 rfl
theorem dX12_next_90 : decode cX12_next 90 = .ok (.iaload, 1) := okd_at mX12_next_0 46 rfl
theorem dX12_next_91 : decode cX12_next 91 = .ok (.istore_n 1, 1) := okd_at mX12_next_0 47 rfl
theorem dX12_next_92 : decode cX12_next 92 = .ok (.iload_n 1, 1) := okd_at mX12_next_0 48 rfl
theorem dX12_next_93 : decode cX12_next 93 = .ok (.bipush 97, 2) := okd_at mX12_next_0 49 rfl
theorem dX12_next_95 : decode cX12_next 95 = .ok (.bipush 122, 2) := okd_at mX12_next_0 50 rfl
theorem dX12_next_97 : decode cX12_next 97 = .ok (.invokestatic 93, 3) := okd_at mX12_next_0 51 rfl
theorem dX12_next_100 : decode cX12_next 100 = .ok (.ifCond .eq 117, 3) := okd_at mX12_next_0 52 rfl
theorem dX12_next_103 : decode cX12_next 103 = .ok (.aload_n 0, 1) := okd_at mX12_next_0 53 rfl
theorem dX12_next_104 : decode cX12_next 104 = .ok (.getfield 113, 3) := okd_at mX12_next_0 54 rfl
theorem dX12_next_107 : decode cX12_next 107 = .ok (.aload_n 0, 1) := okd_at mX12_next_0 55 rfl
theorem dX12_next_108 : decode cX12_next 108 = .ok (.getfield 83, 3) := okd_at mX12_next_0 56 rfl
theorem dX12_next_111 : decode cX12_next 111 = .ok (.if_icmp .ge 35, 3) := okd_at mX12_next_0 57 rfl
theorem dX12_next_114 : decode cX12_next 114 = .ok (.aload_n 0, 1) := okd_at mX12_next_0 58 rfl
theorem dX12_next_115 : decode cX12_next 115 = .ok (.getfield 22, 3) := okd_at mX12_next_0 59 rfl
def lmX12_next_1 : List (Nat × Instr × Nat) := [(118, .aload_n 0, 1), (119, .getfield 113, 3), (122, .iaload, 1), (123, .bipush 97, 2), (125, .bipush 122, 2), (127, .invokestatic 93, 3), (130, .ifCond .eq 16, 3), (133, .aload_n 0, 1), (134, .dup, 1), (135, .getfield 113, 3), (138, .iconst 1, 1), (139, .iadd, 1), (140, .putfield 113, 3), (143, .goto (-40), 3), (146, .aload_n 0, 1), (147, .aload_n 0, 1), (148, .getfield 116, 3), (151, .aload_n 0, 1), (152, .getfield 113, 3), (155, .invokevirtual 125, 3), (158, .istore_n 2, 1), (159, .aload_n 0, 1), (160, .iload_n 2, 1), (161, .iconst 3, 1), (162, .if_icmp .ge 7, 3), (165, .iconst 3, 1), (166, .goto 29, 3), (169, .iload_n 2, 1), (170, .bipush 9, 2), (172, .if_icmp .ge 7, 3), (175, .iconst 2, 1), (176, .goto 19, 3), (179, .iload_n 2, 1), (180, .bipush 12, 2), (182, .if_icmp .ne 7, 3), (185, .iconst (-1), 1), (186, .goto 9, 3), (189, .iconst 4, 1), (190, .iload_n 2, 1), (191, .iadd, 1), (192, .bipush 9, 2), (194, .isub, 1), (195, .putfield 119, 3), (198, .aload_n 0, 1), (199, .iload_n 2, 1), (200, .iconst 3, 1), (201, .if_icmp .ge 7, 3), (204, .iload_n 2, 1), (205, .goto 6, 3), (208, .iload_n 2, 1), (209, .iconst 3, 1), (210, .isub, 1), (211, .putfield 122, 3), (214, .goto 189, 3), (217, .iload_n 1, 1), (218, .bipush 48, 2), (220, .bipush 57, 2), (222, .invokestatic 93, 3), (225, .ifCond .eq 101, 3), (228, .iconst 0, 1)]
theorem mX12_next_1 : okd cX12_next lmX12_next_1 = true := by decide +kernel
theorem dX12_next_118 : decode cX12_next 118 = .ok (.aload_n 0, 1) := okd_at mX12_next_1 0 rfl
theorem dX12_next_119 : decode cX12_next 119 = .ok (.getfield 113, 3) := okd_at mX12_next_1 1 rfl
theorem dX12_next_122 : decode cX12_next 122 = .ok (.iaload, 1) := okd_at mX12_next_1 2 rfl
theorem dX12_next_123 : decode cX12_next 123 = .ok (.bipush 97, 2) := okd_at mX12_next_1 3 rfl
theorem dX12_next_125 : decode cX12_next 125 = .ok (.bipush 122, 2) := okd_at mX12_next_1 4 rfl
theorem dX12_next_127 : decode cX12_next 127 = .ok (.invokestatic 93, 3) := okd_at mX12_next_1 5 rfl
theorem dX12_next_130 : decode cX12_next 130 = .ok (.ifCond .eq 16, 3) := okd_at mX12_next_1 6 rfl
theorem dX12_next_133 : decode cX12_next 133 = .ok (.aload_n 0, 1) := okd_at mX12_next_1 7 rfl
theorem dX12_next_134 : decode cX12_next 134 = .ok (.dup, 1) := okd_at mX12_next_1 8 rfl
theorem dX12_next_135 : decode cX12_next 135 = .ok (.getfield 113, 3) := okd_at mX12_next_1 9 rfl
theorem dX12_next_138 : decode cX12_next 138 = .ok (.iconst 1, 1) := okd_at mX12_next_1 10 rfl
theorem dX12_next_139 : decode cX12_next 139 = .ok (.iadd, 1) := okd_at mX12_next_1 11 rfl
theorem dX12_next_140 : decode cX12_next 140 = .ok (.putfield 113, 3) := okd_at mX12_next_1 12 rfl
theorem dX12_next_143 : decode cX12_next 143 = .ok (.goto (-40), 3) := okd_at mX12_next_1 13 rfl
theorem dX12_next_146 : decode cX12_next 146 = .ok (.aload_n 0, 1) := okd_at mX12_next_1 14 rfl
theorem dX12_next_147 : decode cX12_next 147 = .ok (.aload_n 0, 1) := okd_at mX12_next_1 15 rfl
theorem dX12_next_148 : decode cX12_next 148 = .ok (.getfield 116, 3) := okd_at mX12_next_1 16 rfl
theorem dX12_next_151 : decode cX12_next 151 = .ok (.aload_n 0, 1) := okd_at mX12_next_1 17 rfl
theorem dX12_next_152 : decode cX12_next 152 = .ok (.getfield 113, 3) := okd_at mX12_next_1 18 rfl
theorem dX12_next_155 : decode cX12_next 155 = .ok (.invokevirtual 125, 3) := okd_at mX12_next_1 19 rfl
theorem dX12_next_158 : decode cX12_next 158 = .ok (.istore_n 2, 1) := okd_at mX12_next_1 20 rfl
theorem dX12_next_159 : decode cX12_next 159 = .ok (.aload_n 0, 1) := okd_at mX12_next_1 21 rfl
theorem dX12_next_160 : decode cX12_next 160 = .ok (.iload_n 2, 1) := okd_at mX12_next_1 22 rfl
theorem dX12_next_161 : decode cX12_next 161 = .ok (.iconst 3, 1) := okd_at mX12_next_1 23 rfl
theorem dX12_next_162 : decode cX12_next 162 = .ok (.if_icmp .ge 7, 3) := okd_at mX12_next_1 24 rfl
theorem dX12_next_165 : decode cX12_next 165 = .ok (.iconst 3, 1) := okd_at mX12_next_1 25 rfl
theorem dX12_next_166 : decode cX12_next 166 = .ok (.goto 29, 3) := okd_at mX12_next_1 26 rfl
theorem dX12_next_169 : decode cX12_next 169 = .ok (.iload_n 2, 1) := okd_at mX12_next_1 27 rfl
theorem dX12_next_170 : decode cX12_next 170 = .ok (.bipush 9, 2) := okd_at mX12_next_1 28 rfl
theorem dX12_next_172 : decode cX12_next 172 = .ok (.if_icmp .ge 7, 3) := okd_at mX12_next_1 29 rfl
theorem dX12_next_175 : decode cX12_next 175 = .ok (.iconst 2, 1) := okd_at mX12_next_1 30 rfl
theorem dX12_next_176 : decode cX12_next 176 = .ok (.goto 19, 3) := okd_at mX12_next_1 31 rfl
theorem dX12_next_179 : decode cX12_next 179 = .ok (.iload_n 2, 1) := okd_at mX12_next_1 32 rfl
theorem dX12_next_180 : decode cX12_next 180 = .ok (.bipush 12, 2) := okd_at mX12_next_1 33 rfl
theorem dX12_next_182 : decode cX12_next 182 = .ok (.if_icmp .ne 7, 3) := okd_at mX12_next_1 34 rfl
theorem dX12_next_185 : decode cX12_next 185 = .ok (.iconst (-1), 1) := okd_at mX12_next_1 35 rfl
theorem dX12_next_186 : decode cX12_next 186 = .ok (.goto 9, 3) := okd_at mX12_next_1 36 rfl
theorem dX12_next_189 : decode cX12_next 189 = .ok (.iconst 4, 1) := okd_at mX12_next_1 37 rfl
theorem dX12_next_190 : decode cX12_next 190 = .ok (.iload_n 2, 1) := okd_at mX12_next_1 38 rfl
theorem dX12_next_191 : decode cX12_next 191 = .ok (.iadd, 1) := okd_at mX12_next_1 39 rfl
theorem dX12_next_192 : decode cX12_next 192 = .ok (.bipush 9, 2) := okd_at mX12_next_1 40 rfl
theorem dX12_next_194 : decode cX12_next 194 = .ok (.isub, 1) := okd_at mX12_next_1 41 rfl
theorem dX12_next_195 : decode cX12_next 195 = .ok (.putfield 119, 3) := okd_at mX12_next_1 42 rfl
theorem dX12_next_198 : decode cX12_next 198 = .ok (.aload_n 0, 1) := okd_at mX12_next_1 43 rfl
theorem dX12_next_199 : decode cX12_next 199 = .ok (.iload_n 2, 1) := okd_at mX12_next_1 44 rfl
theorem dX12_next_200 : decode cX12_next 200 = .ok (.iconst 3, 1) := okd_at mX12_next_1 45 rfl
theorem dX12_next_201 : decode cX12_next 201 = .ok (.if_icmp .ge 7, 3) := okd_at mX12_next_1 46 rfl
theorem dX12_next_204 : decode cX12_next 204 = .ok (.iload_n 2, 1) := okd_at mX12_next_1 47 rfl
theorem dX12_next_205 : decode cX12_next 205 = .ok (.goto 6, 3) := okd_at mX12_next_1 48 rfl
theorem dX12_next_208 : decode cX12_next 208 = .ok (.iload_n 2, 1) := okd_at mX12_next_1 49 rfl
theorem dX12_next_209 : decode cX12_next 209 = .ok (.iconst 3, 1) := okd_at mX12_next_1 50 rfl
theorem dX12_next_210 : decode cX12_next 210 = .ok (.isub, 1) := okd_at mX12_next_1 51 rfl
theorem dX12_next_211 : decode cX12_next 211 = .ok (.putfield 122, 3) := okd_at mX12_next_1 52 rfl
theorem dX12_next_214 : decode cX12_next 214 = .ok (.goto 189, 3) := okd_at mX12_next_1 53 rfl
theorem dX12_next_217 : decode cX12_next 217 = .ok (.iload_n 1, 1) := okd_at mX12_next_1 54 rfl
theorem dX12_next_218 : decode cX12_next 218 = .ok (.bipush 48, 2) := okd_at mX12_next_1 55 rfl
theorem dX12_next_220 : decode cX12_next 220 = .ok (.bipush 57, 2) := okd_at mX12_next_1 56 rfl
theorem dX12_next_222 : decode cX12_next 222 = .ok (.invokestatic 93, 3) := okd_at mX12_next_1 57 rfl
theorem dX12_next_225 : decode cX12_next 225 = .ok (.ifCond .eq 101, 3) := okd_at mX12_next_1 58 rfl
theorem dX12_next_228 : decode cX12_next 228 = .ok (.iconst 0, 1) := okd_at mX12_next_1 59 rfl
def lmX12_next_2 : List (Nat × Instr × Nat) := [(229, .istore_n 2, 1), (230, .aload_n 0, 1), (231, .getfield 113, 3), (234, .aload_n 0, 1), (235, .getfield 83, 3), (238, .if_icmp .ge 71, 3), (241, .aload_n 0, 1), (242, .getfield 22, 3), (245, .aload_n 0, 1), (246, .getfield 113, 3), (249, .iaload, 1), (250, .bipush 48, 2), (252, .bipush 57, 2), (254, .invokestatic 93, 3), (257, .ifCond .eq 52, 3), (260, .aload_n 0, 1), (261, .iload_n 2, 1), (262, .iconst 4, 1), (263, .if_icmp .ge 26, 3), (266, .bipush 10, 2), (268, .aload_n 0, 1), (269, .getfield 122, 3), (272, .imul, 1), (273, .aload_n 0, 1), (274, .getfield 22, 3), (277, .aload_n 0, 1), (278, .getfield 113, 3), (281, .iaload, 1), (282, .iadd, 1), (283, .bipush 48, 2), (285, .isub, 1), (286, .goto 4, 3), (289, .iconst 0, 1), (290, .putfield 122, 3), (293, .iinc 2 1, 3), (296, .aload_n 0, 1), (297, .dup, 1), (298, .getfield 113, 3), (301, .iconst 1, 1), (302, .iadd, 1), (303, .putfield 113, 3), (306, .goto (-76), 3), (309, .aload_n 0, 1), (310, .iload_n 2, 1), (311, .iconst 4, 1), (312, .if_icmp .le 7, 3), (315, .iconst (-1), 1), (316, .goto 4, 3), (319, .iconst 1, 1), (320, .putfield 119, 3), (323, .goto 80, 3), (326, .iload_n 1, 1), (327, .bipush 40, 2), (329, .if_icmp .eq 45, 3), (332, .iload_n 1, 1), (333, .bipush 41, 2), (335, .if_icmp .eq 39, 3), (338, .iload_n 1, 1), (339, .bipush 59, 2), (341, .if_icmp .eq 33, 3)]
theorem mX12_next_2 : okd cX12_next lmX12_next_2 = true := by decide +kernel
theorem dX12_next_229 : decode cX12_next 229 = .ok (.istore_n 2, 1) := okd_at mX12_next_2 0 rfl
theorem dX12_next_230 : decode cX12_next 230 = .ok (.aload_n 0, 1) := okd_at mX12_next_2 1 rfl
theorem dX12_next_231 : decode cX12_next 231 = .ok (.getfield 113, 3) := okd_at mX12_next_2 2 rfl
theorem dX12_next_234 : decode cX12_next 234 = .ok (.aload_n 0, 1) := okd_at mX12_next_2 3 rfl
theorem dX12_next_235 : decode cX12_next 235 = .ok (.getfield 83, 3) := okd_at mX12_next_2 4 rfl
theorem dX12_next_238 : decode cX12_next 238 = .ok (.if_icmp .ge 71, 3) := okd_at mX12_next_2 5 rfl
theorem dX12_next_241 : decode cX12_next 241 = .ok (.aload_n 0, 1) := okd_at mX12_next_2 6 rfl
theorem dX12_next_242 : decode cX12_next 242 = .ok (.getfield 22, 3) := okd_at mX12_next_2 7 rfl
theorem dX12_next_245 : decode cX12_next 245 = .ok (.aload_n 0, 1) := okd_at mX12_next_2 8 rfl
theorem dX12_next_246 : decode cX12_next 246 = .ok (.getfield 113, 3) := okd_at mX12_next_2 9 rfl
theorem dX12_next_249 : decode cX12_next 249 = .ok (.iaload, 1) := okd_at mX12_next_2 10 rfl
theorem dX12_next_250 : decode cX12_next 250 = .ok (.bipush 48, 2) := okd_at mX12_next_2 11 rfl
theorem dX12_next_252 : decode cX12_next 252 = .ok (.bipush 57, 2) := okd_at mX12_next_2 12 rfl
theorem dX12_next_254 : decode cX12_next 254 = .ok (.invokestatic 93, 3) := okd_at mX12_next_2 13 rfl
theorem dX12_next_257 : decode cX12_next 257 = .ok (.ifCond .eq 52, 3) := okd_at mX12_next_2 14 rfl
theorem dX12_next_260 : decode cX12_next 260 = .ok (.aload_n 0, 1) := okd_at mX12_next_2 15 rfl
theorem dX12_next_261 : decode cX12_next 261 = .ok (.iload_n 2, 1) := okd_at mX12_next_2 16 rfl
theorem dX12_next_262 : decode cX12_next 262 = .ok (.iconst 4, 1) := okd_at mX12_next_2 17 rfl
theorem dX12_next_263 : decode cX12_next 263 = .ok (.if_icmp .ge 26, 3) := okd_at mX12_next_2 18 rfl
theorem dX12_next_266 : decode cX12_next 266 = .ok (.bipush 10, 2) := okd_at mX12_next_2 19 rfl
theorem dX12_next_268 : decode cX12_next 268 = .ok (.aload_n 0, 1) := okd_at mX12_next_2 20 rfl
theorem dX12_next_269 : decode cX12_next 269 = .ok (.getfield 122, 3) := okd_at mX12_next_2 21 rfl
theorem dX12_next_272 : decode cX12_next 272 = .ok (.imul, 1) := okd_at mX12_next_2 22 rfl
theorem dX12_next_273 : decode cX12_next 273 = .ok (.aload_n 0, 1) := okd_at mX12_next_2 23 rfl
theorem dX12_next_274 : decode cX12_next 274 = .ok (.getfield 22, 3) := okd_at mX12_next_2 24 rfl
theorem dX12_next_277 : decode cX12_next 277 = .ok (.aload_n 0, 1) := okd_at mX12_next_2 25 rfl
theorem dX12_next_278 : decode cX12_next 278 = .ok (.getfield 113, 3) := okd_at mX12_next_2 26 rfl
theorem dX12_next_281 : decode cX12_next 281 = .ok (.iaload, 1) := okd_at mX12_next_2 27 rfl
theorem dX12_next_282 : decode cX12_next 282 = .ok (.iadd, 1) := okd_at mX12_next_2 28 rfl
theorem dX12_next_283 : decode cX12_next 283 = .ok (.bipush 48, 2) := okd_at mX12_next_2 29 rfl
theorem dX12_next_285 : decode cX12_next 285 = .ok (.isub, 1) := okd_at mX12_next_2 30 rfl
theorem dX12_next_286 : decode cX12_next 286 = .ok (.goto 4, 3) := okd_at mX12_next_2 31 rfl
theorem dX12_next_289 : decode cX12_next 289 = .ok (.iconst 0, 1) := okd_at mX12_next_2 32 rfl
theorem dX12_next_290 : decode cX12_next 290 = .ok (.putfield 122, 3) := okd_at mX12_next_2 33 rfl
theorem dX12_next_293 : decode cX12_next 293 = .ok (.iinc 2 1, 3) := okd_at mX12_next_2 34 rfl
theorem dX12_next_296 : decode cX12_next 296 = .ok (.aload_n 0, 1) := okd_at mX12_next_2 35 rfl
theorem dX12_next_297 : decode cX12_next 297 = .ok (.dup, 1) := okd_at mX12_next_2 36 rfl
theorem dX12_next_298 : decode cX12_next 298 = .ok (.getfield 113, 3) := okd_at mX12_next_2 37 rfl
theorem dX12_next_301 : decode cX12_next 301 = .ok (.iconst 1, 1) := okd_at mX12_next_2 38 rfl
theorem dX12_next_302 : decode cX12_next 302 = .ok (.iadd, 1) := okd_at mX12_next_2 39 rfl
theorem dX12_next_303 : decode cX12_next 303 = .ok (.putfield 113, 3) := okd_at mX12_next_2 40 rfl
theorem dX12_next_306 : decode cX12_next 306 = .ok (.goto (-76), 3) := okd_at mX12_next_2 41 rfl
theorem dX12_next_309 : decode cX12_next 309 = .ok (.aload_n 0, 1) := okd_at mX12_next_2 42 rfl
theorem dX12_next_310 : decode cX12_next 310 = .ok (.iload_n 2, 1) := okd_at mX12_next_2 43 rfl
theorem dX12_next_311 : decode cX12_next 311 = .ok (.iconst 4, 1) := okd_at mX12_next_2 44 rfl
theorem dX12_next_312 : decode cX12_next 312 = .ok (.if_icmp .le 7, 3) := okd_at mX12_next_2 45 rfl
theorem dX12_next_315 : decode cX12_next 315 = .ok (.iconst (-1), 1) := okd_at mX12_next_2 46 rfl
theorem dX12_next_316 : decode cX12_next 316 = .ok (.goto 4, 3) := okd_at mX12_next_2 47 rfl
theorem dX12_next_319 : decode cX12_next 319 = .ok (.iconst 1, 1) := okd_at mX12_next_2 48 rfl
theorem dX12_next_320 : decode cX12_next 320 = .ok (.putfield 119, 3) := okd_at mX12_next_2 49 rfl
theorem dX12_next_323 : decode cX12_next 323 = .ok (.goto 80, 3) := okd_at mX12_next_2 50 rfl
theorem dX12_next_326 : decode cX12_next 326 = .ok (.iload_n 1, 1) := okd_at mX12_next_2 51 rfl
theorem dX12_next_327 : decode cX12_next 327 = .ok (.bipush 40, 2) := okd_at mX12_next_2 52 rfl
theorem dX12_next_329 : decode cX12_next 329 = .ok (.if_icmp .eq 45, 3) := okd_at mX12_next_2 53 rfl
theorem dX12_next_332 : decode cX12_next 332 = .ok (.iload_n 1, 1) := okd_at mX12_next_2 54 rfl
theorem dX12_next_333 : decode cX12_next 333 = .ok (.bipush 41, 2) := okd_at mX12_next_2 55 rfl
theorem dX12_next_335 : decode cX12_next 335 = .ok (.if_icmp .eq 39, 3) := okd_at mX12_next_2 56 rfl
theorem dX12_next_338 : decode cX12_next 338 = .ok (.iload_n 1, 1) := okd_at mX12_next_2 57 rfl
theorem dX12_next_339 : decode cX12_next 339 = .ok (.bipush 59, 2) := okd_at mX12_next_2 58 rfl
theorem dX12_next_341 : decode cX12_next 341 = .ok (.if_icmp .eq 33, 3) := okd_at mX12_next_2 59 rfl
def lmX12_next_3 : List (Nat × Instr × Nat) := [(344, .iload_n 1, 1), (345, .bipush 43, 2), (347, .if_icmp .eq 27, 3), (350, .iload_n 1, 1), (351, .bipush 45, 2), (353, .if_icmp .eq 21, 3), (356, .iload_n 1, 1), (357, .bipush 42, 2), (359, .if_icmp .eq 15, 3), (362, .iload_n 1, 1), (363, .bipush 60, 2), (365, .if_icmp .eq 9, 3), (368, .iload_n 1, 1), (369, .bipush 61, 2), (371, .if_icmp .ne 7, 3), (374, .iconst 1, 1), (375, .goto 4, 3), (378, .iconst 0, 1), (379, .istore_n 2, 1), (380, .aload_n 0, 1), (381, .iload_n 2, 1), (382, .ifCond .eq 7, 3), (385, .iload_n 1, 1), (386, .goto 4, 3), (389, .iconst (-1), 1), (390, .putfield 119, 3), (393, .aload_n 0, 1), (394, .dup, 1), (395, .getfield 113, 3), (398, .iconst 1, 1), (399, .iadd, 1), (400, .putfield 113, 3), (403, .return_, 1)]
theorem mX12_next_3 : okd cX12_next lmX12_next_3 = true := by decide +kernel
theorem dX12_next_344 : decode cX12_next 344 = .ok (.iload_n 1, 1) := okd_at mX12_next_3 0 rfl
theorem dX12_next_345 : decode cX12_next 345 = .ok (.bipush 43, 2) := okd_at mX12_next_3 1 rfl
theorem dX12_next_347 : decode cX12_next 347 = .ok (.if_icmp .eq 27, 3) := okd_at mX12_next_3 2 rfl
theorem dX12_next_350 : decode cX12_next 350 = .ok (.iload_n 1, 1) := okd_at mX12_next_3 3 rfl
theorem dX12_next_351 : decode cX12_next 351 = .ok (.bipush 45, 2) := okd_at mX12_next_3 4 rfl
theorem dX12_next_353 : decode cX12_next 353 = .ok (.if_icmp .eq 21, 3) := okd_at mX12_next_3 5 rfl
theorem dX12_next_356 : decode cX12_next 356 = .ok (.iload_n 1, 1) := okd_at mX12_next_3 6 rfl
theorem dX12_next_357 : decode cX12_next 357 = .ok (.bipush 42, 2) := okd_at mX12_next_3 7 rfl
theorem dX12_next_359 : decode cX12_next 359 = .ok (.if_icmp .eq 15, 3) := okd_at mX12_next_3 8 rfl
theorem dX12_next_362 : decode cX12_next 362 = .ok (.iload_n 1, 1) := okd_at mX12_next_3 9 rfl
theorem dX12_next_363 : decode cX12_next 363 = .ok (.bipush 60, 2) := okd_at mX12_next_3 10 rfl
theorem dX12_next_365 : decode cX12_next 365 = .ok (.if_icmp .eq 9, 3) := okd_at mX12_next_3 11 rfl
theorem dX12_next_368 : decode cX12_next 368 = .ok (.iload_n 1, 1) := okd_at mX12_next_3 12 rfl
theorem dX12_next_369 : decode cX12_next 369 = .ok (.bipush 61, 2) := okd_at mX12_next_3 13 rfl
theorem dX12_next_371 : decode cX12_next 371 = .ok (.if_icmp .ne 7, 3) := okd_at mX12_next_3 14 rfl
theorem dX12_next_374 : decode cX12_next 374 = .ok (.iconst 1, 1) := okd_at mX12_next_3 15 rfl
theorem dX12_next_375 : decode cX12_next 375 = .ok (.goto 4, 3) := okd_at mX12_next_3 16 rfl
theorem dX12_next_378 : decode cX12_next 378 = .ok (.iconst 0, 1) := okd_at mX12_next_3 17 rfl
theorem dX12_next_379 : decode cX12_next 379 = .ok (.istore_n 2, 1) := okd_at mX12_next_3 18 rfl
theorem dX12_next_380 : decode cX12_next 380 = .ok (.aload_n 0, 1) := okd_at mX12_next_3 19 rfl
theorem dX12_next_381 : decode cX12_next 381 = .ok (.iload_n 2, 1) := okd_at mX12_next_3 20 rfl
theorem dX12_next_382 : decode cX12_next 382 = .ok (.ifCond .eq 7, 3) := okd_at mX12_next_3 21 rfl
theorem dX12_next_385 : decode cX12_next 385 = .ok (.iload_n 1, 1) := okd_at mX12_next_3 22 rfl
theorem dX12_next_386 : decode cX12_next 386 = .ok (.goto 4, 3) := okd_at mX12_next_3 23 rfl
theorem dX12_next_389 : decode cX12_next 389 = .ok (.iconst (-1), 1) := okd_at mX12_next_3 24 rfl
theorem dX12_next_390 : decode cX12_next 390 = .ok (.putfield 119, 3) := okd_at mX12_next_3 25 rfl
theorem dX12_next_393 : decode cX12_next 393 = .ok (.aload_n 0, 1) := okd_at mX12_next_3 26 rfl
theorem dX12_next_394 : decode cX12_next 394 = .ok (.dup, 1) := okd_at mX12_next_3 27 rfl
theorem dX12_next_395 : decode cX12_next 395 = .ok (.getfield 113, 3) := okd_at mX12_next_3 28 rfl
theorem dX12_next_398 : decode cX12_next 398 = .ok (.iconst 1, 1) := okd_at mX12_next_3 29 rfl
theorem dX12_next_399 : decode cX12_next 399 = .ok (.iadd, 1) := okd_at mX12_next_3 30 rfl
theorem dX12_next_400 : decode cX12_next 400 = .ok (.putfield 113, 3) := okd_at mX12_next_3 31 rfl
theorem dX12_next_403 : decode cX12_next 403 = .ok (.return_, 1) := okd_at mX12_next_3 32 rfl
def lmX12_noneWon_0 : List (Nat × Instr × Nat) := [(0, .iconst 0, 1), (1, .istore_n 1, 1), (2, .iconst 0, 1), (3, .istore_n 2, 1), (4, .iload_n 2, 1), (5, .aload_n 0, 1), (6, .getfield 90, 3), (9, .if_icmp .ge 28, 3), (12, .iload_n 1, 1), (13, .aload_n 0, 1), (14, .getfield 61, 3), (17, .iload_n 2, 1), (18, .iaload, 1), (19, .ifCond .ne 9, 3), (22, .iconst 1, 1), (23, .iload_n 2, 1), (24, .ishl, 1), (25, .goto 4, 3), (28, .iconst 0, 1), (29, .ior, 1), (30, .istore_n 1, 1), (31, .iinc 2 1, 3), (34, .goto (-30), 3), (37, .iload_n 1, 1), (38, .ireturn, 1)]
theorem mX12_noneWon_0 : okd cX12_noneWon lmX12_noneWon_0 = true := by decide +kernel
theorem dX12_noneWon_0 : decode cX12_noneWon 0 = .ok (.iconst 0, 1) := okd_at mX12_noneWon_0 0 rfl
theorem dX12_noneWon_1 : decode cX12_noneWon 1 = .ok (.istore_n 1, 1) := okd_at mX12_noneWon_0 1 rfl
theorem dX12_noneWon_2 : decode cX12_noneWon 2 = .ok (.iconst 0, 1) := okd_at mX12_noneWon_0 2 rfl
theorem dX12_noneWon_3 : decode cX12_noneWon 3 = .ok (.istore_n 2, 1) := okd_at mX12_noneWon_0 3 rfl
theorem dX12_noneWon_4 : decode cX12_noneWon 4 = .ok (.iload_n 2, 1) := okd_at mX12_noneWon_0 4 rfl
theorem dX12_noneWon_5 : decode cX12_noneWon 5 = .ok (.aload_n 0, 1) := okd_at mX12_noneWon_0 5 rfl
theorem dX12_noneWon_6 : decode cX12_noneWon 6 = .ok (.getfield 90, 3) := okd_at mX12_noneWon_0 6 rfl
theorem dX12_noneWon_9 : decode cX12_noneWon 9 = .ok (.if_icmp .ge 28, 3) := okd_at mX12_noneWon_0 7 rfl
theorem dX12_noneWon_12 : decode cX12_noneWon 12 = .ok (.iload_n 1, 1) := okd_at mX12_noneWon_0 8 rfl
theorem dX12_noneWon_13 : decode cX12_noneWon 13 = .ok (.aload_n 0, 1) := okd_at mX12_noneWon_0 9 rfl
theorem dX12_noneWon_14 : decode cX12_noneWon 14 = .ok (.getfield 61, 3) := okd_at mX12_noneWon_0 10 rfl
theorem dX12_noneWon_17 : decode cX12_noneWon 17 = .ok (.iload_n 2, 1) := okd_at mX12_noneWon_0 11 rfl
theorem dX12_noneWon_18 : decode cX12_noneWon 18 = .ok (.iaload, 1) := okd_at mX12_noneWon_0 12 rfl
theorem dX12_noneWon_19 : decode cX12_noneWon 19 = .ok (.ifCond .ne 9, 3) := okd_at mX12_noneWon_0 13 rfl
theorem dX12_noneWon_22 : decode cX12_noneWon 22 = .ok (.iconst 1, 1) := okd_at mX12_noneWon_0 14 rfl
theorem dX12_noneWon_23 : decode cX12_noneWon 23 = .ok (.iload_n 2, 1) := okd_at mX12_noneWon_0 15 rfl
theorem dX12_noneWon_24 : decode cX12_noneWon 24 = .ok (.ishl, 1) := okd_at mX12_noneWon_0 16 rfl
theorem dX12_noneWon_25 : decode cX12_noneWon 25 = .ok (.goto 4, 3) := okd_at mX12_noneWon_0 17 rfl
theorem dX12_noneWon_28 : decode cX12_noneWon 28 = .ok (.iconst 0, 1) := okd_at mX12_noneWon_0 18 rfl
theorem dX12_noneWon_29 : decode cX12_noneWon 29 = .ok (.ior, 1) := okd_at mX12_noneWon_0 19 rfl
theorem dX12_noneWon_30 : decode cX12_noneWon 30 = .ok (.istore_n 1, 1) := okd_at mX12_noneWon_0 20 rfl
theorem dX12_noneWon_31 : decode cX12_noneWon 31 = .ok (.iinc 2 1, 3) := okd_at mX12_noneWon_0 21 rfl
theorem dX12_noneWon_34 : decode cX12_noneWon 34 = .ok (.goto (-30), 3) := okd_at mX12_noneWon_0 22 rfl
theorem dX12_noneWon_37 : decode cX12_noneWon 37 = .ok (.iload_n 1, 1) := okd_at mX12_noneWon_0 23 rfl
theorem dX12_noneWon_38 : decode cX12_noneWon 38 = .ok (.ireturn, 1) := okd_at mX12_noneWon_0 24 rfl
def lmX12_odds_0 : List (Nat × Instr × Nat) := [(0, .iload_n 1, 1), (1, .iconst 0, 1), (2, .ldc_w 265, 3), (5, .invokestatic 93, 3), (8, .ifCond .eq 33, 3), (11, .iload_n 2, 1), (12, .iconst 1, 1), (13, .bipush 60, 2), (15, .invokestatic 93, 3), (18, .ifCond .eq 23, 3), (21, .iload_n 3, 1), (22, .iconst 0, 1), (23, .bipush 8, 2), (25, .invokestatic 93, 3), (28, .ifCond .eq 13, 3), (31, .iload 4, 2), (33, .iconst 0, 1), (34, .iconst 1, 1), (35, .invokestatic 93, 3), (38, .ifCond .ne 7, 3), (41, .ldc2_w 269, 3), (44, .lreturn, 1), (45, .lconst 0, 1), (46, .lstore 5, 2), (48, .iconst 0, 1), (49, .istore 7, 2), (51, .iload 7, 2), (53, .iload_n 2, 1), (54, .if_icmp .ge 35, 3), (57, .aload_n 0, 1), (58, .iload_n 1, 1), (59, .iload 7, 2), (61, .iadd, 1), (62, .invokevirtual 266, 3), (65, .lload 5, 2), (67, .aload_n 0, 1), (68, .getfield 213, 3), (71, .iload_n 3, 1), (72, .if_icmp .gt 7, 3), (75, .lconst 1, 1), (76, .goto 4, 3), (79, .lconst 0, 1), (80, .ladd, 1), (81, .lstore 5, 2), (83, .iinc 7 1, 3), (86, .goto (-35), 3), (89, .lload 5, 2), (91, .iload_n 2, 1), (92, .i2l, 1), (93, .iload 4, 2), (95, .invokestatic 271, 3), (98, .lreturn, 1)]
theorem mX12_odds_0 : okd cX12_odds lmX12_odds_0 = true := by decide +kernel
theorem dX12_odds_0 : decode cX12_odds 0 = .ok (.iload_n 1, 1) := okd_at mX12_odds_0 0 rfl
theorem dX12_odds_1 : decode cX12_odds 1 = .ok (.iconst 0, 1) := okd_at mX12_odds_0 1 rfl
theorem dX12_odds_2 : decode cX12_odds 2 = .ok (.ldc_w 265, 3) := okd_at mX12_odds_0 2 rfl
theorem dX12_odds_5 : decode cX12_odds 5 = .ok (.invokestatic 93, 3) := okd_at mX12_odds_0 3 rfl
theorem dX12_odds_8 : decode cX12_odds 8 = .ok (.ifCond .eq 33, 3) := okd_at mX12_odds_0 4 rfl
theorem dX12_odds_11 : decode cX12_odds 11 = .ok (.iload_n 2, 1) := okd_at mX12_odds_0 5 rfl
theorem dX12_odds_12 : decode cX12_odds 12 = .ok (.iconst 1, 1) := okd_at mX12_odds_0 6 rfl
theorem dX12_odds_13 : decode cX12_odds 13 = .ok (.bipush 60, 2) := okd_at mX12_odds_0 7 rfl
theorem dX12_odds_15 : decode cX12_odds 15 = .ok (.invokestatic 93, 3) := okd_at mX12_odds_0 8 rfl
theorem dX12_odds_18 : decode cX12_odds 18 = .ok (.ifCond .eq 23, 3) := okd_at mX12_odds_0 9 rfl
theorem dX12_odds_21 : decode cX12_odds 21 = .ok (.iload_n 3, 1) := okd_at mX12_odds_0 10 rfl
theorem dX12_odds_22 : decode cX12_odds 22 = .ok (.iconst 0, 1) := okd_at mX12_odds_0 11 rfl
theorem dX12_odds_23 : decode cX12_odds 23 = .ok (.bipush 8, 2) := okd_at mX12_odds_0 12 rfl
theorem dX12_odds_25 : decode cX12_odds 25 = .ok (.invokestatic 93, 3) := okd_at mX12_odds_0 13 rfl
theorem dX12_odds_28 : decode cX12_odds 28 = .ok (.ifCond .eq 13, 3) := okd_at mX12_odds_0 14 rfl
theorem dX12_odds_31 : decode cX12_odds 31 = .ok (.iload 4, 2) := okd_at mX12_odds_0 15 rfl
theorem dX12_odds_33 : decode cX12_odds 33 = .ok (.iconst 0, 1) := okd_at mX12_odds_0 16 rfl
theorem dX12_odds_34 : decode cX12_odds 34 = .ok (.iconst 1, 1) := okd_at mX12_odds_0 17 rfl
theorem dX12_odds_35 : decode cX12_odds 35 = .ok (.invokestatic 93, 3) := okd_at mX12_odds_0 18 rfl
theorem dX12_odds_38 : decode cX12_odds 38 = .ok (.ifCond .ne 7, 3) := okd_at mX12_odds_0 19 rfl
theorem dX12_odds_41 : decode cX12_odds 41 = .ok (.ldc2_w 269, 3) := okd_at mX12_odds_0 20 rfl
theorem dX12_odds_44 : decode cX12_odds 44 = .ok (.lreturn, 1) := okd_at mX12_odds_0 21 rfl
theorem dX12_odds_45 : decode cX12_odds 45 = .ok (.lconst 0, 1) := okd_at mX12_odds_0 22 rfl
theorem dX12_odds_46 : decode cX12_odds 46 = .ok (.lstore 5, 2) := okd_at mX12_odds_0 23 rfl
theorem dX12_odds_48 : decode cX12_odds 48 = .ok (.iconst 0, 1) := okd_at mX12_odds_0 24 rfl
theorem dX12_odds_49 : decode cX12_odds 49 = .ok (.istore 7, 2) := okd_at mX12_odds_0 25 rfl
theorem dX12_odds_51 : decode cX12_odds 51 = .ok (.iload 7, 2) := okd_at mX12_odds_0 26 rfl
theorem dX12_odds_53 : decode cX12_odds 53 = .ok (.iload_n 2, 1) := okd_at mX12_odds_0 27 rfl
theorem dX12_odds_54 : decode cX12_odds 54 = .ok (.if_icmp .ge 35, 3) := okd_at mX12_odds_0 28 rfl
theorem dX12_odds_57 : decode cX12_odds 57 = .ok (.aload_n 0, 1) := okd_at mX12_odds_0 29 rfl
theorem dX12_odds_58 : decode cX12_odds 58 = .ok (.iload_n 1, 1) := okd_at mX12_odds_0 30 rfl
theorem dX12_odds_59 : decode cX12_odds 59 = .ok (.iload 7, 2) := okd_at mX12_odds_0 31 rfl
theorem dX12_odds_61 : decode cX12_odds 61 = .ok (.iadd, 1) := okd_at mX12_odds_0 32 rfl
theorem dX12_odds_62 : decode cX12_odds 62 = .ok (.invokevirtual 266, 3) := okd_at mX12_odds_0 33 rfl
theorem dX12_odds_65 : decode cX12_odds 65 = .ok (.lload 5, 2) := okd_at mX12_odds_0 34 rfl
theorem dX12_odds_67 : decode cX12_odds 67 = .ok (.aload_n 0, 1) := okd_at mX12_odds_0 35 rfl
theorem dX12_odds_68 : decode cX12_odds 68 = .ok (.getfield 213, 3) := okd_at mX12_odds_0 36 rfl
theorem dX12_odds_71 : decode cX12_odds 71 = .ok (.iload_n 3, 1) := okd_at mX12_odds_0 37 rfl
theorem dX12_odds_72 : decode cX12_odds 72 = .ok (.if_icmp .gt 7, 3) := okd_at mX12_odds_0 38 rfl
theorem dX12_odds_75 : decode cX12_odds 75 = .ok (.lconst 1, 1) := okd_at mX12_odds_0 39 rfl
theorem dX12_odds_76 : decode cX12_odds 76 = .ok (.goto 4, 3) := okd_at mX12_odds_0 40 rfl
theorem dX12_odds_79 : decode cX12_odds 79 = .ok (.lconst 0, 1) := okd_at mX12_odds_0 41 rfl
theorem dX12_odds_80 : decode cX12_odds 80 = .ok (.ladd, 1) := okd_at mX12_odds_0 42 rfl
theorem dX12_odds_81 : decode cX12_odds 81 = .ok (.lstore 5, 2) := okd_at mX12_odds_0 43 rfl
theorem dX12_odds_83 : decode cX12_odds 83 = .ok (.iinc 7 1, 3) := okd_at mX12_odds_0 44 rfl
theorem dX12_odds_86 : decode cX12_odds 86 = .ok (.goto (-35), 3) := okd_at mX12_odds_0 45 rfl
theorem dX12_odds_89 : decode cX12_odds 89 = .ok (.lload 5, 2) := okd_at mX12_odds_0 46 rfl
theorem dX12_odds_91 : decode cX12_odds 91 = .ok (.iload_n 2, 1) := okd_at mX12_odds_0 47 rfl
theorem dX12_odds_92 : decode cX12_odds 92 = .ok (.i2l, 1) := okd_at mX12_odds_0 48 rfl
theorem dX12_odds_93 : decode cX12_odds 93 = .ok (.iload 4, 2) := okd_at mX12_odds_0 49 rfl
theorem dX12_odds_95 : decode cX12_odds 95 = .ok (.invokestatic 271, 3) := okd_at mX12_odds_0 50 rfl
theorem dX12_odds_98 : decode cX12_odds 98 = .ok (.lreturn, 1) := okd_at mX12_odds_0 51 rfl
def lmX12_ones_0 : List (Nat × Instr × Nat) := [(0, .iconst 0, 1), (1, .istore_n 1, 1), (2, .iconst 0, 1), (3, .istore_n 2, 1), (4, .iload_n 2, 1), (5, .bipush 8, 2), (7, .if_icmp .ge 17, 3), (10, .iload_n 1, 1), (11, .iload_n 0, 1), (12, .iload_n 2, 1), (13, .ishr, 1), (14, .iconst 1, 1), (15, .iand, 1), (16, .iadd, 1), (17, .istore_n 1, 1), (18, .iinc 2 1, 3), (21, .goto (-17), 3), (24, .iload_n 1, 1), (25, .ireturn, 1)]
theorem mX12_ones_0 : okd cX12_ones lmX12_ones_0 = true := by decide +kernel
theorem dX12_ones_0 : decode cX12_ones 0 = .ok (.iconst 0, 1) := okd_at mX12_ones_0 0 rfl
theorem dX12_ones_1 : decode cX12_ones 1 = .ok (.istore_n 1, 1) := okd_at mX12_ones_0 1 rfl
theorem dX12_ones_2 : decode cX12_ones 2 = .ok (.iconst 0, 1) := okd_at mX12_ones_0 2 rfl
theorem dX12_ones_3 : decode cX12_ones 3 = .ok (.istore_n 2, 1) := okd_at mX12_ones_0 3 rfl
theorem dX12_ones_4 : decode cX12_ones 4 = .ok (.iload_n 2, 1) := okd_at mX12_ones_0 4 rfl
theorem dX12_ones_5 : decode cX12_ones 5 = .ok (.bipush 8, 2) := okd_at mX12_ones_0 5 rfl
theorem dX12_ones_7 : decode cX12_ones 7 = .ok (.if_icmp .ge 17, 3) := okd_at mX12_ones_0 6 rfl
theorem dX12_ones_10 : decode cX12_ones 10 = .ok (.iload_n 1, 1) := okd_at mX12_ones_0 7 rfl
theorem dX12_ones_11 : decode cX12_ones 11 = .ok (.iload_n 0, 1) := okd_at mX12_ones_0 8 rfl
theorem dX12_ones_12 : decode cX12_ones 12 = .ok (.iload_n 2, 1) := okd_at mX12_ones_0 9 rfl
theorem dX12_ones_13 : decode cX12_ones 13 = .ok (.ishr, 1) := okd_at mX12_ones_0 10 rfl
theorem dX12_ones_14 : decode cX12_ones 14 = .ok (.iconst 1, 1) := okd_at mX12_ones_0 11 rfl
theorem dX12_ones_15 : decode cX12_ones 15 = .ok (.iand, 1) := okd_at mX12_ones_0 12 rfl
theorem dX12_ones_16 : decode cX12_ones 16 = .ok (.iadd, 1) := okd_at mX12_ones_0 13 rfl
theorem dX12_ones_17 : decode cX12_ones 17 = .ok (.istore_n 1, 1) := okd_at mX12_ones_0 14 rfl
theorem dX12_ones_18 : decode cX12_ones 18 = .ok (.iinc 2 1, 3) := okd_at mX12_ones_0 15 rfl
theorem dX12_ones_21 : decode cX12_ones 21 = .ok (.goto (-17), 3) := okd_at mX12_ones_0 16 rfl
theorem dX12_ones_24 : decode cX12_ones 24 = .ok (.iload_n 1, 1) := okd_at mX12_ones_0 17 rfl
theorem dX12_ones_25 : decode cX12_ones 25 = .ok (.ireturn, 1) := okd_at mX12_ones_0 18 rfl
def lmX12_opensOne_0 : List (Nat × Instr × Nat) := [(0, .aload_n 0, 1), (1, .getfield 139, 3), (4, .iconst 5, 1), (5, .if_icmp .ne 5, 3), (8, .iconst 0, 1), (9, .ireturn, 1), (10, .aload_n 0, 1), (11, .dup, 1), (12, .getfield 139, 3), (15, .iconst 1, 1), (16, .iadd, 1), (17, .putfield 139, 3), (20, .aload_n 0, 1), (21, .iload_n 1, 1), (22, .invokevirtual 146, 3), (25, .iconst 1, 1), (26, .ireturn, 1)]
theorem mX12_opensOne_0 : okd cX12_opensOne lmX12_opensOne_0 = true := by decide +kernel
theorem dX12_opensOne_0 : decode cX12_opensOne 0 = .ok (.aload_n 0, 1) := okd_at mX12_opensOne_0 0 rfl
theorem dX12_opensOne_1 : decode cX12_opensOne 1 = .ok (.getfield 139, 3) := okd_at mX12_opensOne_0 1 rfl
theorem dX12_opensOne_4 : decode cX12_opensOne 4 = .ok (.iconst 5, 1) := okd_at mX12_opensOne_0 2 rfl
theorem dX12_opensOne_5 : decode cX12_opensOne 5 = .ok (.if_icmp .ne 5, 3) := okd_at mX12_opensOne_0 3 rfl
theorem dX12_opensOne_8 : decode cX12_opensOne 8 = .ok (.iconst 0, 1) := okd_at mX12_opensOne_0 4 rfl
theorem dX12_opensOne_9 : decode cX12_opensOne 9 = .ok (.ireturn, 1) := okd_at mX12_opensOne_0 5 rfl
theorem dX12_opensOne_10 : decode cX12_opensOne 10 = .ok (.aload_n 0, 1) := okd_at mX12_opensOne_0 6 rfl
theorem dX12_opensOne_11 : decode cX12_opensOne 11 = .ok (.dup, 1) := okd_at mX12_opensOne_0 7 rfl
theorem dX12_opensOne_12 : decode cX12_opensOne 12 = .ok (.getfield 139, 3) := okd_at mX12_opensOne_0 8 rfl
theorem dX12_opensOne_15 : decode cX12_opensOne 15 = .ok (.iconst 1, 1) := okd_at mX12_opensOne_0 9 rfl
theorem dX12_opensOne_16 : decode cX12_opensOne 16 = .ok (.iadd, 1) := okd_at mX12_opensOne_0 10 rfl
theorem dX12_opensOne_17 : decode cX12_opensOne 17 = .ok (.putfield 139, 3) := okd_at mX12_opensOne_0 11 rfl
theorem dX12_opensOne_20 : decode cX12_opensOne 20 = .ok (.aload_n 0, 1) := okd_at mX12_opensOne_0 12 rfl
theorem dX12_opensOne_21 : decode cX12_opensOne 21 = .ok (.iload_n 1, 1) := okd_at mX12_opensOne_0 13 rfl
theorem dX12_opensOne_22 : decode cX12_opensOne 22 = .ok (.invokevirtual 146, 3) := okd_at mX12_opensOne_0 14 rfl
theorem dX12_opensOne_25 : decode cX12_opensOne 25 = .ok (.iconst 1, 1) := okd_at mX12_opensOne_0 15 rfl
theorem dX12_opensOne_26 : decode cX12_opensOne 26 = .ok (.ireturn, 1) := okd_at mX12_opensOne_0 16 rfl
def lmX12_order_0 : List (Nat × Instr × Nat) := [(0, .iload_n 1, 1), (1, .iconst 0, 1), (2, .iconst 2, 1), (3, .invokestatic 93, 3), (6, .ifCond .ne 7, 3), (9, .sipush (-1000), 3), (12, .ireturn, 1), (13, .aload_n 0, 1), (14, .invokevirtual 234, 3), (17, .aload_n 0, 1), (18, .getfield 97, 3), (21, .ifCond .ne 7, 3), (24, .iconst 0, 1), (25, .goto 4, 3), (28, .iconst 1, 1), (29, .istore_n 2, 1), (30, .iconst 0, 1), (31, .istore_n 3, 1), (32, .iload_n 3, 1), (33, .aload_n 0, 1), (34, .getfield 97, 3), (37, .if_icmp .ge 16, 3), (40, .iload_n 2, 1), (41, .aload_n 0, 1), (42, .getfield 97, 3), (45, .imul, 1), (46, .istore_n 2, 1), (47, .iinc 3 1, 3), (50, .goto (-18), 3), (53, .iconst 0, 1), (54, .istore_n 3, 1), (55, .iload_n 3, 1), (56, .iload_n 2, 1), (57, .if_icmp .ge 25, 3), (60, .aload_n 0, 1), (61, .iload_n 3, 1), (62, .invokevirtual 250, 3), (65, .ifCond .eq 11, 3), (68, .aload_n 0, 1), (69, .aload_n 0, 1), (70, .getfield 247, 3), (73, .invokevirtual 237, 3), (76, .iinc 3 1, 3), (79, .goto (-24), 3), (82, .iconst 0, 1), (83, .istore_n 3, 1), (84, .iload_n 3, 1), (85, .bipush 6, 2), (87, .if_icmp .ge 16, 3), (90, .aload_n 0, 1), (91, .getfield 73, 3), (94, .iload_n 3, 1), (95, .iload_n 3, 1), (96, .iastore, 1), (97, .iinc 3 1, 3), (100, .goto (-16), 3), (103, .aload_n 0, 1), (104, .iload_n 1, 1), (105, .invokevirtual 244, 3), (108, .ireturn, 1)]
theorem mX12_order_0 : okd cX12_order lmX12_order_0 = true := by decide +kernel
theorem dX12_order_0 : decode cX12_order 0 = .ok (.iload_n 1, 1) := okd_at mX12_order_0 0 rfl
theorem dX12_order_1 : decode cX12_order 1 = .ok (.iconst 0, 1) := okd_at mX12_order_0 1 rfl
theorem dX12_order_2 : decode cX12_order 2 = .ok (.iconst 2, 1) := okd_at mX12_order_0 2 rfl
theorem dX12_order_3 : decode cX12_order 3 = .ok (.invokestatic 93, 3) := okd_at mX12_order_0 3 rfl
theorem dX12_order_6 : decode cX12_order 6 = .ok (.ifCond .ne 7, 3) := okd_at mX12_order_0 4 rfl
theorem dX12_order_9 : decode cX12_order 9 = .ok (.sipush (-1000), 3) := okd_at mX12_order_0 5 rfl
theorem dX12_order_12 : decode cX12_order 12 = .ok (.ireturn, 1) := okd_at mX12_order_0 6 rfl
theorem dX12_order_13 : decode cX12_order 13 = .ok (.aload_n 0, 1) := okd_at mX12_order_0 7 rfl
theorem dX12_order_14 : decode cX12_order 14 = .ok (.invokevirtual 234, 3) := okd_at mX12_order_0 8 rfl
theorem dX12_order_17 : decode cX12_order 17 = .ok (.aload_n 0, 1) := okd_at mX12_order_0 9 rfl
theorem dX12_order_18 : decode cX12_order 18 = .ok (.getfield 97, 3) := okd_at mX12_order_0 10 rfl
theorem dX12_order_21 : decode cX12_order 21 = .ok (.ifCond .ne 7, 3) := okd_at mX12_order_0 11 rfl
theorem dX12_order_24 : decode cX12_order 24 = .ok (.iconst 0, 1) := okd_at mX12_order_0 12 rfl
theorem dX12_order_25 : decode cX12_order 25 = .ok (.goto 4, 3) := okd_at mX12_order_0 13 rfl
theorem dX12_order_28 : decode cX12_order 28 = .ok (.iconst 1, 1) := okd_at mX12_order_0 14 rfl
theorem dX12_order_29 : decode cX12_order 29 = .ok (.istore_n 2, 1) := okd_at mX12_order_0 15 rfl
theorem dX12_order_30 : decode cX12_order 30 = .ok (.iconst 0, 1) := okd_at mX12_order_0 16 rfl
theorem dX12_order_31 : decode cX12_order 31 = .ok (.istore_n 3, 1) := okd_at mX12_order_0 17 rfl
theorem dX12_order_32 : decode cX12_order 32 = .ok (.iload_n 3, 1) := okd_at mX12_order_0 18 rfl
theorem dX12_order_33 : decode cX12_order 33 = .ok (.aload_n 0, 1) := okd_at mX12_order_0 19 rfl
theorem dX12_order_34 : decode cX12_order 34 = .ok (.getfield 97, 3) := okd_at mX12_order_0 20 rfl
theorem dX12_order_37 : decode cX12_order 37 = .ok (.if_icmp .ge 16, 3) := okd_at mX12_order_0 21 rfl
theorem dX12_order_40 : decode cX12_order 40 = .ok (.iload_n 2, 1) := okd_at mX12_order_0 22 rfl
theorem dX12_order_41 : decode cX12_order 41 = .ok (.aload_n 0, 1) := okd_at mX12_order_0 23 rfl
theorem dX12_order_42 : decode cX12_order 42 = .ok (.getfield 97, 3) := okd_at mX12_order_0 24 rfl
theorem dX12_order_45 : decode cX12_order 45 = .ok (.imul, 1) := okd_at mX12_order_0 25 rfl
theorem dX12_order_46 : decode cX12_order 46 = .ok (.istore_n 2, 1) := okd_at mX12_order_0 26 rfl
theorem dX12_order_47 : decode cX12_order 47 = .ok (.iinc 3 1, 3) := okd_at mX12_order_0 27 rfl
theorem dX12_order_50 : decode cX12_order 50 = .ok (.goto (-18), 3) := okd_at mX12_order_0 28 rfl
theorem dX12_order_53 : decode cX12_order 53 = .ok (.iconst 0, 1) := okd_at mX12_order_0 29 rfl
theorem dX12_order_54 : decode cX12_order 54 = .ok (.istore_n 3, 1) := okd_at mX12_order_0 30 rfl
theorem dX12_order_55 : decode cX12_order 55 = .ok (.iload_n 3, 1) := okd_at mX12_order_0 31 rfl
theorem dX12_order_56 : decode cX12_order 56 = .ok (.iload_n 2, 1) := okd_at mX12_order_0 32 rfl
theorem dX12_order_57 : decode cX12_order 57 = .ok (.if_icmp .ge 25, 3) := okd_at mX12_order_0 33 rfl
theorem dX12_order_60 : decode cX12_order 60 = .ok (.aload_n 0, 1) := okd_at mX12_order_0 34 rfl
theorem dX12_order_61 : decode cX12_order 61 = .ok (.iload_n 3, 1) := okd_at mX12_order_0 35 rfl
theorem dX12_order_62 : decode cX12_order 62 = .ok (.invokevirtual 250, 3) := okd_at mX12_order_0 36 rfl
theorem dX12_order_65 : decode cX12_order 65 = .ok (.ifCond .eq 11, 3) := okd_at mX12_order_0 37 rfl
theorem dX12_order_68 : decode cX12_order 68 = .ok (.aload_n 0, 1) := okd_at mX12_order_0 38 rfl
theorem dX12_order_69 : decode cX12_order 69 = .ok (.aload_n 0, 1) := okd_at mX12_order_0 39 rfl
theorem dX12_order_70 : decode cX12_order 70 = .ok (.getfield 247, 3) := okd_at mX12_order_0 40 rfl
theorem dX12_order_73 : decode cX12_order 73 = .ok (.invokevirtual 237, 3) := okd_at mX12_order_0 41 rfl
theorem dX12_order_76 : decode cX12_order 76 = .ok (.iinc 3 1, 3) := okd_at mX12_order_0 42 rfl
theorem dX12_order_79 : decode cX12_order 79 = .ok (.goto (-24), 3) := okd_at mX12_order_0 43 rfl
theorem dX12_order_82 : decode cX12_order 82 = .ok (.iconst 0, 1) := okd_at mX12_order_0 44 rfl
theorem dX12_order_83 : decode cX12_order 83 = .ok (.istore_n 3, 1) := okd_at mX12_order_0 45 rfl
theorem dX12_order_84 : decode cX12_order 84 = .ok (.iload_n 3, 1) := okd_at mX12_order_0 46 rfl
theorem dX12_order_85 : decode cX12_order 85 = .ok (.bipush 6, 2) := okd_at mX12_order_0 47 rfl
theorem dX12_order_87 : decode cX12_order 87 = .ok (.if_icmp .ge 16, 3) := okd_at mX12_order_0 48 rfl
theorem dX12_order_90 : decode cX12_order 90 = .ok (.aload_n 0, 1) := okd_at mX12_order_0 49 rfl
theorem dX12_order_91 : decode cX12_order 91 = .ok (.getfield 73, 3) := okd_at mX12_order_0 50 rfl
theorem dX12_order_94 : decode cX12_order 94 = .ok (.iload_n 3, 1) := okd_at mX12_order_0 51 rfl
theorem dX12_order_95 : decode cX12_order 95 = .ok (.iload_n 3, 1) := okd_at mX12_order_0 52 rfl
theorem dX12_order_96 : decode cX12_order 96 = .ok (.iastore, 1) := okd_at mX12_order_0 53 rfl
theorem dX12_order_97 : decode cX12_order 97 = .ok (.iinc 3 1, 3) := okd_at mX12_order_0 54 rfl
theorem dX12_order_100 : decode cX12_order 100 = .ok (.goto (-16), 3) := okd_at mX12_order_0 55 rfl
theorem dX12_order_103 : decode cX12_order 103 = .ok (.aload_n 0, 1) := okd_at mX12_order_0 56 rfl
theorem dX12_order_104 : decode cX12_order 104 = .ok (.iload_n 1, 1) := okd_at mX12_order_0 57 rfl
theorem dX12_order_105 : decode cX12_order 105 = .ok (.invokevirtual 244, 3) := okd_at mX12_order_0 58 rfl
theorem dX12_order_108 : decode cX12_order 108 = .ok (.ireturn, 1) := okd_at mX12_order_0 59 rfl
def lmX12_put_0 : List (Nat × Instr × Nat) := [(0, .aload_n 0, 1), (1, .iload_n 1, 1), (2, .invokevirtual 106, 3), (5, .ifCond .ne 6, 3), (8, .bipush (-5), 2), (10, .ireturn, 1), (11, .iload_n 2, 1), (12, .iconst 0, 1), (13, .iconst 2, 1), (14, .invokestatic 93, 3), (17, .ifCond .eq 13, 3), (20, .iload_n 3, 1), (21, .iconst 0, 1), (22, .bipush 99, 2), (24, .invokestatic 93, 3), (27, .ifCond .ne 6, 3), (30, .bipush (-7), 2), (32, .ireturn, 1), (33, .aload_n 0, 1), (34, .getfield 7, 3), (37, .iconst 3, 1), (38, .iload_n 1, 1), (39, .imul, 1), (40, .iload_n 2, 1), (41, .iadd, 1), (42, .iaload, 1), (43, .istore 4, 2), (45, .aload_n 0, 1), (46, .getfield 7, 3), (49, .iconst 3, 1), (50, .iload_n 1, 1), (51, .imul, 1), (52, .iload_n 2, 1), (53, .iadd, 1), (54, .iload_n 3, 1), (55, .iastore, 1), (56, .iload 4, 2), (58, .ireturn, 1)]
theorem mX12_put_0 : okd cX12_put lmX12_put_0 = true := by decide +kernel
theorem dX12_put_0 : decode cX12_put 0 = .ok (.aload_n 0, 1) := okd_at mX12_put_0 0 rfl
theorem dX12_put_1 : decode cX12_put 1 = .ok (.iload_n 1, 1) := okd_at mX12_put_0 1 rfl
theorem dX12_put_2 : decode cX12_put 2 = .ok (.invokevirtual 106, 3) := okd_at mX12_put_0 2 rfl
theorem dX12_put_5 : decode cX12_put 5 = .ok (.ifCond .ne 6, 3) := okd_at mX12_put_0 3 rfl
theorem dX12_put_8 : decode cX12_put 8 = .ok (.bipush (-5), 2) := okd_at mX12_put_0 4 rfl
theorem dX12_put_10 : decode cX12_put 10 = .ok (.ireturn, 1) := okd_at mX12_put_0 5 rfl
theorem dX12_put_11 : decode cX12_put 11 = .ok (.iload_n 2, 1) := okd_at mX12_put_0 6 rfl
theorem dX12_put_12 : decode cX12_put 12 = .ok (.iconst 0, 1) := okd_at mX12_put_0 7 rfl
theorem dX12_put_13 : decode cX12_put 13 = .ok (.iconst 2, 1) := okd_at mX12_put_0 8 rfl
theorem dX12_put_14 : decode cX12_put 14 = .ok (.invokestatic 93, 3) := okd_at mX12_put_0 9 rfl
theorem dX12_put_17 : decode cX12_put 17 = .ok (.ifCond .eq 13, 3) := okd_at mX12_put_0 10 rfl
theorem dX12_put_20 : decode cX12_put 20 = .ok (.iload_n 3, 1) := okd_at mX12_put_0 11 rfl
theorem dX12_put_21 : decode cX12_put 21 = .ok (.iconst 0, 1) := okd_at mX12_put_0 12 rfl
theorem dX12_put_22 : decode cX12_put 22 = .ok (.bipush 99, 2) := okd_at mX12_put_0 13 rfl
theorem dX12_put_24 : decode cX12_put 24 = .ok (.invokestatic 93, 3) := okd_at mX12_put_0 14 rfl
theorem dX12_put_27 : decode cX12_put 27 = .ok (.ifCond .ne 6, 3) := okd_at mX12_put_0 15 rfl
theorem dX12_put_30 : decode cX12_put 30 = .ok (.bipush (-7), 2) := okd_at mX12_put_0 16 rfl
theorem dX12_put_32 : decode cX12_put 32 = .ok (.ireturn, 1) := okd_at mX12_put_0 17 rfl
theorem dX12_put_33 : decode cX12_put 33 = .ok (.aload_n 0, 1) := okd_at mX12_put_0 18 rfl
theorem dX12_put_34 : decode cX12_put 34 = .ok (.getfield 7, 3) := okd_at mX12_put_0 19 rfl
theorem dX12_put_37 : decode cX12_put 37 = .ok (.iconst 3, 1) := okd_at mX12_put_0 20 rfl
theorem dX12_put_38 : decode cX12_put 38 = .ok (.iload_n 1, 1) := okd_at mX12_put_0 21 rfl
theorem dX12_put_39 : decode cX12_put 39 = .ok (.imul, 1) := okd_at mX12_put_0 22 rfl
theorem dX12_put_40 : decode cX12_put 40 = .ok (.iload_n 2, 1) := okd_at mX12_put_0 23 rfl
theorem dX12_put_41 : decode cX12_put 41 = .ok (.iadd, 1) := okd_at mX12_put_0 24 rfl
theorem dX12_put_42 : decode cX12_put 42 = .ok (.iaload, 1) := okd_at mX12_put_0 25 rfl
theorem dX12_put_43 : decode cX12_put 43 = .ok (.istore 4, 2) := okd_at mX12_put_0 26 rfl
theorem dX12_put_45 : decode cX12_put 45 = .ok (.aload_n 0, 1) := okd_at mX12_put_0 27 rfl
theorem dX12_put_46 : decode cX12_put 46 = .ok (.getfield 7, 3) := okd_at mX12_put_0 28 rfl
theorem dX12_put_49 : decode cX12_put 49 = .ok (.iconst 3, 1) := okd_at mX12_put_0 29 rfl
theorem dX12_put_50 : decode cX12_put 50 = .ok (.iload_n 1, 1) := okd_at mX12_put_0 30 rfl
theorem dX12_put_51 : decode cX12_put 51 = .ok (.imul, 1) := okd_at mX12_put_0 31 rfl
theorem dX12_put_52 : decode cX12_put 52 = .ok (.iload_n 2, 1) := okd_at mX12_put_0 32 rfl
theorem dX12_put_53 : decode cX12_put 53 = .ok (.iadd, 1) := okd_at mX12_put_0 33 rfl
theorem dX12_put_54 : decode cX12_put 54 = .ok (.iload_n 3, 1) := okd_at mX12_put_0 34 rfl
theorem dX12_put_55 : decode cX12_put 55 = .ok (.iastore, 1) := okd_at mX12_put_0 35 rfl
theorem dX12_put_56 : decode cX12_put 56 = .ok (.iload 4, 2) := okd_at mX12_put_0 36 rfl
theorem dX12_put_58 : decode cX12_put 58 = .ok (.ireturn, 1) := okd_at mX12_put_0 37 rfl
def lmX12_puts_0 : List (Nat × Instr × Nat) := [(0, .aload_n 0, 1), (1, .getfield 25, 3), (4, .sipush 200, 3), (7, .aload_n 0, 1), (8, .getfield 100, 3), (11, .imul, 1), (12, .aload_n 0, 1), (13, .getfield 129, 3), (16, .iadd, 1), (17, .iload_n 1, 1), (18, .iastore, 1), (19, .aload_n 0, 1), (20, .dup, 1), (21, .getfield 129, 3), (24, .iconst 1, 1), (25, .iadd, 1), (26, .putfield 129, 3), (29, .return_, 1)]
theorem mX12_puts_0 : okd cX12_puts lmX12_puts_0 = true := by decide +kernel
theorem dX12_puts_0 : decode cX12_puts 0 = .ok (.aload_n 0, 1) := okd_at mX12_puts_0 0 rfl
theorem dX12_puts_1 : decode cX12_puts 1 = .ok (.getfield 25, 3) := okd_at mX12_puts_0 1 rfl
theorem dX12_puts_4 : decode cX12_puts 4 = .ok (.sipush 200, 3) := okd_at mX12_puts_0 2 rfl
theorem dX12_puts_7 : decode cX12_puts 7 = .ok (.aload_n 0, 1) := okd_at mX12_puts_0 3 rfl
theorem dX12_puts_8 : decode cX12_puts 8 = .ok (.getfield 100, 3) := okd_at mX12_puts_0 4 rfl
theorem dX12_puts_11 : decode cX12_puts 11 = .ok (.imul, 1) := okd_at mX12_puts_0 5 rfl
theorem dX12_puts_12 : decode cX12_puts 12 = .ok (.aload_n 0, 1) := okd_at mX12_puts_0 6 rfl
theorem dX12_puts_13 : decode cX12_puts 13 = .ok (.getfield 129, 3) := okd_at mX12_puts_0 7 rfl
theorem dX12_puts_16 : decode cX12_puts 16 = .ok (.iadd, 1) := okd_at mX12_puts_0 8 rfl
theorem dX12_puts_17 : decode cX12_puts 17 = .ok (.iload_n 1, 1) := okd_at mX12_puts_0 9 rfl
theorem dX12_puts_18 : decode cX12_puts 18 = .ok (.iastore, 1) := okd_at mX12_puts_0 10 rfl
theorem dX12_puts_19 : decode cX12_puts 19 = .ok (.aload_n 0, 1) := okd_at mX12_puts_0 11 rfl
theorem dX12_puts_20 : decode cX12_puts 20 = .ok (.dup, 1) := okd_at mX12_puts_0 12 rfl
theorem dX12_puts_21 : decode cX12_puts 21 = .ok (.getfield 129, 3) := okd_at mX12_puts_0 13 rfl
theorem dX12_puts_24 : decode cX12_puts 24 = .ok (.iconst 1, 1) := okd_at mX12_puts_0 14 rfl
theorem dX12_puts_25 : decode cX12_puts 25 = .ok (.iadd, 1) := okd_at mX12_puts_0 15 rfl
theorem dX12_puts_26 : decode cX12_puts 26 = .ok (.putfield 129, 3) := okd_at mX12_puts_0 16 rfl
theorem dX12_puts_29 : decode cX12_puts 29 = .ok (.return_, 1) := okd_at mX12_puts_0 17 rfl
def lmX12_quick_0 : List (Nat × Instr × Nat) := [(0, .aload_n 0, 1), (1, .iload_n 1, 1), (2, .invokevirtual 253, 3), (5, .istore 4, 2), (7, .iload 4, 2), (9, .ifCond .eq 6, 3), (12, .iload 4, 2), (14, .ireturn, 1), (15, .aload_n 0, 1), (16, .iload_n 2, 1), (17, .invokevirtual 106, 3), (20, .ifCond .ne 6, 3), (23, .bipush (-5), 2), (25, .ireturn, 1), (26, .iload_n 3, 1), (27, .iconst 0, 1), (28, .bipush 21, 2), (30, .invokestatic 93, 3), (33, .ifCond .eq 11, 3), (36, .iload_n 3, 1), (37, .bipush 10, 2), (39, .irem, 1), (40, .iconst 1, 1), (41, .if_icmp .le 6, 3), (44, .bipush (-7), 2), (46, .ireturn, 1), (47, .iconst 3, 1), (48, .iload_n 2, 1), (49, .imul, 1), (50, .iload_n 3, 1), (51, .bipush 10, 2), (53, .idiv, 1), (54, .iadd, 1), (55, .istore 5, 2), (57, .aload_n 0, 1), (58, .getfield 7, 3), (61, .iload 5, 2), (63, .iaload, 1), (64, .istore 6, 2), (66, .iconst 0, 1), (67, .istore 7, 2), (69, .iconst (-1), 1), (70, .istore 8, 2), (72, .iconst 0, 1), (73, .istore 9, 2), (75, .iload 9, 2), (77, .bipush 99, 2), (79, .if_icmp .gt 69, 3), (82, .aload_n 0, 1), (83, .getfield 7, 3), (86, .iload 5, 2), (88, .iload 9, 2), (90, .iastore, 1), (91, .aload_n 0, 1), (92, .iload_n 1, 1), (93, .invokevirtual 256, 3), (96, .iconst (-1), 1), (97, .if_icmp .ne 7, 3), (100, .iconst 1, 1), (101, .goto 4, 3)]
theorem mX12_quick_0 : okd cX12_quick lmX12_quick_0 = true := by decide +kernel
theorem dX12_quick_0 : decode cX12_quick 0 = .ok (.aload_n 0, 1) := okd_at mX12_quick_0 0 rfl
theorem dX12_quick_1 : decode cX12_quick 1 = .ok (.iload_n 1, 1) := okd_at mX12_quick_0 1 rfl
theorem dX12_quick_2 : decode cX12_quick 2 = .ok (.invokevirtual 253, 3) := okd_at mX12_quick_0 2 rfl
theorem dX12_quick_5 : decode cX12_quick 5 = .ok (.istore 4, 2) := okd_at mX12_quick_0 3 rfl
theorem dX12_quick_7 : decode cX12_quick 7 = .ok (.iload 4, 2) := okd_at mX12_quick_0 4 rfl
theorem dX12_quick_9 : decode cX12_quick 9 = .ok (.ifCond .eq 6, 3) := okd_at mX12_quick_0 5 rfl
theorem dX12_quick_12 : decode cX12_quick 12 = .ok (.iload 4, 2) := okd_at mX12_quick_0 6 rfl
theorem dX12_quick_14 : decode cX12_quick 14 = .ok (.ireturn, 1) := okd_at mX12_quick_0 7 rfl
theorem dX12_quick_15 : decode cX12_quick 15 = .ok (.aload_n 0, 1) := okd_at mX12_quick_0 8 rfl
theorem dX12_quick_16 : decode cX12_quick 16 = .ok (.iload_n 2, 1) := okd_at mX12_quick_0 9 rfl
theorem dX12_quick_17 : decode cX12_quick 17 = .ok (.invokevirtual 106, 3) := okd_at mX12_quick_0 10 rfl
theorem dX12_quick_20 : decode cX12_quick 20 = .ok (.ifCond .ne 6, 3) := okd_at mX12_quick_0 11 rfl
theorem dX12_quick_23 : decode cX12_quick 23 = .ok (.bipush (-5), 2) := okd_at mX12_quick_0 12 rfl
theorem dX12_quick_25 : decode cX12_quick 25 = .ok (.ireturn, 1) := okd_at mX12_quick_0 13 rfl
theorem dX12_quick_26 : decode cX12_quick 26 = .ok (.iload_n 3, 1) := okd_at mX12_quick_0 14 rfl
theorem dX12_quick_27 : decode cX12_quick 27 = .ok (.iconst 0, 1) := okd_at mX12_quick_0 15 rfl
theorem dX12_quick_28 : decode cX12_quick 28 = .ok (.bipush 21, 2) := okd_at mX12_quick_0 16 rfl
theorem dX12_quick_30 : decode cX12_quick 30 = .ok (.invokestatic 93, 3) := okd_at mX12_quick_0 17 rfl
theorem dX12_quick_33 : decode cX12_quick 33 = .ok (.ifCond .eq 11, 3) := okd_at mX12_quick_0 18 rfl
theorem dX12_quick_36 : decode cX12_quick 36 = .ok (.iload_n 3, 1) := okd_at mX12_quick_0 19 rfl
theorem dX12_quick_37 : decode cX12_quick 37 = .ok (.bipush 10, 2) := okd_at mX12_quick_0 20 rfl
theorem dX12_quick_39 : decode cX12_quick 39 = .ok (.irem, 1) := okd_at mX12_quick_0 21 rfl
theorem dX12_quick_40 : decode cX12_quick 40 = .ok (.iconst 1, 1) := okd_at mX12_quick_0 22 rfl
theorem dX12_quick_41 : decode cX12_quick 41 = .ok (.if_icmp .le 6, 3) := okd_at mX12_quick_0 23 rfl
theorem dX12_quick_44 : decode cX12_quick 44 = .ok (.bipush (-7), 2) := okd_at mX12_quick_0 24 rfl
theorem dX12_quick_46 : decode cX12_quick 46 = .ok (.ireturn, 1) := okd_at mX12_quick_0 25 rfl
theorem dX12_quick_47 : decode cX12_quick 47 = .ok (.iconst 3, 1) := okd_at mX12_quick_0 26 rfl
theorem dX12_quick_48 : decode cX12_quick 48 = .ok (.iload_n 2, 1) := okd_at mX12_quick_0 27 rfl
theorem dX12_quick_49 : decode cX12_quick 49 = .ok (.imul, 1) := okd_at mX12_quick_0 28 rfl
theorem dX12_quick_50 : decode cX12_quick 50 = .ok (.iload_n 3, 1) := okd_at mX12_quick_0 29 rfl
theorem dX12_quick_51 : decode cX12_quick 51 = .ok (.bipush 10, 2) := okd_at mX12_quick_0 30 rfl
theorem dX12_quick_53 : decode cX12_quick 53 = .ok (.idiv, 1) := okd_at mX12_quick_0 31 rfl
theorem dX12_quick_54 : decode cX12_quick 54 = .ok (.iadd, 1) := okd_at mX12_quick_0 32 rfl
theorem dX12_quick_55 : decode cX12_quick 55 = .ok (.istore 5, 2) := okd_at mX12_quick_0 33 rfl
theorem dX12_quick_57 : decode cX12_quick 57 = .ok (.aload_n 0, 1) := okd_at mX12_quick_0 34 rfl
theorem dX12_quick_58 : decode cX12_quick 58 = .ok (.getfield 7, 3) := okd_at mX12_quick_0 35 rfl
theorem dX12_quick_61 : decode cX12_quick 61 = .ok (.iload 5, 2) := okd_at mX12_quick_0 36 rfl
theorem dX12_quick_63 : decode cX12_quick 63 = .ok (.iaload, 1) := okd_at mX12_quick_0 37 rfl
theorem dX12_quick_64 : decode cX12_quick 64 = .ok (.istore 6, 2) := okd_at mX12_quick_0 38 rfl
theorem dX12_quick_66 : decode cX12_quick 66 = .ok (.iconst 0, 1) := okd_at mX12_quick_0 39 rfl
theorem dX12_quick_67 : decode cX12_quick 67 = .ok (.istore 7, 2) := okd_at mX12_quick_0 40 rfl
theorem dX12_quick_69 : decode cX12_quick 69 = .ok (.iconst (-1), 1) := okd_at mX12_quick_0 41 rfl
theorem dX12_quick_70 : decode cX12_quick 70 = .ok (.istore 8, 2) := okd_at mX12_quick_0 42 rfl
theorem dX12_quick_72 : decode cX12_quick 72 = .ok (.iconst 0, 1) := okd_at mX12_quick_0 43 rfl
theorem dX12_quick_73 : decode cX12_quick 73 = .ok (.istore 9, 2) := okd_at mX12_quick_0 44 rfl
theorem dX12_quick_75 : decode cX12_quick 75 = .ok (.iload 9, 2) := okd_at mX12_quick_0 45 rfl
theorem dX12_quick_77 : decode cX12_quick 77 = .ok (.bipush 99, 2) := okd_at mX12_quick_0 46 rfl
theorem dX12_quick_79 : decode cX12_quick 79 = .ok (.if_icmp .gt 69, 3) := okd_at mX12_quick_0 47 rfl
theorem dX12_quick_82 : decode cX12_quick 82 = .ok (.aload_n 0, 1) := okd_at mX12_quick_0 48 rfl
theorem dX12_quick_83 : decode cX12_quick 83 = .ok (.getfield 7, 3) := okd_at mX12_quick_0 49 rfl
theorem dX12_quick_86 : decode cX12_quick 86 = .ok (.iload 5, 2) := okd_at mX12_quick_0 50 rfl
theorem dX12_quick_88 : decode cX12_quick 88 = .ok (.iload 9, 2) := okd_at mX12_quick_0 51 rfl
theorem dX12_quick_90 : decode cX12_quick 90 = .ok (.iastore, 1) := okd_at mX12_quick_0 52 rfl
theorem dX12_quick_91 : decode cX12_quick 91 = .ok (.aload_n 0, 1) := okd_at mX12_quick_0 53 rfl
theorem dX12_quick_92 : decode cX12_quick 92 = .ok (.iload_n 1, 1) := okd_at mX12_quick_0 54 rfl
theorem dX12_quick_93 : decode cX12_quick 93 = .ok (.invokevirtual 256, 3) := okd_at mX12_quick_0 55 rfl
theorem dX12_quick_96 : decode cX12_quick 96 = .ok (.iconst (-1), 1) := okd_at mX12_quick_0 56 rfl
theorem dX12_quick_97 : decode cX12_quick 97 = .ok (.if_icmp .ne 7, 3) := okd_at mX12_quick_0 57 rfl
theorem dX12_quick_100 : decode cX12_quick 100 = .ok (.iconst 1, 1) := okd_at mX12_quick_0 58 rfl
theorem dX12_quick_101 : decode cX12_quick 101 = .ok (.goto 4, 3) := okd_at mX12_quick_0 59 rfl
def lmX12_quick_1 : List (Nat × Instr × Nat) := [(104, .iconst 0, 1), (105, .istore 10, 2), (107, .iload 7, 2), (109, .iload 10, 2), (111, .ifCond .eq 7, 3), (114, .iconst 1, 1), (115, .goto 4, 3), (118, .iconst 0, 1), (119, .iadd, 1), (120, .istore 7, 2), (122, .iload 10, 2), (124, .ifCond .eq 14, 3), (127, .iload 8, 2), (129, .iconst (-1), 1), (130, .if_icmp .ne 8, 3), (133, .iload 9, 2), (135, .goto 5, 3), (138, .iload 8, 2), (140, .istore 8, 2), (142, .iinc 9 1, 3), (145, .goto (-70), 3), (148, .aload_n 0, 1), (149, .getfield 7, 3), (152, .iload 5, 2), (154, .iload 6, 2), (156, .iastore, 1), (157, .iload_n 3, 1), (158, .bipush 10, 2), (160, .irem, 1), (161, .ifCond .ne 8, 3), (164, .iload 7, 2), (166, .goto 5, 3), (169, .iload 8, 2), (171, .ireturn, 1)]
theorem mX12_quick_1 : okd cX12_quick lmX12_quick_1 = true := by decide +kernel
theorem dX12_quick_104 : decode cX12_quick 104 = .ok (.iconst 0, 1) := okd_at mX12_quick_1 0 rfl
theorem dX12_quick_105 : decode cX12_quick 105 = .ok (.istore 10, 2) := okd_at mX12_quick_1 1 rfl
theorem dX12_quick_107 : decode cX12_quick 107 = .ok (.iload 7, 2) := okd_at mX12_quick_1 2 rfl
theorem dX12_quick_109 : decode cX12_quick 109 = .ok (.iload 10, 2) := okd_at mX12_quick_1 3 rfl
theorem dX12_quick_111 : decode cX12_quick 111 = .ok (.ifCond .eq 7, 3) := okd_at mX12_quick_1 4 rfl
theorem dX12_quick_114 : decode cX12_quick 114 = .ok (.iconst 1, 1) := okd_at mX12_quick_1 5 rfl
theorem dX12_quick_115 : decode cX12_quick 115 = .ok (.goto 4, 3) := okd_at mX12_quick_1 6 rfl
theorem dX12_quick_118 : decode cX12_quick 118 = .ok (.iconst 0, 1) := okd_at mX12_quick_1 7 rfl
theorem dX12_quick_119 : decode cX12_quick 119 = .ok (.iadd, 1) := okd_at mX12_quick_1 8 rfl
theorem dX12_quick_120 : decode cX12_quick 120 = .ok (.istore 7, 2) := okd_at mX12_quick_1 9 rfl
theorem dX12_quick_122 : decode cX12_quick 122 = .ok (.iload 10, 2) := okd_at mX12_quick_1 10 rfl
theorem dX12_quick_124 : decode cX12_quick 124 = .ok (.ifCond .eq 14, 3) := okd_at mX12_quick_1 11 rfl
theorem dX12_quick_127 : decode cX12_quick 127 = .ok (.iload 8, 2) := okd_at mX12_quick_1 12 rfl
theorem dX12_quick_129 : decode cX12_quick 129 = .ok (.iconst (-1), 1) := okd_at mX12_quick_1 13 rfl
theorem dX12_quick_130 : decode cX12_quick 130 = .ok (.if_icmp .ne 8, 3) := okd_at mX12_quick_1 14 rfl
theorem dX12_quick_133 : decode cX12_quick 133 = .ok (.iload 9, 2) := okd_at mX12_quick_1 15 rfl
theorem dX12_quick_135 : decode cX12_quick 135 = .ok (.goto 5, 3) := okd_at mX12_quick_1 16 rfl
theorem dX12_quick_138 : decode cX12_quick 138 = .ok (.iload 8, 2) := okd_at mX12_quick_1 17 rfl
theorem dX12_quick_140 : decode cX12_quick 140 = .ok (.istore 8, 2) := okd_at mX12_quick_1 18 rfl
theorem dX12_quick_142 : decode cX12_quick 142 = .ok (.iinc 9 1, 3) := okd_at mX12_quick_1 19 rfl
theorem dX12_quick_145 : decode cX12_quick 145 = .ok (.goto (-70), 3) := okd_at mX12_quick_1 20 rfl
theorem dX12_quick_148 : decode cX12_quick 148 = .ok (.aload_n 0, 1) := okd_at mX12_quick_1 21 rfl
theorem dX12_quick_149 : decode cX12_quick 149 = .ok (.getfield 7, 3) := okd_at mX12_quick_1 22 rfl
theorem dX12_quick_152 : decode cX12_quick 152 = .ok (.iload 5, 2) := okd_at mX12_quick_1 23 rfl
theorem dX12_quick_154 : decode cX12_quick 154 = .ok (.iload 6, 2) := okd_at mX12_quick_1 24 rfl
theorem dX12_quick_156 : decode cX12_quick 156 = .ok (.iastore, 1) := okd_at mX12_quick_1 25 rfl
theorem dX12_quick_157 : decode cX12_quick 157 = .ok (.iload_n 3, 1) := okd_at mX12_quick_1 26 rfl
theorem dX12_quick_158 : decode cX12_quick 158 = .ok (.bipush 10, 2) := okd_at mX12_quick_1 27 rfl
theorem dX12_quick_160 : decode cX12_quick 160 = .ok (.irem, 1) := okd_at mX12_quick_1 28 rfl
theorem dX12_quick_161 : decode cX12_quick 161 = .ok (.ifCond .ne 8, 3) := okd_at mX12_quick_1 29 rfl
theorem dX12_quick_164 : decode cX12_quick 164 = .ok (.iload 7, 2) := okd_at mX12_quick_1 30 rfl
theorem dX12_quick_166 : decode cX12_quick 166 = .ok (.goto 5, 3) := okd_at mX12_quick_1 31 rfl
theorem dX12_quick_169 : decode cX12_quick 169 = .ok (.iload 8, 2) := okd_at mX12_quick_1 32 rfl
theorem dX12_quick_171 : decode cX12_quick 171 = .ok (.ireturn, 1) := okd_at mX12_quick_1 33 rfl
def lmX12_race_0 : List (Nat × Instr × Nat) := [(0, .iload_n 1, 1), (1, .iconst 0, 1), (2, .bipush 59, 2), (4, .invokestatic 93, 3), (7, .ifCond .eq 11, 3), (10, .aload_n 0, 1), (11, .iload_n 2, 1), (12, .invokevirtual 189, 3), (15, .ifCond .ne 6, 3), (18, .bipush (-2), 2), (20, .ireturn, 1), (21, .aload_n 0, 1), (22, .getfield 97, 3), (25, .bipush 6, 2), (27, .if_icmp .ne 6, 3), (30, .bipush (-4), 2), (32, .ireturn, 1), (33, .aload_n 0, 1), (34, .getfield 13, 3), (37, .aload_n 0, 1), (38, .getfield 97, 3), (41, .iload_n 1, 1), (42, .bipush 10, 2), (44, .idiv, 1), (45, .iastore, 1), (46, .aload_n 0, 1), (47, .getfield 16, 3), (50, .aload_n 0, 1), (51, .getfield 97, 3), (54, .iload_n 1, 1), (55, .bipush 10, 2), (57, .irem, 1), (58, .iastore, 1), (59, .aload_n 0, 1), (60, .getfield 19, 3), (63, .iconst 2, 1), (64, .aload_n 0, 1), (65, .getfield 97, 3), (68, .imul, 1), (69, .iload_n 2, 1), (70, .iastore, 1), (71, .aload_n 0, 1), (72, .getfield 19, 3), (75, .iconst 2, 1), (76, .aload_n 0, 1), (77, .getfield 97, 3), (80, .imul, 1), (81, .iconst 1, 1), (82, .iadd, 1), (83, .iconst 1, 1), (84, .iastore, 1), (85, .aload_n 0, 1), (86, .dup, 1), (87, .getfield 97, 3), (90, .iconst 1, 1), (91, .iadd, 1), (92, .putfield 97, 3), (95, .aload_n 0, 1), (96, .getfield 97, 3), (99, .iconst 1, 1)]
theorem mX12_race_0 : okd cX12_race lmX12_race_0 = true := by decide +kernel
theorem dX12_race_0 : decode cX12_race 0 = .ok (.iload_n 1, 1) := okd_at mX12_race_0 0 rfl
theorem dX12_race_1 : decode cX12_race 1 = .ok (.iconst 0, 1) := okd_at mX12_race_0 1 rfl
theorem dX12_race_2 : decode cX12_race 2 = .ok (.bipush 59, 2) := okd_at mX12_race_0 2 rfl
theorem dX12_race_4 : decode cX12_race 4 = .ok (.invokestatic 93, 3) := okd_at mX12_race_0 3 rfl
theorem dX12_race_7 : decode cX12_race 7 = .ok (.ifCond .eq 11, 3) := okd_at mX12_race_0 4 rfl
theorem dX12_race_10 : decode cX12_race 10 = .ok (.aload_n 0, 1) := okd_at mX12_race_0 5 rfl
theorem dX12_race_11 : decode cX12_race 11 = .ok (.iload_n 2, 1) := okd_at mX12_race_0 6 rfl
theorem dX12_race_12 : decode cX12_race 12 = .ok (.invokevirtual 189, 3) := okd_at mX12_race_0 7 rfl
theorem dX12_race_15 : decode cX12_race 15 = .ok (.ifCond .ne 6, 3) := okd_at mX12_race_0 8 rfl
theorem dX12_race_18 : decode cX12_race 18 = .ok (.bipush (-2), 2) := okd_at mX12_race_0 9 rfl
theorem dX12_race_20 : decode cX12_race 20 = .ok (.ireturn, 1) := okd_at mX12_race_0 10 rfl
theorem dX12_race_21 : decode cX12_race 21 = .ok (.aload_n 0, 1) := okd_at mX12_race_0 11 rfl
theorem dX12_race_22 : decode cX12_race 22 = .ok (.getfield 97, 3) := okd_at mX12_race_0 12 rfl
theorem dX12_race_25 : decode cX12_race 25 = .ok (.bipush 6, 2) := okd_at mX12_race_0 13 rfl
theorem dX12_race_27 : decode cX12_race 27 = .ok (.if_icmp .ne 6, 3) := okd_at mX12_race_0 14 rfl
theorem dX12_race_30 : decode cX12_race 30 = .ok (.bipush (-4), 2) := okd_at mX12_race_0 15 rfl
theorem dX12_race_32 : decode cX12_race 32 = .ok (.ireturn, 1) := okd_at mX12_race_0 16 rfl
theorem dX12_race_33 : decode cX12_race 33 = .ok (.aload_n 0, 1) := okd_at mX12_race_0 17 rfl
theorem dX12_race_34 : decode cX12_race 34 = .ok (.getfield 13, 3) := okd_at mX12_race_0 18 rfl
theorem dX12_race_37 : decode cX12_race 37 = .ok (.aload_n 0, 1) := okd_at mX12_race_0 19 rfl
theorem dX12_race_38 : decode cX12_race 38 = .ok (.getfield 97, 3) := okd_at mX12_race_0 20 rfl
theorem dX12_race_41 : decode cX12_race 41 = .ok (.iload_n 1, 1) := okd_at mX12_race_0 21 rfl
theorem dX12_race_42 : decode cX12_race 42 = .ok (.bipush 10, 2) := okd_at mX12_race_0 22 rfl
theorem dX12_race_44 : decode cX12_race 44 = .ok (.idiv, 1) := okd_at mX12_race_0 23 rfl
theorem dX12_race_45 : decode cX12_race 45 = .ok (.iastore, 1) := okd_at mX12_race_0 24 rfl
theorem dX12_race_46 : decode cX12_race 46 = .ok (.aload_n 0, 1) := okd_at mX12_race_0 25 rfl
theorem dX12_race_47 : decode cX12_race 47 = .ok (.getfield 16, 3) := okd_at mX12_race_0 26 rfl
theorem dX12_race_50 : decode cX12_race 50 = .ok (.aload_n 0, 1) := okd_at mX12_race_0 27 rfl
theorem dX12_race_51 : decode cX12_race 51 = .ok (.getfield 97, 3) := okd_at mX12_race_0 28 rfl
theorem dX12_race_54 : decode cX12_race 54 = .ok (.iload_n 1, 1) := okd_at mX12_race_0 29 rfl
theorem dX12_race_55 : decode cX12_race 55 = .ok (.bipush 10, 2) := okd_at mX12_race_0 30 rfl
theorem dX12_race_57 : decode cX12_race 57 = .ok (.irem, 1) := okd_at mX12_race_0 31 rfl
theorem dX12_race_58 : decode cX12_race 58 = .ok (.iastore, 1) := okd_at mX12_race_0 32 rfl
theorem dX12_race_59 : decode cX12_race 59 = .ok (.aload_n 0, 1) := okd_at mX12_race_0 33 rfl
theorem dX12_race_60 : decode cX12_race 60 = .ok (.getfield 19, 3) := okd_at mX12_race_0 34 rfl
theorem dX12_race_63 : decode cX12_race 63 = .ok (.iconst 2, 1) := okd_at mX12_race_0 35 rfl
theorem dX12_race_64 : decode cX12_race 64 = .ok (.aload_n 0, 1) := okd_at mX12_race_0 36 rfl
theorem dX12_race_65 : decode cX12_race 65 = .ok (.getfield 97, 3) := okd_at mX12_race_0 37 rfl
theorem dX12_race_68 : decode cX12_race 68 = .ok (.imul, 1) := okd_at mX12_race_0 38 rfl
theorem dX12_race_69 : decode cX12_race 69 = .ok (.iload_n 2, 1) := okd_at mX12_race_0 39 rfl
theorem dX12_race_70 : decode cX12_race 70 = .ok (.iastore, 1) := okd_at mX12_race_0 40 rfl
theorem dX12_race_71 : decode cX12_race 71 = .ok (.aload_n 0, 1) := okd_at mX12_race_0 41 rfl
theorem dX12_race_72 : decode cX12_race 72 = .ok (.getfield 19, 3) := okd_at mX12_race_0 42 rfl
theorem dX12_race_75 : decode cX12_race 75 = .ok (.iconst 2, 1) := okd_at mX12_race_0 43 rfl
theorem dX12_race_76 : decode cX12_race 76 = .ok (.aload_n 0, 1) := okd_at mX12_race_0 44 rfl
theorem dX12_race_77 : decode cX12_race 77 = .ok (.getfield 97, 3) := okd_at mX12_race_0 45 rfl
theorem dX12_race_80 : decode cX12_race 80 = .ok (.imul, 1) := okd_at mX12_race_0 46 rfl
theorem dX12_race_81 : decode cX12_race 81 = .ok (.iconst 1, 1) := okd_at mX12_race_0 47 rfl
theorem dX12_race_82 : decode cX12_race 82 = .ok (.iadd, 1) := okd_at mX12_race_0 48 rfl
theorem dX12_race_83 : decode cX12_race 83 = .ok (.iconst 1, 1) := okd_at mX12_race_0 49 rfl
theorem dX12_race_84 : decode cX12_race 84 = .ok (.iastore, 1) := okd_at mX12_race_0 50 rfl
theorem dX12_race_85 : decode cX12_race 85 = .ok (.aload_n 0, 1) := okd_at mX12_race_0 51 rfl
theorem dX12_race_86 : decode cX12_race 86 = .ok (.dup, 1) := okd_at mX12_race_0 52 rfl
theorem dX12_race_87 : decode cX12_race 87 = .ok (.getfield 97, 3) := okd_at mX12_race_0 53 rfl
theorem dX12_race_90 : decode cX12_race 90 = .ok (.iconst 1, 1) := okd_at mX12_race_0 54 rfl
theorem dX12_race_91 : decode cX12_race 91 = .ok (.iadd, 1) := okd_at mX12_race_0 55 rfl
theorem dX12_race_92 : decode cX12_race 92 = .ok (.putfield 97, 3) := okd_at mX12_race_0 56 rfl
theorem dX12_race_95 : decode cX12_race 95 = .ok (.aload_n 0, 1) := okd_at mX12_race_0 57 rfl
theorem dX12_race_96 : decode cX12_race 96 = .ok (.getfield 97, 3) := okd_at mX12_race_0 58 rfl
theorem dX12_race_99 : decode cX12_race 99 = .ok (.iconst 1, 1) := okd_at mX12_race_0 59 rfl
def lmX12_race_1 : List (Nat × Instr × Nat) := [(100, .isub, 1), (101, .ireturn, 1)]
theorem mX12_race_1 : okd cX12_race lmX12_race_1 = true := by decide +kernel
theorem dX12_race_100 : decode cX12_race 100 = .ok (.isub, 1) := okd_at mX12_race_1 0 rfl
theorem dX12_race_101 : decode cX12_race 101 = .ok (.ireturn, 1) := okd_at mX12_race_1 1 rfl
def lmX12_raceOf_0 : List (Nat × Instr × Nat) := [(0, .aload_n 0, 1), (1, .iload_n 1, 1), (2, .invokevirtual 201, 3), (5, .aload_n 0, 1), (6, .getfield 70, 3), (9, .iload_n 1, 1), (10, .iconst 0, 1), (11, .iastore, 1), (12, .aload_n 0, 1), (13, .iload_n 1, 1), (14, .invokevirtual 204, 3), (17, .istore_n 2, 1), (18, .iconst 0, 1), (19, .istore_n 3, 1), (20, .iload_n 3, 1), (21, .iload_n 2, 1), (22, .if_icmp .ge 75, 3), (25, .aload_n 0, 1), (26, .getfield 67, 3), (29, .iload_n 3, 1), (30, .iaload, 1), (31, .istore 4, 2), (33, .aload_n 0, 1), (34, .dup, 1), (35, .getfield 207, 3), (38, .aload_n 0, 1), (39, .iconst 1, 1), (40, .iload 4, 2), (42, .iload_n 1, 1), (43, .aload_n 0, 1), (44, .getfield 61, 3), (47, .iload 4, 2), (49, .iaload, 1), (50, .invokevirtual 185, 3), (53, .iadd, 1), (54, .putfield 207, 3), (57, .aload_n 0, 1), (58, .getfield 61, 3), (61, .iload 4, 2), (63, .dup2, 1), (64, .iaload, 1), (65, .iconst 1, 1), (66, .iadd, 1), (67, .iastore, 1), (68, .aload_n 0, 1), (69, .getfield 70, 3), (72, .iload_n 1, 1), (73, .dup2, 1), (74, .iaload, 1), (75, .iconst 1, 1), (76, .iload 4, 2), (78, .ishl, 1), (79, .ior, 1), (80, .iastore, 1), (81, .aload_n 0, 1), (82, .dup, 1), (83, .getfield 210, 3), (86, .iconst 1, 1), (87, .iadd, 1), (88, .putfield 210, 3)]
theorem mX12_raceOf_0 : okd cX12_raceOf lmX12_raceOf_0 = true := by decide +kernel
theorem dX12_raceOf_0 : decode cX12_raceOf 0 = .ok (.aload_n 0, 1) := okd_at mX12_raceOf_0 0 rfl
theorem dX12_raceOf_1 : decode cX12_raceOf 1 = .ok (.iload_n 1, 1) := okd_at mX12_raceOf_0 1 rfl
theorem dX12_raceOf_2 : decode cX12_raceOf 2 = .ok (.invokevirtual 201, 3) := okd_at mX12_raceOf_0 2 rfl
theorem dX12_raceOf_5 : decode cX12_raceOf 5 = .ok (.aload_n 0, 1) := okd_at mX12_raceOf_0 3 rfl
theorem dX12_raceOf_6 : decode cX12_raceOf 6 = .ok (.getfield 70, 3) := okd_at mX12_raceOf_0 4 rfl
theorem dX12_raceOf_9 : decode cX12_raceOf 9 = .ok (.iload_n 1, 1) := okd_at mX12_raceOf_0 5 rfl
theorem dX12_raceOf_10 : decode cX12_raceOf 10 = .ok (.iconst 0, 1) := okd_at mX12_raceOf_0 6 rfl
theorem dX12_raceOf_11 : decode cX12_raceOf 11 = .ok (.iastore, 1) := okd_at mX12_raceOf_0 7 rfl
theorem dX12_raceOf_12 : decode cX12_raceOf 12 = .ok (.aload_n 0, 1) := okd_at mX12_raceOf_0 8 rfl
theorem dX12_raceOf_13 : decode cX12_raceOf 13 = .ok (.iload_n 1, 1) := okd_at mX12_raceOf_0 9 rfl
theorem dX12_raceOf_14 : decode cX12_raceOf 14 = .ok (.invokevirtual 204, 3) := okd_at mX12_raceOf_0 10 rfl
theorem dX12_raceOf_17 : decode cX12_raceOf 17 = .ok (.istore_n 2, 1) := okd_at mX12_raceOf_0 11 rfl
theorem dX12_raceOf_18 : decode cX12_raceOf 18 = .ok (.iconst 0, 1) := okd_at mX12_raceOf_0 12 rfl
theorem dX12_raceOf_19 : decode cX12_raceOf 19 = .ok (.istore_n 3, 1) := okd_at mX12_raceOf_0 13 rfl
theorem dX12_raceOf_20 : decode cX12_raceOf 20 = .ok (.iload_n 3, 1) := okd_at mX12_raceOf_0 14 rfl
theorem dX12_raceOf_21 : decode cX12_raceOf 21 = .ok (.iload_n 2, 1) := okd_at mX12_raceOf_0 15 rfl
theorem dX12_raceOf_22 : decode cX12_raceOf 22 = .ok (.if_icmp .ge 75, 3) := okd_at mX12_raceOf_0 16 rfl
theorem dX12_raceOf_25 : decode cX12_raceOf 25 = .ok (.aload_n 0, 1) := okd_at mX12_raceOf_0 17 rfl
theorem dX12_raceOf_26 : decode cX12_raceOf 26 = .ok (.getfield 67, 3) := okd_at mX12_raceOf_0 18 rfl
theorem dX12_raceOf_29 : decode cX12_raceOf 29 = .ok (.iload_n 3, 1) := okd_at mX12_raceOf_0 19 rfl
theorem dX12_raceOf_30 : decode cX12_raceOf 30 = .ok (.iaload, 1) := okd_at mX12_raceOf_0 20 rfl
theorem dX12_raceOf_31 : decode cX12_raceOf 31 = .ok (.istore 4, 2) := okd_at mX12_raceOf_0 21 rfl
theorem dX12_raceOf_33 : decode cX12_raceOf 33 = .ok (.aload_n 0, 1) := okd_at mX12_raceOf_0 22 rfl
theorem dX12_raceOf_34 : decode cX12_raceOf 34 = .ok (.dup, 1) := okd_at mX12_raceOf_0 23 rfl
theorem dX12_raceOf_35 : decode cX12_raceOf 35 = .ok (.getfield 207, 3) := okd_at mX12_raceOf_0 24 rfl
theorem dX12_raceOf_38 : decode cX12_raceOf 38 = .ok (.aload_n 0, 1) := okd_at mX12_raceOf_0 25 rfl
theorem dX12_raceOf_39 : decode cX12_raceOf 39 = .ok (.iconst 1, 1) := okd_at mX12_raceOf_0 26 rfl
theorem dX12_raceOf_40 : decode cX12_raceOf 40 = .ok (.iload 4, 2) := okd_at mX12_raceOf_0 27 rfl
theorem dX12_raceOf_42 : decode cX12_raceOf 42 = .ok (.iload_n 1, 1) := okd_at mX12_raceOf_0 28 rfl
theorem dX12_raceOf_43 : decode cX12_raceOf 43 = .ok (.aload_n 0, 1) := okd_at mX12_raceOf_0 29 rfl
theorem dX12_raceOf_44 : decode cX12_raceOf 44 = .ok (.getfield 61, 3) := okd_at mX12_raceOf_0 30 rfl
theorem dX12_raceOf_47 : decode cX12_raceOf 47 = .ok (.iload 4, 2) := okd_at mX12_raceOf_0 31 rfl
theorem dX12_raceOf_49 : decode cX12_raceOf 49 = .ok (.iaload, 1) := okd_at mX12_raceOf_0 32 rfl
theorem dX12_raceOf_50 : decode cX12_raceOf 50 = .ok (.invokevirtual 185, 3) := okd_at mX12_raceOf_0 33 rfl
theorem dX12_raceOf_53 : decode cX12_raceOf 53 = .ok (.iadd, 1) := okd_at mX12_raceOf_0 34 rfl
theorem dX12_raceOf_54 : decode cX12_raceOf 54 = .ok (.putfield 207, 3) := okd_at mX12_raceOf_0 35 rfl
theorem dX12_raceOf_57 : decode cX12_raceOf 57 = .ok (.aload_n 0, 1) := okd_at mX12_raceOf_0 36 rfl
theorem dX12_raceOf_58 : decode cX12_raceOf 58 = .ok (.getfield 61, 3) := okd_at mX12_raceOf_0 37 rfl
theorem dX12_raceOf_61 : decode cX12_raceOf 61 = .ok (.iload 4, 2) := okd_at mX12_raceOf_0 38 rfl
theorem dX12_raceOf_63 : decode cX12_raceOf 63 = .ok (.dup2, 1) := okd_at mX12_raceOf_0 39 rfl
theorem dX12_raceOf_64 : decode cX12_raceOf 64 = .ok (.iaload, 1) := okd_at mX12_raceOf_0 40 rfl
theorem dX12_raceOf_65 : decode cX12_raceOf 65 = .ok (.iconst 1, 1) := okd_at mX12_raceOf_0 41 rfl
theorem dX12_raceOf_66 : decode cX12_raceOf 66 = .ok (.iadd, 1) := okd_at mX12_raceOf_0 42 rfl
theorem dX12_raceOf_67 : decode cX12_raceOf 67 = .ok (.iastore, 1) := okd_at mX12_raceOf_0 43 rfl
theorem dX12_raceOf_68 : decode cX12_raceOf 68 = .ok (.aload_n 0, 1) := okd_at mX12_raceOf_0 44 rfl
theorem dX12_raceOf_69 : decode cX12_raceOf 69 = .ok (.getfield 70, 3) := okd_at mX12_raceOf_0 45 rfl
theorem dX12_raceOf_72 : decode cX12_raceOf 72 = .ok (.iload_n 1, 1) := okd_at mX12_raceOf_0 46 rfl
theorem dX12_raceOf_73 : decode cX12_raceOf 73 = .ok (.dup2, 1) := okd_at mX12_raceOf_0 47 rfl
theorem dX12_raceOf_74 : decode cX12_raceOf 74 = .ok (.iaload, 1) := okd_at mX12_raceOf_0 48 rfl
theorem dX12_raceOf_75 : decode cX12_raceOf 75 = .ok (.iconst 1, 1) := okd_at mX12_raceOf_0 49 rfl
theorem dX12_raceOf_76 : decode cX12_raceOf 76 = .ok (.iload 4, 2) := okd_at mX12_raceOf_0 50 rfl
theorem dX12_raceOf_78 : decode cX12_raceOf 78 = .ok (.ishl, 1) := okd_at mX12_raceOf_0 51 rfl
theorem dX12_raceOf_79 : decode cX12_raceOf 79 = .ok (.ior, 1) := okd_at mX12_raceOf_0 52 rfl
theorem dX12_raceOf_80 : decode cX12_raceOf 80 = .ok (.iastore, 1) := okd_at mX12_raceOf_0 53 rfl
theorem dX12_raceOf_81 : decode cX12_raceOf 81 = .ok (.aload_n 0, 1) := okd_at mX12_raceOf_0 54 rfl
theorem dX12_raceOf_82 : decode cX12_raceOf 82 = .ok (.dup, 1) := okd_at mX12_raceOf_0 55 rfl
theorem dX12_raceOf_83 : decode cX12_raceOf 83 = .ok (.getfield 210, 3) := okd_at mX12_raceOf_0 56 rfl
theorem dX12_raceOf_86 : decode cX12_raceOf 86 = .ok (.iconst 1, 1) := okd_at mX12_raceOf_0 57 rfl
theorem dX12_raceOf_87 : decode cX12_raceOf 87 = .ok (.iadd, 1) := okd_at mX12_raceOf_0 58 rfl
theorem dX12_raceOf_88 : decode cX12_raceOf 88 = .ok (.putfield 210, 3) := okd_at mX12_raceOf_0 59 rfl
def lmX12_raceOf_1 : List (Nat × Instr × Nat) := [(91, .iinc 3 1, 3), (94, .goto (-74), 3), (97, .return_, 1)]
theorem mX12_raceOf_1 : okd cX12_raceOf lmX12_raceOf_1 = true := by decide +kernel
theorem dX12_raceOf_91 : decode cX12_raceOf 91 = .ok (.iinc 3 1, 3) := okd_at mX12_raceOf_1 0 rfl
theorem dX12_raceOf_94 : decode cX12_raceOf 94 = .ok (.goto (-74), 3) := okd_at mX12_raceOf_1 1 rfl
theorem dX12_raceOf_97 : decode cX12_raceOf 97 = .ok (.return_, 1) := okd_at mX12_raceOf_1 2 rfl
def lmX12_rank_0 : List (Nat × Instr × Nat) := [(0, .iload_n 0, 1), (1, .ifCond .ne 7, 3), (4, .iconst 0, 1), (5, .goto 66, 3), (8, .iload_n 0, 1), (9, .bipush 11, 2), (11, .if_icmp .ne 7, 3), (14, .iconst 1, 1), (15, .goto 56, 3), (18, .iload_n 0, 1), (19, .bipush 12, 2), (21, .if_icmp .ne 7, 3), (24, .iconst 2, 1), (25, .goto 46, 3), (28, .iload_n 0, 1), (29, .bipush 13, 2), (31, .if_icmp .ne 7, 3), (34, .iconst 3, 1), (35, .goto 36, 3), (38, .iload_n 0, 1), (39, .bipush 15, 2), (41, .if_icmp .gt 7, 3), (44, .iconst 4, 1), (45, .goto 26, 3), (48, .iload_n 0, 1), (49, .bipush 17, 2), (51, .if_icmp .gt 7, 3), (54, .iconst 5, 1), (55, .goto 16, 3), (58, .iload_n 0, 1), (59, .bipush 18, 2), (61, .if_icmp .ne 8, 3), (64, .bipush 6, 2), (66, .goto 5, 3), (69, .bipush 7, 2), (71, .ireturn, 1)]
theorem mX12_rank_0 : okd cX12_rank lmX12_rank_0 = true := by decide +kernel
theorem dX12_rank_0 : decode cX12_rank 0 = .ok (.iload_n 0, 1) := okd_at mX12_rank_0 0 rfl
theorem dX12_rank_1 : decode cX12_rank 1 = .ok (.ifCond .ne 7, 3) := okd_at mX12_rank_0 1 rfl
theorem dX12_rank_4 : decode cX12_rank 4 = .ok (.iconst 0, 1) := okd_at mX12_rank_0 2 rfl
theorem dX12_rank_5 : decode cX12_rank 5 = .ok (.goto 66, 3) := okd_at mX12_rank_0 3 rfl
theorem dX12_rank_8 : decode cX12_rank 8 = .ok (.iload_n 0, 1) := okd_at mX12_rank_0 4 rfl
theorem dX12_rank_9 : decode cX12_rank 9 = .ok (.bipush 11, 2) := okd_at mX12_rank_0 5 rfl
theorem dX12_rank_11 : decode cX12_rank 11 = .ok (.if_icmp .ne 7, 3) := okd_at mX12_rank_0 6 rfl
theorem dX12_rank_14 : decode cX12_rank 14 = .ok (.iconst 1, 1) := okd_at mX12_rank_0 7 rfl
theorem dX12_rank_15 : decode cX12_rank 15 = .ok (.goto 56, 3) := okd_at mX12_rank_0 8 rfl
theorem dX12_rank_18 : decode cX12_rank 18 = .ok (.iload_n 0, 1) := okd_at mX12_rank_0 9 rfl
theorem dX12_rank_19 : decode cX12_rank 19 = .ok (.bipush 12, 2) := okd_at mX12_rank_0 10 rfl
theorem dX12_rank_21 : decode cX12_rank 21 = .ok (.if_icmp .ne 7, 3) := okd_at mX12_rank_0 11 rfl
theorem dX12_rank_24 : decode cX12_rank 24 = .ok (.iconst 2, 1) := okd_at mX12_rank_0 12 rfl
theorem dX12_rank_25 : decode cX12_rank 25 = .ok (.goto 46, 3) := okd_at mX12_rank_0 13 rfl
theorem dX12_rank_28 : decode cX12_rank 28 = .ok (.iload_n 0, 1) := okd_at mX12_rank_0 14 rfl
theorem dX12_rank_29 : decode cX12_rank 29 = .ok (.bipush 13, 2) := okd_at mX12_rank_0 15 rfl
theorem dX12_rank_31 : decode cX12_rank 31 = .ok (.if_icmp .ne 7, 3) := okd_at mX12_rank_0 16 rfl
theorem dX12_rank_34 : decode cX12_rank 34 = .ok (.iconst 3, 1) := okd_at mX12_rank_0 17 rfl
theorem dX12_rank_35 : decode cX12_rank 35 = .ok (.goto 36, 3) := okd_at mX12_rank_0 18 rfl
theorem dX12_rank_38 : decode cX12_rank 38 = .ok (.iload_n 0, 1) := okd_at mX12_rank_0 19 rfl
theorem dX12_rank_39 : decode cX12_rank 39 = .ok (.bipush 15, 2) := okd_at mX12_rank_0 20 rfl
theorem dX12_rank_41 : decode cX12_rank 41 = .ok (.if_icmp .gt 7, 3) := okd_at mX12_rank_0 21 rfl
theorem dX12_rank_44 : decode cX12_rank 44 = .ok (.iconst 4, 1) := okd_at mX12_rank_0 22 rfl
theorem dX12_rank_45 : decode cX12_rank 45 = .ok (.goto 26, 3) := okd_at mX12_rank_0 23 rfl
theorem dX12_rank_48 : decode cX12_rank 48 = .ok (.iload_n 0, 1) := okd_at mX12_rank_0 24 rfl
theorem dX12_rank_49 : decode cX12_rank 49 = .ok (.bipush 17, 2) := okd_at mX12_rank_0 25 rfl
theorem dX12_rank_51 : decode cX12_rank 51 = .ok (.if_icmp .gt 7, 3) := okd_at mX12_rank_0 26 rfl
theorem dX12_rank_54 : decode cX12_rank 54 = .ok (.iconst 5, 1) := okd_at mX12_rank_0 27 rfl
theorem dX12_rank_55 : decode cX12_rank 55 = .ok (.goto 16, 3) := okd_at mX12_rank_0 28 rfl
theorem dX12_rank_58 : decode cX12_rank 58 = .ok (.iload_n 0, 1) := okd_at mX12_rank_0 29 rfl
theorem dX12_rank_59 : decode cX12_rank 59 = .ok (.bipush 18, 2) := okd_at mX12_rank_0 30 rfl
theorem dX12_rank_61 : decode cX12_rank 61 = .ok (.if_icmp .ne 8, 3) := okd_at mX12_rank_0 31 rfl
theorem dX12_rank_64 : decode cX12_rank 64 = .ok (.bipush 6, 2) := okd_at mX12_rank_0 32 rfl
theorem dX12_rank_66 : decode cX12_rank 66 = .ok (.goto 5, 3) := okd_at mX12_rank_0 33 rfl
theorem dX12_rank_69 : decode cX12_rank 69 = .ok (.bipush 7, 2) := okd_at mX12_rank_0 34 rfl
theorem dX12_rank_71 : decode cX12_rank 71 = .ok (.ireturn, 1) := okd_at mX12_rank_0 35 rfl
def lmX12_runs_0 : List (Nat × Instr × Nat) := [(0, .aload_n 0, 1), (1, .iconst 0, 1), (2, .putfield 192, 3), (5, .iconst 0, 1), (6, .istore_n 2, 1), (7, .iload_n 2, 1), (8, .aload_n 0, 1), (9, .getfield 90, 3), (12, .if_icmp .ge 105, 3), (15, .aload_n 0, 1), (16, .getfield 19, 3), (19, .iconst 2, 1), (20, .iload_n 1, 1), (21, .imul, 1), (22, .iaload, 1), (23, .iload_n 2, 1), (24, .ishr, 1), (25, .iconst 1, 1), (26, .iand, 1), (27, .iconst 1, 1), (28, .if_icmp .ne 83, 3), (31, .aload_n 0, 1), (32, .getfield 64, 3), (35, .iload_n 2, 1), (36, .aload_n 0, 1), (37, .iload_n 2, 1), (38, .iload_n 1, 1), (39, .invokevirtual 195, 3), (42, .iastore, 1), (43, .aload_n 0, 1), (44, .getfield 192, 3), (47, .istore_n 3, 1), (48, .iload_n 3, 1), (49, .ifCond .le 45, 3), (52, .aload_n 0, 1), (53, .getfield 64, 3), (56, .aload_n 0, 1), (57, .getfield 67, 3), (60, .iload_n 3, 1), (61, .iconst 1, 1), (62, .isub, 1), (63, .iaload, 1), (64, .iaload, 1), (65, .aload_n 0, 1), (66, .getfield 64, 3), (69, .iload_n 2, 1), (70, .iaload, 1), (71, .if_icmp .ge 23, 3), (74, .aload_n 0, 1), (75, .getfield 67, 3), (78, .iload_n 3, 1), (79, .aload_n 0, 1), (80, .getfield 67, 3), (83, .iload_n 3, 1), (84, .iconst 1, 1), (85, .isub, 1), (86, .iaload, 1), (87, .iastore, 1), (88, .iinc 3 (-1), 3), (91, .goto (-43), 3)]
theorem mX12_runs_0 : okd cX12_runs lmX12_runs_0 = true := by decide +kernel
theorem dX12_runs_0 : decode cX12_runs 0 = .ok (.aload_n 0, 1) := okd_at mX12_runs_0 0 rfl
theorem dX12_runs_1 : decode cX12_runs 1 = .ok (.iconst 0, 1) := okd_at mX12_runs_0 1 rfl
theorem dX12_runs_2 : decode cX12_runs 2 = .ok (.putfield 192, 3) := okd_at mX12_runs_0 2 rfl
theorem dX12_runs_5 : decode cX12_runs 5 = .ok (.iconst 0, 1) := okd_at mX12_runs_0 3 rfl
theorem dX12_runs_6 : decode cX12_runs 6 = .ok (.istore_n 2, 1) := okd_at mX12_runs_0 4 rfl
theorem dX12_runs_7 : decode cX12_runs 7 = .ok (.iload_n 2, 1) := okd_at mX12_runs_0 5 rfl
theorem dX12_runs_8 : decode cX12_runs 8 = .ok (.aload_n 0, 1) := okd_at mX12_runs_0 6 rfl
theorem dX12_runs_9 : decode cX12_runs 9 = .ok (.getfield 90, 3) := okd_at mX12_runs_0 7 rfl
theorem dX12_runs_12 : decode cX12_runs 12 = .ok (.if_icmp .ge 105, 3) := okd_at mX12_runs_0 8 rfl
theorem dX12_runs_15 : decode cX12_runs 15 = .ok (.aload_n 0, 1) := okd_at mX12_runs_0 9 rfl
theorem dX12_runs_16 : decode cX12_runs 16 = .ok (.getfield 19, 3) := okd_at mX12_runs_0 10 rfl
theorem dX12_runs_19 : decode cX12_runs 19 = .ok (.iconst 2, 1) := okd_at mX12_runs_0 11 rfl
theorem dX12_runs_20 : decode cX12_runs 20 = .ok (.iload_n 1, 1) := okd_at mX12_runs_0 12 rfl
theorem dX12_runs_21 : decode cX12_runs 21 = .ok (.imul, 1) := okd_at mX12_runs_0 13 rfl
theorem dX12_runs_22 : decode cX12_runs 22 = .ok (.iaload, 1) := okd_at mX12_runs_0 14 rfl
theorem dX12_runs_23 : decode cX12_runs 23 = .ok (.iload_n 2, 1) := okd_at mX12_runs_0 15 rfl
theorem dX12_runs_24 : decode cX12_runs 24 = .ok (.ishr, 1) := okd_at mX12_runs_0 16 rfl
theorem dX12_runs_25 : decode cX12_runs 25 = .ok (.iconst 1, 1) := okd_at mX12_runs_0 17 rfl
theorem dX12_runs_26 : decode cX12_runs 26 = .ok (.iand, 1) := okd_at mX12_runs_0 18 rfl
theorem dX12_runs_27 : decode cX12_runs 27 = .ok (.iconst 1, 1) := okd_at mX12_runs_0 19 rfl
theorem dX12_runs_28 : decode cX12_runs 28 = .ok (.if_icmp .ne 83, 3) := okd_at mX12_runs_0 20 rfl
theorem dX12_runs_31 : decode cX12_runs 31 = .ok (.aload_n 0, 1) := okd_at mX12_runs_0 21 rfl
theorem dX12_runs_32 : decode cX12_runs 32 = .ok (.getfield 64, 3) := okd_at mX12_runs_0 22 rfl
theorem dX12_runs_35 : decode cX12_runs 35 = .ok (.iload_n 2, 1) := okd_at mX12_runs_0 23 rfl
theorem dX12_runs_36 : decode cX12_runs 36 = .ok (.aload_n 0, 1) := okd_at mX12_runs_0 24 rfl
theorem dX12_runs_37 : decode cX12_runs 37 = .ok (.iload_n 2, 1) := okd_at mX12_runs_0 25 rfl
theorem dX12_runs_38 : decode cX12_runs 38 = .ok (.iload_n 1, 1) := okd_at mX12_runs_0 26 rfl
theorem dX12_runs_39 : decode cX12_runs 39 = .ok (.invokevirtual 195, 3) := okd_at mX12_runs_0 27 rfl
theorem dX12_runs_42 : decode cX12_runs 42 = .ok (.iastore, 1) := okd_at mX12_runs_0 28 rfl
theorem dX12_runs_43 : decode cX12_runs 43 = .ok (.aload_n 0, 1) := okd_at mX12_runs_0 29 rfl
theorem dX12_runs_44 : decode cX12_runs 44 = .ok (.getfield 192, 3) := okd_at mX12_runs_0 30 rfl
theorem dX12_runs_47 : decode cX12_runs 47 = .ok (.istore_n 3, 1) := okd_at mX12_runs_0 31 rfl
theorem dX12_runs_48 : decode cX12_runs 48 = .ok (.iload_n 3, 1) := okd_at mX12_runs_0 32 rfl
theorem dX12_runs_49 : decode cX12_runs 49 = .ok (.ifCond .le 45, 3) := okd_at mX12_runs_0 33 rfl
theorem dX12_runs_52 : decode cX12_runs 52 = .ok (.aload_n 0, 1) := okd_at mX12_runs_0 34 rfl
theorem dX12_runs_53 : decode cX12_runs 53 = .ok (.getfield 64, 3) := okd_at mX12_runs_0 35 rfl
theorem dX12_runs_56 : decode cX12_runs 56 = .ok (.aload_n 0, 1) := okd_at mX12_runs_0 36 rfl
theorem dX12_runs_57 : decode cX12_runs 57 = .ok (.getfield 67, 3) := okd_at mX12_runs_0 37 rfl
theorem dX12_runs_60 : decode cX12_runs 60 = .ok (.iload_n 3, 1) := okd_at mX12_runs_0 38 rfl
theorem dX12_runs_61 : decode cX12_runs 61 = .ok (.iconst 1, 1) := okd_at mX12_runs_0 39 rfl
theorem dX12_runs_62 : decode cX12_runs 62 = .ok (.isub, 1) := okd_at mX12_runs_0 40 rfl
theorem dX12_runs_63 : decode cX12_runs 63 = .ok (.iaload, 1) := okd_at mX12_runs_0 41 rfl
theorem dX12_runs_64 : decode cX12_runs 64 = .ok (.iaload, 1) := okd_at mX12_runs_0 42 rfl
theorem dX12_runs_65 : decode cX12_runs 65 = .ok (.aload_n 0, 1) := okd_at mX12_runs_0 43 rfl
theorem dX12_runs_66 : decode cX12_runs 66 = .ok (.getfield 64, 3) := okd_at mX12_runs_0 44 rfl
theorem dX12_runs_69 : decode cX12_runs 69 = .ok (.iload_n 2, 1) := okd_at mX12_runs_0 45 rfl
theorem dX12_runs_70 : decode cX12_runs 70 = .ok (.iaload, 1) := okd_at mX12_runs_0 46 rfl
theorem dX12_runs_71 : decode cX12_runs 71 = .ok (.if_icmp .ge 23, 3) := okd_at mX12_runs_0 47 rfl
theorem dX12_runs_74 : decode cX12_runs 74 = .ok (.aload_n 0, 1) := okd_at mX12_runs_0 48 rfl
theorem dX12_runs_75 : decode cX12_runs 75 = .ok (.getfield 67, 3) := okd_at mX12_runs_0 49 rfl
theorem dX12_runs_78 : decode cX12_runs 78 = .ok (.iload_n 3, 1) := okd_at mX12_runs_0 50 rfl
theorem dX12_runs_79 : decode cX12_runs 79 = .ok (.aload_n 0, 1) := okd_at mX12_runs_0 51 rfl
theorem dX12_runs_80 : decode cX12_runs 80 = .ok (.getfield 67, 3) := okd_at mX12_runs_0 52 rfl
theorem dX12_runs_83 : decode cX12_runs 83 = .ok (.iload_n 3, 1) := okd_at mX12_runs_0 53 rfl
theorem dX12_runs_84 : decode cX12_runs 84 = .ok (.iconst 1, 1) := okd_at mX12_runs_0 54 rfl
theorem dX12_runs_85 : decode cX12_runs 85 = .ok (.isub, 1) := okd_at mX12_runs_0 55 rfl
theorem dX12_runs_86 : decode cX12_runs 86 = .ok (.iaload, 1) := okd_at mX12_runs_0 56 rfl
theorem dX12_runs_87 : decode cX12_runs 87 = .ok (.iastore, 1) := okd_at mX12_runs_0 57 rfl
theorem dX12_runs_88 : decode cX12_runs 88 = .ok (.iinc 3 (-1), 3) := okd_at mX12_runs_0 58 rfl
theorem dX12_runs_91 : decode cX12_runs 91 = .ok (.goto (-43), 3) := okd_at mX12_runs_0 59 rfl
def lmX12_runs_1 : List (Nat × Instr × Nat) := [(94, .aload_n 0, 1), (95, .getfield 67, 3), (98, .iload_n 3, 1), (99, .iload_n 2, 1), (100, .iastore, 1), (101, .aload_n 0, 1), (102, .dup, 1), (103, .getfield 192, 3), (106, .iconst 1, 1), (107, .iadd, 1), (108, .putfield 192, 3), (111, .iinc 2 1, 3), (114, .goto (-107), 3), (117, .return_, 1)]
theorem mX12_runs_1 : okd cX12_runs lmX12_runs_1 = true := by decide +kernel
theorem dX12_runs_94 : decode cX12_runs 94 = .ok (.aload_n 0, 1) := okd_at mX12_runs_1 0 rfl
theorem dX12_runs_95 : decode cX12_runs 95 = .ok (.getfield 67, 3) := okd_at mX12_runs_1 1 rfl
theorem dX12_runs_98 : decode cX12_runs 98 = .ok (.iload_n 3, 1) := okd_at mX12_runs_1 2 rfl
theorem dX12_runs_99 : decode cX12_runs 99 = .ok (.iload_n 2, 1) := okd_at mX12_runs_1 3 rfl
theorem dX12_runs_100 : decode cX12_runs 100 = .ok (.iastore, 1) := okd_at mX12_runs_1 4 rfl
theorem dX12_runs_101 : decode cX12_runs 101 = .ok (.aload_n 0, 1) := okd_at mX12_runs_1 5 rfl
theorem dX12_runs_102 : decode cX12_runs 102 = .ok (.dup, 1) := okd_at mX12_runs_1 6 rfl
theorem dX12_runs_103 : decode cX12_runs 103 = .ok (.getfield 192, 3) := okd_at mX12_runs_1 7 rfl
theorem dX12_runs_106 : decode cX12_runs 106 = .ok (.iconst 1, 1) := okd_at mX12_runs_1 8 rfl
theorem dX12_runs_107 : decode cX12_runs 107 = .ok (.iadd, 1) := okd_at mX12_runs_1 9 rfl
theorem dX12_runs_108 : decode cX12_runs 108 = .ok (.putfield 192, 3) := okd_at mX12_runs_1 10 rfl
theorem dX12_runs_111 : decode cX12_runs 111 = .ok (.iinc 2 1, 3) := okd_at mX12_runs_1 11 rfl
theorem dX12_runs_114 : decode cX12_runs 114 = .ok (.goto (-107), 3) := okd_at mX12_runs_1 12 rfl
theorem dX12_runs_117 : decode cX12_runs 117 = .ok (.return_, 1) := okd_at mX12_runs_1 13 rfl
def lmX12_says_0 : List (Nat × Instr × Nat) := [(0, .iconst 0, 1), (1, .istore_n 2, 1), (2, .aload_n 0, 1), (3, .getfield 28, 3), (6, .iconst 4, 1), (7, .aload_n 0, 1), (8, .getfield 103, 3), (11, .imul, 1), (12, .iload_n 1, 1), (13, .iadd, 1), (14, .iaload, 1), (15, .istore_n 3, 1), (16, .iload_n 3, 1), (17, .aload_n 0, 1), (18, .getfield 28, 3), (21, .iconst 4, 1), (22, .aload_n 0, 1), (23, .getfield 103, 3), (26, .imul, 1), (27, .iload_n 1, 1), (28, .iadd, 1), (29, .iconst 1, 1), (30, .iadd, 1), (31, .iaload, 1), (32, .if_icmp .ge 165, 3), (35, .aload_n 0, 1), (36, .getfield 25, 3), (39, .sipush 200, 3), (42, .aload_n 0, 1), (43, .getfield 103, 3), (46, .imul, 1), (47, .iload_n 3, 1), (48, .iadd, 1), (49, .iaload, 1), (50, .istore 4, 2), (52, .iload 4, 2), (54, .ldc 155, 2), (56, .if_icmp .ge 10, 3), (59, .iload 4, 2), (61, .bipush 11, 2), (63, .if_icmp .ge 37, 3), (66, .aload_n 0, 1), (67, .getfield 55, 3), (70, .iload_n 2, 1), (71, .iload 4, 2), (73, .bipush 11, 2), (75, .if_icmp .ge 13, 3), (78, .aload_n 0, 1), (79, .getfield 58, 3), (82, .iload 4, 2), (84, .iaload, 1), (85, .goto 8, 3), (88, .iload 4, 2), (90, .ldc 155, 2), (92, .isub, 1), (93, .iastore, 1), (94, .iinc 2 1, 3), (97, .goto 94, 3), (100, .iload 4, 2), (102, .bipush 13, 2)]
theorem mX12_says_0 : okd cX12_says lmX12_says_0 = true := by decide +kernel
theorem dX12_says_0 : decode cX12_says 0 = .ok (.iconst 0, 1) := okd_at mX12_says_0 0 rfl
theorem dX12_says_1 : decode cX12_says 1 = .ok (.istore_n 2, 1) := okd_at mX12_says_0 1 rfl
theorem dX12_says_2 : decode cX12_says 2 = .ok (.aload_n 0, 1) := okd_at mX12_says_0 2 rfl
theorem dX12_says_3 : decode cX12_says 3 = .ok (.getfield 28, 3) := okd_at mX12_says_0 3 rfl
theorem dX12_says_6 : decode cX12_says 6 = .ok (.iconst 4, 1) := okd_at mX12_says_0 4 rfl
theorem dX12_says_7 : decode cX12_says 7 = .ok (.aload_n 0, 1) := okd_at mX12_says_0 5 rfl
theorem dX12_says_8 : decode cX12_says 8 = .ok (.getfield 103, 3) := okd_at mX12_says_0 6 rfl
theorem dX12_says_11 : decode cX12_says 11 = .ok (.imul, 1) := okd_at mX12_says_0 7 rfl
theorem dX12_says_12 : decode cX12_says 12 = .ok (.iload_n 1, 1) := okd_at mX12_says_0 8 rfl
theorem dX12_says_13 : decode cX12_says 13 = .ok (.iadd, 1) := okd_at mX12_says_0 9 rfl
theorem dX12_says_14 : decode cX12_says 14 = .ok (.iaload, 1) := okd_at mX12_says_0 10 rfl
theorem dX12_says_15 : decode cX12_says 15 = .ok (.istore_n 3, 1) := okd_at mX12_says_0 11 rfl
theorem dX12_says_16 : decode cX12_says 16 = .ok (.iload_n 3, 1) := okd_at mX12_says_0 12 rfl
theorem dX12_says_17 : decode cX12_says 17 = .ok (.aload_n 0, 1) := okd_at mX12_says_0 13 rfl
theorem dX12_says_18 : decode cX12_says 18 = .ok (.getfield 28, 3) := okd_at mX12_says_0 14 rfl
theorem dX12_says_21 : decode cX12_says 21 = .ok (.iconst 4, 1) := okd_at mX12_says_0 15 rfl
theorem dX12_says_22 : decode cX12_says 22 = .ok (.aload_n 0, 1) := okd_at mX12_says_0 16 rfl
theorem dX12_says_23 : decode cX12_says 23 = .ok (.getfield 103, 3) := okd_at mX12_says_0 17 rfl
theorem dX12_says_26 : decode cX12_says 26 = .ok (.imul, 1) := okd_at mX12_says_0 18 rfl
theorem dX12_says_27 : decode cX12_says 27 = .ok (.iload_n 1, 1) := okd_at mX12_says_0 19 rfl
theorem dX12_says_28 : decode cX12_says 28 = .ok (.iadd, 1) := okd_at mX12_says_0 20 rfl
theorem dX12_says_29 : decode cX12_says 29 = .ok (.iconst 1, 1) := okd_at mX12_says_0 21 rfl
theorem dX12_says_30 : decode cX12_says 30 = .ok (.iadd, 1) := okd_at mX12_says_0 22 rfl
theorem dX12_says_31 : decode cX12_says 31 = .ok (.iaload, 1) := okd_at mX12_says_0 23 rfl
theorem dX12_says_32 : decode cX12_says 32 = .ok (.if_icmp .ge 165, 3) := okd_at mX12_says_0 24 rfl
theorem dX12_says_35 : decode cX12_says 35 = .ok (.aload_n 0, 1) := okd_at mX12_says_0 25 rfl
theorem dX12_says_36 : decode cX12_says 36 = .ok (.getfield 25, 3) := okd_at mX12_says_0 26 rfl
theorem dX12_says_39 : decode cX12_says 39 = .ok (.sipush 200, 3) := okd_at mX12_says_0 27 rfl
theorem dX12_says_42 : decode cX12_says 42 = .ok (.aload_n 0, 1) := okd_at mX12_says_0 28 rfl
theorem dX12_says_43 : decode cX12_says 43 = .ok (.getfield 103, 3) := okd_at mX12_says_0 29 rfl
theorem dX12_says_46 : decode cX12_says 46 = .ok (.imul, 1) := okd_at mX12_says_0 30 rfl
theorem dX12_says_47 : decode cX12_says 47 = .ok (.iload_n 3, 1) := okd_at mX12_says_0 31 rfl
theorem dX12_says_48 : decode cX12_says 48 = .ok (.iadd, 1) := okd_at mX12_says_0 32 rfl
theorem dX12_says_49 : decode cX12_says 49 = .ok (.iaload, 1) := okd_at mX12_says_0 33 rfl
theorem dX12_says_50 : decode cX12_says 50 = .ok (.istore 4, 2) := okd_at mX12_says_0 34 rfl
theorem dX12_says_52 : decode cX12_says 52 = .ok (.iload 4, 2) := okd_at mX12_says_0 35 rfl
theorem dX12_says_54 : decode cX12_says 54 = .ok (.ldc 155, 2) := okd_at mX12_says_0 36 rfl
theorem dX12_says_56 : decode cX12_says 56 = .ok (.if_icmp .ge 10, 3) := okd_at mX12_says_0 37 rfl
theorem dX12_says_59 : decode cX12_says 59 = .ok (.iload 4, 2) := okd_at mX12_says_0 38 rfl
theorem dX12_says_61 : decode cX12_says 61 = .ok (.bipush 11, 2) := okd_at mX12_says_0 39 rfl
theorem dX12_says_63 : decode cX12_says 63 = .ok (.if_icmp .ge 37, 3) := okd_at mX12_says_0 40 rfl
theorem dX12_says_66 : decode cX12_says 66 = .ok (.aload_n 0, 1) := okd_at mX12_says_0 41 rfl
theorem dX12_says_67 : decode cX12_says 67 = .ok (.getfield 55, 3) := okd_at mX12_says_0 42 rfl
theorem dX12_says_70 : decode cX12_says 70 = .ok (.iload_n 2, 1) := okd_at mX12_says_0 43 rfl
theorem dX12_says_71 : decode cX12_says 71 = .ok (.iload 4, 2) := okd_at mX12_says_0 44 rfl
theorem dX12_says_73 : decode cX12_says 73 = .ok (.bipush 11, 2) := okd_at mX12_says_0 45 rfl
theorem dX12_says_75 : decode cX12_says 75 = .ok (.if_icmp .ge 13, 3) := okd_at mX12_says_0 46 rfl
theorem dX12_says_78 : decode cX12_says 78 = .ok (.aload_n 0, 1) := okd_at mX12_says_0 47 rfl
theorem dX12_says_79 : decode cX12_says 79 = .ok (.getfield 58, 3) := okd_at mX12_says_0 48 rfl
theorem dX12_says_82 : decode cX12_says 82 = .ok (.iload 4, 2) := okd_at mX12_says_0 49 rfl
theorem dX12_says_84 : decode cX12_says 84 = .ok (.iaload, 1) := okd_at mX12_says_0 50 rfl
theorem dX12_says_85 : decode cX12_says 85 = .ok (.goto 8, 3) := okd_at mX12_says_0 51 rfl
theorem dX12_says_88 : decode cX12_says 88 = .ok (.iload 4, 2) := okd_at mX12_says_0 52 rfl
theorem dX12_says_90 : decode cX12_says 90 = .ok (.ldc 155, 2) := okd_at mX12_says_0 53 rfl
theorem dX12_says_92 : decode cX12_says 92 = .ok (.isub, 1) := okd_at mX12_says_0 54 rfl
theorem dX12_says_93 : decode cX12_says 93 = .ok (.iastore, 1) := okd_at mX12_says_0 55 rfl
theorem dX12_says_94 : decode cX12_says 94 = .ok (.iinc 2 1, 3) := okd_at mX12_says_0 56 rfl
theorem dX12_says_97 : decode cX12_says 97 = .ok (.goto 94, 3) := okd_at mX12_says_0 57 rfl
theorem dX12_says_100 : decode cX12_says 100 = .ok (.iload 4, 2) := okd_at mX12_says_0 58 rfl
theorem dX12_says_102 : decode cX12_says 102 = .ok (.bipush 13, 2) := okd_at mX12_says_0 59 rfl
def lmX12_says_1 : List (Nat × Instr × Nat) := [(104, .if_icmp .ne 30, 3), (107, .aload_n 0, 1), (108, .getfield 55, 3), (111, .iload_n 2, 1), (112, .iconst 1, 1), (113, .isub, 1), (114, .aload_n 0, 1), (115, .getfield 55, 3), (118, .iload_n 2, 1), (119, .iconst 1, 1), (120, .isub, 1), (121, .iaload, 1), (122, .ifCond .ne 7, 3), (125, .iconst 1, 1), (126, .goto 4, 3), (129, .iconst 0, 1), (130, .iastore, 1), (131, .goto 60, 3), (134, .iload 4, 2), (136, .bipush 19, 2), (138, .if_icmp .ne 23, 3), (141, .aload_n 0, 1), (142, .getfield 55, 3), (145, .iload_n 2, 1), (146, .iconst 1, 1), (147, .isub, 1), (148, .aload_n 0, 1), (149, .getfield 55, 3), (152, .iload_n 2, 1), (153, .iconst 1, 1), (154, .isub, 1), (155, .iaload, 1), (156, .ineg, 1), (157, .iastore, 1), (158, .goto 33, 3), (161, .iinc 2 (-1), 3), (164, .aload_n 0, 1), (165, .getfield 55, 3), (168, .iload_n 2, 1), (169, .iconst 1, 1), (170, .isub, 1), (171, .iload 4, 2), (173, .aload_n 0, 1), (174, .getfield 55, 3), (177, .iload_n 2, 1), (178, .iconst 1, 1), (179, .isub, 1), (180, .iaload, 1), (181, .aload_n 0, 1), (182, .getfield 55, 3), (185, .iload_n 2, 1), (186, .iaload, 1), (187, .invokestatic 169, 3), (190, .iastore, 1), (191, .iinc 3 1, 3), (194, .goto (-178), 3), (197, .aload_n 0, 1), (198, .getfield 55, 3), (201, .iconst 0, 1), (202, .iaload, 1)]
theorem mX12_says_1 : okd cX12_says lmX12_says_1 = true := by decide +kernel
theorem dX12_says_104 : decode cX12_says 104 = .ok (.if_icmp .ne 30, 3) := okd_at mX12_says_1 0 rfl
theorem dX12_says_107 : decode cX12_says 107 = .ok (.aload_n 0, 1) := okd_at mX12_says_1 1 rfl
theorem dX12_says_108 : decode cX12_says 108 = .ok (.getfield 55, 3) := okd_at mX12_says_1 2 rfl
theorem dX12_says_111 : decode cX12_says 111 = .ok (.iload_n 2, 1) := okd_at mX12_says_1 3 rfl
theorem dX12_says_112 : decode cX12_says 112 = .ok (.iconst 1, 1) := okd_at mX12_says_1 4 rfl
theorem dX12_says_113 : decode cX12_says 113 = .ok (.isub, 1) := okd_at mX12_says_1 5 rfl
theorem dX12_says_114 : decode cX12_says 114 = .ok (.aload_n 0, 1) := okd_at mX12_says_1 6 rfl
theorem dX12_says_115 : decode cX12_says 115 = .ok (.getfield 55, 3) := okd_at mX12_says_1 7 rfl
theorem dX12_says_118 : decode cX12_says 118 = .ok (.iload_n 2, 1) := okd_at mX12_says_1 8 rfl
theorem dX12_says_119 : decode cX12_says 119 = .ok (.iconst 1, 1) := okd_at mX12_says_1 9 rfl
theorem dX12_says_120 : decode cX12_says 120 = .ok (.isub, 1) := okd_at mX12_says_1 10 rfl
theorem dX12_says_121 : decode cX12_says 121 = .ok (.iaload, 1) := okd_at mX12_says_1 11 rfl
theorem dX12_says_122 : decode cX12_says 122 = .ok (.ifCond .ne 7, 3) := okd_at mX12_says_1 12 rfl
theorem dX12_says_125 : decode cX12_says 125 = .ok (.iconst 1, 1) := okd_at mX12_says_1 13 rfl
theorem dX12_says_126 : decode cX12_says 126 = .ok (.goto 4, 3) := okd_at mX12_says_1 14 rfl
theorem dX12_says_129 : decode cX12_says 129 = .ok (.iconst 0, 1) := okd_at mX12_says_1 15 rfl
theorem dX12_says_130 : decode cX12_says 130 = .ok (.iastore, 1) := okd_at mX12_says_1 16 rfl
theorem dX12_says_131 : decode cX12_says 131 = .ok (.goto 60, 3) := okd_at mX12_says_1 17 rfl
theorem dX12_says_134 : decode cX12_says 134 = .ok (.iload 4, 2) := okd_at mX12_says_1 18 rfl
theorem dX12_says_136 : decode cX12_says 136 = .ok (.bipush 19, 2) := okd_at mX12_says_1 19 rfl
theorem dX12_says_138 : decode cX12_says 138 = .ok (.if_icmp .ne 23, 3) := okd_at mX12_says_1 20 rfl
theorem dX12_says_141 : decode cX12_says 141 = .ok (.aload_n 0, 1) := okd_at mX12_says_1 21 rfl
theorem dX12_says_142 : decode cX12_says 142 = .ok (.getfield 55, 3) := okd_at mX12_says_1 22 rfl
theorem dX12_says_145 : decode cX12_says 145 = .ok (.iload_n 2, 1) := okd_at mX12_says_1 23 rfl
theorem dX12_says_146 : decode cX12_says 146 = .ok (.iconst 1, 1) := okd_at mX12_says_1 24 rfl
theorem dX12_says_147 : decode cX12_says 147 = .ok (.isub, 1) := okd_at mX12_says_1 25 rfl
theorem dX12_says_148 : decode cX12_says 148 = .ok (.aload_n 0, 1) := okd_at mX12_says_1 26 rfl
theorem dX12_says_149 : decode cX12_says 149 = .ok (.getfield 55, 3) := okd_at mX12_says_1 27 rfl
theorem dX12_says_152 : decode cX12_says 152 = .ok (.iload_n 2, 1) := okd_at mX12_says_1 28 rfl
theorem dX12_says_153 : decode cX12_says 153 = .ok (.iconst 1, 1) := okd_at mX12_says_1 29 rfl
theorem dX12_says_154 : decode cX12_says 154 = .ok (.isub, 1) := okd_at mX12_says_1 30 rfl
theorem dX12_says_155 : decode cX12_says 155 = .ok (.iaload, 1) := okd_at mX12_says_1 31 rfl
theorem dX12_says_156 : decode cX12_says 156 = .ok (.ineg, 1) := okd_at mX12_says_1 32 rfl
theorem dX12_says_157 : decode cX12_says 157 = .ok (.iastore, 1) := okd_at mX12_says_1 33 rfl
theorem dX12_says_158 : decode cX12_says 158 = .ok (.goto 33, 3) := okd_at mX12_says_1 34 rfl
theorem dX12_says_161 : decode cX12_says 161 = .ok (.iinc 2 (-1), 3) := okd_at mX12_says_1 35 rfl
theorem dX12_says_164 : decode cX12_says 164 = .ok (.aload_n 0, 1) := okd_at mX12_says_1 36 rfl
theorem dX12_says_165 : decode cX12_says 165 = .ok (.getfield 55, 3) := okd_at mX12_says_1 37 rfl
theorem dX12_says_168 : decode cX12_says 168 = .ok (.iload_n 2, 1) := okd_at mX12_says_1 38 rfl
theorem dX12_says_169 : decode cX12_says 169 = .ok (.iconst 1, 1) := okd_at mX12_says_1 39 rfl
theorem dX12_says_170 : decode cX12_says 170 = .ok (.isub, 1) := okd_at mX12_says_1 40 rfl
theorem dX12_says_171 : decode cX12_says 171 = .ok (.iload 4, 2) := okd_at mX12_says_1 41 rfl
theorem dX12_says_173 : decode cX12_says 173 = .ok (.aload_n 0, 1) := okd_at mX12_says_1 42 rfl
theorem dX12_says_174 : decode cX12_says 174 = .ok (.getfield 55, 3) := okd_at mX12_says_1 43 rfl
theorem dX12_says_177 : decode cX12_says 177 = .ok (.iload_n 2, 1) := okd_at mX12_says_1 44 rfl
theorem dX12_says_178 : decode cX12_says 178 = .ok (.iconst 1, 1) := okd_at mX12_says_1 45 rfl
theorem dX12_says_179 : decode cX12_says 179 = .ok (.isub, 1) := okd_at mX12_says_1 46 rfl
theorem dX12_says_180 : decode cX12_says 180 = .ok (.iaload, 1) := okd_at mX12_says_1 47 rfl
theorem dX12_says_181 : decode cX12_says 181 = .ok (.aload_n 0, 1) := okd_at mX12_says_1 48 rfl
theorem dX12_says_182 : decode cX12_says 182 = .ok (.getfield 55, 3) := okd_at mX12_says_1 49 rfl
theorem dX12_says_185 : decode cX12_says 185 = .ok (.iload_n 2, 1) := okd_at mX12_says_1 50 rfl
theorem dX12_says_186 : decode cX12_says 186 = .ok (.iaload, 1) := okd_at mX12_says_1 51 rfl
theorem dX12_says_187 : decode cX12_says 187 = .ok (.invokestatic 169, 3) := okd_at mX12_says_1 52 rfl
theorem dX12_says_190 : decode cX12_says 190 = .ok (.iastore, 1) := okd_at mX12_says_1 53 rfl
theorem dX12_says_191 : decode cX12_says 191 = .ok (.iinc 3 1, 3) := okd_at mX12_says_1 54 rfl
theorem dX12_says_194 : decode cX12_says 194 = .ok (.goto (-178), 3) := okd_at mX12_says_1 55 rfl
theorem dX12_says_197 : decode cX12_says 197 = .ok (.aload_n 0, 1) := okd_at mX12_says_1 56 rfl
theorem dX12_says_198 : decode cX12_says 198 = .ok (.getfield 55, 3) := okd_at mX12_says_1 57 rfl
theorem dX12_says_201 : decode cX12_says 201 = .ok (.iconst 0, 1) := okd_at mX12_says_1 58 rfl
theorem dX12_says_202 : decode cX12_says 202 = .ok (.iaload, 1) := okd_at mX12_says_1 59 rfl
def lmX12_says_2 : List (Nat × Instr × Nat) := [(203, .ireturn, 1)]
theorem mX12_says_2 : okd cX12_says lmX12_says_2 = true := by decide +kernel
theorem dX12_says_203 : decode cX12_says 203 = .ok (.ireturn, 1) := okd_at mX12_says_2 0 rfl
def lmX12_scoreOf_0 : List (Nat × Instr × Nat) := [(0, .aload_n 0, 1), (1, .getfield 7, 3), (4, .iconst 3, 1), (5, .iload_n 1, 1), (6, .imul, 1), (7, .iaload, 1), (8, .istore_n 3, 1), (9, .aload_n 0, 1), (10, .getfield 7, 3), (13, .iconst 3, 1), (14, .iload_n 1, 1), (15, .imul, 1), (16, .iconst 1, 1), (17, .iadd, 1), (18, .iaload, 1), (19, .istore 4, 2), (21, .aload_n 0, 1), (22, .getfield 16, 3), (25, .iload_n 2, 1), (26, .iaload, 1), (27, .istore 5, 2), (29, .aload_n 0, 1), (30, .iconst 0, 1), (31, .iload_n 1, 1), (32, .iload_n 2, 1), (33, .aload_n 0, 1), (34, .getfield 61, 3), (37, .iload_n 1, 1), (38, .iaload, 1), (39, .invokevirtual 185, 3), (42, .aload_n 0, 1), (43, .getfield 7, 3), (46, .iconst 3, 1), (47, .iload_n 1, 1), (48, .imul, 1), (49, .iconst 2, 1), (50, .iadd, 1), (51, .iaload, 1), (52, .iadd, 1), (53, .iconst 0, 1), (54, .bipush 99, 2), (56, .invokestatic 173, 3), (59, .istore 6, 2), (61, .aload_n 0, 1), (62, .getfield 13, 3), (65, .iload_n 2, 1), (66, .iaload, 1), (67, .tableswitch 100 1 5 #[33, 43, 52, 70, 81], 33), (100, .iload_n 3, 1), (101, .iconst 2, 1), (102, .idiv, 1), (103, .iload 4, 2), (105, .iadd, 1), (106, .iload 6, 2), (108, .iadd, 1), (109, .ireturn, 1), (110, .iload 4, 2), (112, .iload 5, 2), (114, .iadd, 1), (115, .iload 6, 2)]
theorem mX12_scoreOf_0 : okd cX12_scoreOf lmX12_scoreOf_0 = true := by decide +kernel
theorem dX12_scoreOf_0 : decode cX12_scoreOf 0 = .ok (.aload_n 0, 1) := okd_at mX12_scoreOf_0 0 rfl
theorem dX12_scoreOf_1 : decode cX12_scoreOf 1 = .ok (.getfield 7, 3) := okd_at mX12_scoreOf_0 1 rfl
theorem dX12_scoreOf_4 : decode cX12_scoreOf 4 = .ok (.iconst 3, 1) := okd_at mX12_scoreOf_0 2 rfl
theorem dX12_scoreOf_5 : decode cX12_scoreOf 5 = .ok (.iload_n 1, 1) := okd_at mX12_scoreOf_0 3 rfl
theorem dX12_scoreOf_6 : decode cX12_scoreOf 6 = .ok (.imul, 1) := okd_at mX12_scoreOf_0 4 rfl
theorem dX12_scoreOf_7 : decode cX12_scoreOf 7 = .ok (.iaload, 1) := okd_at mX12_scoreOf_0 5 rfl
theorem dX12_scoreOf_8 : decode cX12_scoreOf 8 = .ok (.istore_n 3, 1) := okd_at mX12_scoreOf_0 6 rfl
theorem dX12_scoreOf_9 : decode cX12_scoreOf 9 = .ok (.aload_n 0, 1) := okd_at mX12_scoreOf_0 7 rfl
theorem dX12_scoreOf_10 : decode cX12_scoreOf 10 = .ok (.getfield 7, 3) := okd_at mX12_scoreOf_0 8 rfl
theorem dX12_scoreOf_13 : decode cX12_scoreOf 13 = .ok (.iconst 3, 1) := okd_at mX12_scoreOf_0 9 rfl
theorem dX12_scoreOf_14 : decode cX12_scoreOf 14 = .ok (.iload_n 1, 1) := okd_at mX12_scoreOf_0 10 rfl
theorem dX12_scoreOf_15 : decode cX12_scoreOf 15 = .ok (.imul, 1) := okd_at mX12_scoreOf_0 11 rfl
theorem dX12_scoreOf_16 : decode cX12_scoreOf 16 = .ok (.iconst 1, 1) := okd_at mX12_scoreOf_0 12 rfl
theorem dX12_scoreOf_17 : decode cX12_scoreOf 17 = .ok (.iadd, 1) := okd_at mX12_scoreOf_0 13 rfl
theorem dX12_scoreOf_18 : decode cX12_scoreOf 18 = .ok (.iaload, 1) := okd_at mX12_scoreOf_0 14 rfl
theorem dX12_scoreOf_19 : decode cX12_scoreOf 19 = .ok (.istore 4, 2) := okd_at mX12_scoreOf_0 15 rfl
theorem dX12_scoreOf_21 : decode cX12_scoreOf 21 = .ok (.aload_n 0, 1) := okd_at mX12_scoreOf_0 16 rfl
theorem dX12_scoreOf_22 : decode cX12_scoreOf 22 = .ok (.getfield 16, 3) := okd_at mX12_scoreOf_0 17 rfl
theorem dX12_scoreOf_25 : decode cX12_scoreOf 25 = .ok (.iload_n 2, 1) := okd_at mX12_scoreOf_0 18 rfl
theorem dX12_scoreOf_26 : decode cX12_scoreOf 26 = .ok (.iaload, 1) := okd_at mX12_scoreOf_0 19 rfl
theorem dX12_scoreOf_27 : decode cX12_scoreOf 27 = .ok (.istore 5, 2) := okd_at mX12_scoreOf_0 20 rfl
theorem dX12_scoreOf_29 : decode cX12_scoreOf 29 = .ok (.aload_n 0, 1) := okd_at mX12_scoreOf_0 21 rfl
theorem dX12_scoreOf_30 : decode cX12_scoreOf 30 = .ok (.iconst 0, 1) := okd_at mX12_scoreOf_0 22 rfl
theorem dX12_scoreOf_31 : decode cX12_scoreOf 31 = .ok (.iload_n 1, 1) := okd_at mX12_scoreOf_0 23 rfl
theorem dX12_scoreOf_32 : decode cX12_scoreOf 32 = .ok (.iload_n 2, 1) := okd_at mX12_scoreOf_0 24 rfl
theorem dX12_scoreOf_33 : decode cX12_scoreOf 33 = .ok (.aload_n 0, 1) := okd_at mX12_scoreOf_0 25 rfl
theorem dX12_scoreOf_34 : decode cX12_scoreOf 34 = .ok (.getfield 61, 3) := okd_at mX12_scoreOf_0 26 rfl
theorem dX12_scoreOf_37 : decode cX12_scoreOf 37 = .ok (.iload_n 1, 1) := okd_at mX12_scoreOf_0 27 rfl
theorem dX12_scoreOf_38 : decode cX12_scoreOf 38 = .ok (.iaload, 1) := okd_at mX12_scoreOf_0 28 rfl
theorem dX12_scoreOf_39 : decode cX12_scoreOf 39 = .ok (.invokevirtual 185, 3) := okd_at mX12_scoreOf_0 29 rfl
theorem dX12_scoreOf_42 : decode cX12_scoreOf 42 = .ok (.aload_n 0, 1) := okd_at mX12_scoreOf_0 30 rfl
theorem dX12_scoreOf_43 : decode cX12_scoreOf 43 = .ok (.getfield 7, 3) := okd_at mX12_scoreOf_0 31 rfl
theorem dX12_scoreOf_46 : decode cX12_scoreOf 46 = .ok (.iconst 3, 1) := okd_at mX12_scoreOf_0 32 rfl
theorem dX12_scoreOf_47 : decode cX12_scoreOf 47 = .ok (.iload_n 1, 1) := okd_at mX12_scoreOf_0 33 rfl
theorem dX12_scoreOf_48 : decode cX12_scoreOf 48 = .ok (.imul, 1) := okd_at mX12_scoreOf_0 34 rfl
theorem dX12_scoreOf_49 : decode cX12_scoreOf 49 = .ok (.iconst 2, 1) := okd_at mX12_scoreOf_0 35 rfl
theorem dX12_scoreOf_50 : decode cX12_scoreOf 50 = .ok (.iadd, 1) := okd_at mX12_scoreOf_0 36 rfl
theorem dX12_scoreOf_51 : decode cX12_scoreOf 51 = .ok (.iaload, 1) := okd_at mX12_scoreOf_0 37 rfl
theorem dX12_scoreOf_52 : decode cX12_scoreOf 52 = .ok (.iadd, 1) := okd_at mX12_scoreOf_0 38 rfl
theorem dX12_scoreOf_53 : decode cX12_scoreOf 53 = .ok (.iconst 0, 1) := okd_at mX12_scoreOf_0 39 rfl
theorem dX12_scoreOf_54 : decode cX12_scoreOf 54 = .ok (.bipush 99, 2) := okd_at mX12_scoreOf_0 40 rfl
theorem dX12_scoreOf_56 : decode cX12_scoreOf 56 = .ok (.invokestatic 173, 3) := okd_at mX12_scoreOf_0 41 rfl
theorem dX12_scoreOf_59 : decode cX12_scoreOf 59 = .ok (.istore 6, 2) := okd_at mX12_scoreOf_0 42 rfl
theorem dX12_scoreOf_61 : decode cX12_scoreOf 61 = .ok (.aload_n 0, 1) := okd_at mX12_scoreOf_0 43 rfl
theorem dX12_scoreOf_62 : decode cX12_scoreOf 62 = .ok (.getfield 13, 3) := okd_at mX12_scoreOf_0 44 rfl
theorem dX12_scoreOf_65 : decode cX12_scoreOf 65 = .ok (.iload_n 2, 1) := okd_at mX12_scoreOf_0 45 rfl
theorem dX12_scoreOf_66 : decode cX12_scoreOf 66 = .ok (.iaload, 1) := okd_at mX12_scoreOf_0 46 rfl
theorem dX12_scoreOf_67 : decode cX12_scoreOf 67 = .ok (.tableswitch 100 1 5 #[33, 43, 52, 70, 81], 33) := okd_at mX12_scoreOf_0 47 rfl
theorem dX12_scoreOf_100 : decode cX12_scoreOf 100 = .ok (.iload_n 3, 1) := okd_at mX12_scoreOf_0 48 rfl
theorem dX12_scoreOf_101 : decode cX12_scoreOf 101 = .ok (.iconst 2, 1) := okd_at mX12_scoreOf_0 49 rfl
theorem dX12_scoreOf_102 : decode cX12_scoreOf 102 = .ok (.idiv, 1) := okd_at mX12_scoreOf_0 50 rfl
theorem dX12_scoreOf_103 : decode cX12_scoreOf 103 = .ok (.iload 4, 2) := okd_at mX12_scoreOf_0 51 rfl
theorem dX12_scoreOf_105 : decode cX12_scoreOf 105 = .ok (.iadd, 1) := okd_at mX12_scoreOf_0 52 rfl
theorem dX12_scoreOf_106 : decode cX12_scoreOf 106 = .ok (.iload 6, 2) := okd_at mX12_scoreOf_0 53 rfl
theorem dX12_scoreOf_108 : decode cX12_scoreOf 108 = .ok (.iadd, 1) := okd_at mX12_scoreOf_0 54 rfl
theorem dX12_scoreOf_109 : decode cX12_scoreOf 109 = .ok (.ireturn, 1) := okd_at mX12_scoreOf_0 55 rfl
theorem dX12_scoreOf_110 : decode cX12_scoreOf 110 = .ok (.iload 4, 2) := okd_at mX12_scoreOf_0 56 rfl
theorem dX12_scoreOf_112 : decode cX12_scoreOf 112 = .ok (.iload 5, 2) := okd_at mX12_scoreOf_0 57 rfl
theorem dX12_scoreOf_114 : decode cX12_scoreOf 114 = .ok (.iadd, 1) := okd_at mX12_scoreOf_0 58 rfl
theorem dX12_scoreOf_115 : decode cX12_scoreOf 115 = .ok (.iload 6, 2) := okd_at mX12_scoreOf_0 59 rfl
def lmX12_scoreOf_1 : List (Nat × Instr × Nat) := [(117, .iadd, 1), (118, .ireturn, 1), (119, .bipush 99, 2), (121, .iload_n 3, 1), (122, .iconst 2, 1), (123, .idiv, 1), (124, .iload 4, 2), (126, .iadd, 1), (127, .isub, 1), (128, .iload 6, 2), (130, .iload 5, 2), (132, .imul, 1), (133, .iconst 2, 1), (134, .idiv, 1), (135, .iadd, 1), (136, .ireturn, 1), (137, .iload 4, 2), (139, .iload 5, 2), (141, .iadd, 1), (142, .iload_n 3, 1), (143, .isub, 1), (144, .iload 6, 2), (146, .isub, 1), (147, .ireturn, 1), (148, .bipush 7, 2), (150, .iload_n 3, 1), (151, .imul, 1), (152, .iconst 3, 1), (153, .iload 4, 2), (155, .imul, 1), (156, .iadd, 1), (157, .iload 5, 2), (159, .iadd, 1), (160, .bipush 31, 2), (162, .irem, 1), (163, .iload 6, 2), (165, .iadd, 1), (166, .ireturn, 1), (167, .iload_n 3, 1), (168, .iload 6, 2), (170, .iadd, 1), (171, .ireturn, 1)]
theorem mX12_scoreOf_1 : okd cX12_scoreOf lmX12_scoreOf_1 = true := by decide +kernel
theorem dX12_scoreOf_117 : decode cX12_scoreOf 117 = .ok (.iadd, 1) := okd_at mX12_scoreOf_1 0 rfl
theorem dX12_scoreOf_118 : decode cX12_scoreOf 118 = .ok (.ireturn, 1) := okd_at mX12_scoreOf_1 1 rfl
theorem dX12_scoreOf_119 : decode cX12_scoreOf 119 = .ok (.bipush 99, 2) := okd_at mX12_scoreOf_1 2 rfl
theorem dX12_scoreOf_121 : decode cX12_scoreOf 121 = .ok (.iload_n 3, 1) := okd_at mX12_scoreOf_1 3 rfl
theorem dX12_scoreOf_122 : decode cX12_scoreOf 122 = .ok (.iconst 2, 1) := okd_at mX12_scoreOf_1 4 rfl
theorem dX12_scoreOf_123 : decode cX12_scoreOf 123 = .ok (.idiv, 1) := okd_at mX12_scoreOf_1 5 rfl
theorem dX12_scoreOf_124 : decode cX12_scoreOf 124 = .ok (.iload 4, 2) := okd_at mX12_scoreOf_1 6 rfl
theorem dX12_scoreOf_126 : decode cX12_scoreOf 126 = .ok (.iadd, 1) := okd_at mX12_scoreOf_1 7 rfl
theorem dX12_scoreOf_127 : decode cX12_scoreOf 127 = .ok (.isub, 1) := okd_at mX12_scoreOf_1 8 rfl
theorem dX12_scoreOf_128 : decode cX12_scoreOf 128 = .ok (.iload 6, 2) := okd_at mX12_scoreOf_1 9 rfl
theorem dX12_scoreOf_130 : decode cX12_scoreOf 130 = .ok (.iload 5, 2) := okd_at mX12_scoreOf_1 10 rfl
theorem dX12_scoreOf_132 : decode cX12_scoreOf 132 = .ok (.imul, 1) := okd_at mX12_scoreOf_1 11 rfl
theorem dX12_scoreOf_133 : decode cX12_scoreOf 133 = .ok (.iconst 2, 1) := okd_at mX12_scoreOf_1 12 rfl
theorem dX12_scoreOf_134 : decode cX12_scoreOf 134 = .ok (.idiv, 1) := okd_at mX12_scoreOf_1 13 rfl
theorem dX12_scoreOf_135 : decode cX12_scoreOf 135 = .ok (.iadd, 1) := okd_at mX12_scoreOf_1 14 rfl
theorem dX12_scoreOf_136 : decode cX12_scoreOf 136 = .ok (.ireturn, 1) := okd_at mX12_scoreOf_1 15 rfl
theorem dX12_scoreOf_137 : decode cX12_scoreOf 137 = .ok (.iload 4, 2) := okd_at mX12_scoreOf_1 16 rfl
theorem dX12_scoreOf_139 : decode cX12_scoreOf 139 = .ok (.iload 5, 2) := okd_at mX12_scoreOf_1 17 rfl
theorem dX12_scoreOf_141 : decode cX12_scoreOf 141 = .ok (.iadd, 1) := okd_at mX12_scoreOf_1 18 rfl
theorem dX12_scoreOf_142 : decode cX12_scoreOf 142 = .ok (.iload_n 3, 1) := okd_at mX12_scoreOf_1 19 rfl
theorem dX12_scoreOf_143 : decode cX12_scoreOf 143 = .ok (.isub, 1) := okd_at mX12_scoreOf_1 20 rfl
theorem dX12_scoreOf_144 : decode cX12_scoreOf 144 = .ok (.iload 6, 2) := okd_at mX12_scoreOf_1 21 rfl
theorem dX12_scoreOf_146 : decode cX12_scoreOf 146 = .ok (.isub, 1) := okd_at mX12_scoreOf_1 22 rfl
theorem dX12_scoreOf_147 : decode cX12_scoreOf 147 = .ok (.ireturn, 1) := okd_at mX12_scoreOf_1 23 rfl
theorem dX12_scoreOf_148 : decode cX12_scoreOf 148 = .ok (.bipush 7, 2) := okd_at mX12_scoreOf_1 24 rfl
theorem dX12_scoreOf_150 : decode cX12_scoreOf 150 = .ok (.iload_n 3, 1) := okd_at mX12_scoreOf_1 25 rfl
theorem dX12_scoreOf_151 : decode cX12_scoreOf 151 = .ok (.imul, 1) := okd_at mX12_scoreOf_1 26 rfl
theorem dX12_scoreOf_152 : decode cX12_scoreOf 152 = .ok (.iconst 3, 1) := okd_at mX12_scoreOf_1 27 rfl
theorem dX12_scoreOf_153 : decode cX12_scoreOf 153 = .ok (.iload 4, 2) := okd_at mX12_scoreOf_1 28 rfl
theorem dX12_scoreOf_155 : decode cX12_scoreOf 155 = .ok (.imul, 1) := okd_at mX12_scoreOf_1 29 rfl
theorem dX12_scoreOf_156 : decode cX12_scoreOf 156 = .ok (.iadd, 1) := okd_at mX12_scoreOf_1 30 rfl
theorem dX12_scoreOf_157 : decode cX12_scoreOf 157 = .ok (.iload 5, 2) := okd_at mX12_scoreOf_1 31 rfl
theorem dX12_scoreOf_159 : decode cX12_scoreOf 159 = .ok (.iadd, 1) := okd_at mX12_scoreOf_1 32 rfl
theorem dX12_scoreOf_160 : decode cX12_scoreOf 160 = .ok (.bipush 31, 2) := okd_at mX12_scoreOf_1 33 rfl
theorem dX12_scoreOf_162 : decode cX12_scoreOf 162 = .ok (.irem, 1) := okd_at mX12_scoreOf_1 34 rfl
theorem dX12_scoreOf_163 : decode cX12_scoreOf 163 = .ok (.iload 6, 2) := okd_at mX12_scoreOf_1 35 rfl
theorem dX12_scoreOf_165 : decode cX12_scoreOf 165 = .ok (.iadd, 1) := okd_at mX12_scoreOf_1 36 rfl
theorem dX12_scoreOf_166 : decode cX12_scoreOf 166 = .ok (.ireturn, 1) := okd_at mX12_scoreOf_1 37 rfl
theorem dX12_scoreOf_167 : decode cX12_scoreOf 167 = .ok (.iload_n 3, 1) := okd_at mX12_scoreOf_1 38 rfl
theorem dX12_scoreOf_168 : decode cX12_scoreOf 168 = .ok (.iload 6, 2) := okd_at mX12_scoreOf_1 39 rfl
theorem dX12_scoreOf_170 : decode cX12_scoreOf 170 = .ok (.iadd, 1) := okd_at mX12_scoreOf_1 40 rfl
theorem dX12_scoreOf_171 : decode cX12_scoreOf 171 = .ok (.ireturn, 1) := okd_at mX12_scoreOf_1 41 rfl
def lmX12_sheet_0 : List (Nat × Instr × Nat) := [(0, .iload_n 1, 1), (1, .iconst 0, 1), (2, .iconst 3, 1), (3, .invokestatic 93, 3), (6, .ifCond .eq 23, 3), (9, .iload_n 2, 1), (10, .iconst (-1), 1), (11, .iconst 2, 1), (12, .invokestatic 93, 3), (15, .ifCond .eq 14, 3), (18, .iload_n 2, 1), (19, .iconst (-1), 1), (20, .if_icmp .eq 12, 3), (23, .iload_n 3, 1), (24, .bipush 40, 2), (26, .if_icmp .le 6, 3), (29, .bipush (-2), 2), (31, .ireturn, 1), (32, .iload_n 2, 1), (33, .iconst (-1), 1), (34, .if_icmp .eq 10, 3), (37, .iload_n 3, 1), (38, .ifCond .ge 6, 3), (41, .bipush (-14), 2), (43, .ireturn, 1), (44, .aload_n 0, 1), (45, .getfield 37, 3), (48, .iload_n 1, 1), (49, .iload_n 2, 1), (50, .iastore, 1), (51, .aload_n 0, 1), (52, .getfield 40, 3), (55, .iload_n 1, 1), (56, .iload_n 2, 1), (57, .iconst (-1), 1), (58, .if_icmp .ne 7, 3), (61, .iconst 0, 1), (62, .goto 4, 3), (65, .iload_n 3, 1), (66, .iastore, 1), (67, .iconst 0, 1), (68, .istore 4, 2), (70, .iload 4, 2), (72, .bipush 40, 2), (74, .if_icmp .ge 22, 3), (77, .aload_n 0, 1), (78, .getfield 43, 3), (81, .bipush 40, 2), (83, .iload_n 1, 1), (84, .imul, 1), (85, .iload 4, 2), (87, .iadd, 1), (88, .iconst 0, 1), (89, .iastore, 1), (90, .iinc 4 1, 3), (93, .goto (-23), 3), (96, .iconst 1, 1), (97, .ireturn, 1)]
theorem mX12_sheet_0 : okd cX12_sheet lmX12_sheet_0 = true := by decide +kernel
theorem dX12_sheet_0 : decode cX12_sheet 0 = .ok (.iload_n 1, 1) := okd_at mX12_sheet_0 0 rfl
theorem dX12_sheet_1 : decode cX12_sheet 1 = .ok (.iconst 0, 1) := okd_at mX12_sheet_0 1 rfl
theorem dX12_sheet_2 : decode cX12_sheet 2 = .ok (.iconst 3, 1) := okd_at mX12_sheet_0 2 rfl
theorem dX12_sheet_3 : decode cX12_sheet 3 = .ok (.invokestatic 93, 3) := okd_at mX12_sheet_0 3 rfl
theorem dX12_sheet_6 : decode cX12_sheet 6 = .ok (.ifCond .eq 23, 3) := okd_at mX12_sheet_0 4 rfl
theorem dX12_sheet_9 : decode cX12_sheet 9 = .ok (.iload_n 2, 1) := okd_at mX12_sheet_0 5 rfl
theorem dX12_sheet_10 : decode cX12_sheet 10 = .ok (.iconst (-1), 1) := okd_at mX12_sheet_0 6 rfl
theorem dX12_sheet_11 : decode cX12_sheet 11 = .ok (.iconst 2, 1) := okd_at mX12_sheet_0 7 rfl
theorem dX12_sheet_12 : decode cX12_sheet 12 = .ok (.invokestatic 93, 3) := okd_at mX12_sheet_0 8 rfl
theorem dX12_sheet_15 : decode cX12_sheet 15 = .ok (.ifCond .eq 14, 3) := okd_at mX12_sheet_0 9 rfl
theorem dX12_sheet_18 : decode cX12_sheet 18 = .ok (.iload_n 2, 1) := okd_at mX12_sheet_0 10 rfl
theorem dX12_sheet_19 : decode cX12_sheet 19 = .ok (.iconst (-1), 1) := okd_at mX12_sheet_0 11 rfl
theorem dX12_sheet_20 : decode cX12_sheet 20 = .ok (.if_icmp .eq 12, 3) := okd_at mX12_sheet_0 12 rfl
theorem dX12_sheet_23 : decode cX12_sheet 23 = .ok (.iload_n 3, 1) := okd_at mX12_sheet_0 13 rfl
theorem dX12_sheet_24 : decode cX12_sheet 24 = .ok (.bipush 40, 2) := okd_at mX12_sheet_0 14 rfl
theorem dX12_sheet_26 : decode cX12_sheet 26 = .ok (.if_icmp .le 6, 3) := okd_at mX12_sheet_0 15 rfl
theorem dX12_sheet_29 : decode cX12_sheet 29 = .ok (.bipush (-2), 2) := okd_at mX12_sheet_0 16 rfl
theorem dX12_sheet_31 : decode cX12_sheet 31 = .ok (.ireturn, 1) := okd_at mX12_sheet_0 17 rfl
theorem dX12_sheet_32 : decode cX12_sheet 32 = .ok (.iload_n 2, 1) := okd_at mX12_sheet_0 18 rfl
theorem dX12_sheet_33 : decode cX12_sheet 33 = .ok (.iconst (-1), 1) := okd_at mX12_sheet_0 19 rfl
theorem dX12_sheet_34 : decode cX12_sheet 34 = .ok (.if_icmp .eq 10, 3) := okd_at mX12_sheet_0 20 rfl
theorem dX12_sheet_37 : decode cX12_sheet 37 = .ok (.iload_n 3, 1) := okd_at mX12_sheet_0 21 rfl
theorem dX12_sheet_38 : decode cX12_sheet 38 = .ok (.ifCond .ge 6, 3) := okd_at mX12_sheet_0 22 rfl
theorem dX12_sheet_41 : decode cX12_sheet 41 = .ok (.bipush (-14), 2) := okd_at mX12_sheet_0 23 rfl
theorem dX12_sheet_43 : decode cX12_sheet 43 = .ok (.ireturn, 1) := okd_at mX12_sheet_0 24 rfl
theorem dX12_sheet_44 : decode cX12_sheet 44 = .ok (.aload_n 0, 1) := okd_at mX12_sheet_0 25 rfl
theorem dX12_sheet_45 : decode cX12_sheet 45 = .ok (.getfield 37, 3) := okd_at mX12_sheet_0 26 rfl
theorem dX12_sheet_48 : decode cX12_sheet 48 = .ok (.iload_n 1, 1) := okd_at mX12_sheet_0 27 rfl
theorem dX12_sheet_49 : decode cX12_sheet 49 = .ok (.iload_n 2, 1) := okd_at mX12_sheet_0 28 rfl
theorem dX12_sheet_50 : decode cX12_sheet 50 = .ok (.iastore, 1) := okd_at mX12_sheet_0 29 rfl
theorem dX12_sheet_51 : decode cX12_sheet 51 = .ok (.aload_n 0, 1) := okd_at mX12_sheet_0 30 rfl
theorem dX12_sheet_52 : decode cX12_sheet 52 = .ok (.getfield 40, 3) := okd_at mX12_sheet_0 31 rfl
theorem dX12_sheet_55 : decode cX12_sheet 55 = .ok (.iload_n 1, 1) := okd_at mX12_sheet_0 32 rfl
theorem dX12_sheet_56 : decode cX12_sheet 56 = .ok (.iload_n 2, 1) := okd_at mX12_sheet_0 33 rfl
theorem dX12_sheet_57 : decode cX12_sheet 57 = .ok (.iconst (-1), 1) := okd_at mX12_sheet_0 34 rfl
theorem dX12_sheet_58 : decode cX12_sheet 58 = .ok (.if_icmp .ne 7, 3) := okd_at mX12_sheet_0 35 rfl
theorem dX12_sheet_61 : decode cX12_sheet 61 = .ok (.iconst 0, 1) := okd_at mX12_sheet_0 36 rfl
theorem dX12_sheet_62 : decode cX12_sheet 62 = .ok (.goto 4, 3) := okd_at mX12_sheet_0 37 rfl
theorem dX12_sheet_65 : decode cX12_sheet 65 = .ok (.iload_n 3, 1) := okd_at mX12_sheet_0 38 rfl
theorem dX12_sheet_66 : decode cX12_sheet 66 = .ok (.iastore, 1) := okd_at mX12_sheet_0 39 rfl
theorem dX12_sheet_67 : decode cX12_sheet 67 = .ok (.iconst 0, 1) := okd_at mX12_sheet_0 40 rfl
theorem dX12_sheet_68 : decode cX12_sheet 68 = .ok (.istore 4, 2) := okd_at mX12_sheet_0 41 rfl
theorem dX12_sheet_70 : decode cX12_sheet 70 = .ok (.iload 4, 2) := okd_at mX12_sheet_0 42 rfl
theorem dX12_sheet_72 : decode cX12_sheet 72 = .ok (.bipush 40, 2) := okd_at mX12_sheet_0 43 rfl
theorem dX12_sheet_74 : decode cX12_sheet 74 = .ok (.if_icmp .ge 22, 3) := okd_at mX12_sheet_0 44 rfl
theorem dX12_sheet_77 : decode cX12_sheet 77 = .ok (.aload_n 0, 1) := okd_at mX12_sheet_0 45 rfl
theorem dX12_sheet_78 : decode cX12_sheet 78 = .ok (.getfield 43, 3) := okd_at mX12_sheet_0 46 rfl
theorem dX12_sheet_81 : decode cX12_sheet 81 = .ok (.bipush 40, 2) := okd_at mX12_sheet_0 47 rfl
theorem dX12_sheet_83 : decode cX12_sheet 83 = .ok (.iload_n 1, 1) := okd_at mX12_sheet_0 48 rfl
theorem dX12_sheet_84 : decode cX12_sheet 84 = .ok (.imul, 1) := okd_at mX12_sheet_0 49 rfl
theorem dX12_sheet_85 : decode cX12_sheet 85 = .ok (.iload 4, 2) := okd_at mX12_sheet_0 50 rfl
theorem dX12_sheet_87 : decode cX12_sheet 87 = .ok (.iadd, 1) := okd_at mX12_sheet_0 51 rfl
theorem dX12_sheet_88 : decode cX12_sheet 88 = .ok (.iconst 0, 1) := okd_at mX12_sheet_0 52 rfl
theorem dX12_sheet_89 : decode cX12_sheet 89 = .ok (.iastore, 1) := okd_at mX12_sheet_0 53 rfl
theorem dX12_sheet_90 : decode cX12_sheet 90 = .ok (.iinc 4 1, 3) := okd_at mX12_sheet_0 54 rfl
theorem dX12_sheet_93 : decode cX12_sheet 93 = .ok (.goto (-23), 3) := okd_at mX12_sheet_0 55 rfl
theorem dX12_sheet_96 : decode cX12_sheet 96 = .ok (.iconst 1, 1) := okd_at mX12_sheet_0 56 rfl
theorem dX12_sheet_97 : decode cX12_sheet 97 = .ok (.ireturn, 1) := okd_at mX12_sheet_0 57 rfl
def lmX12_sheetWrong_0 : List (Nat × Instr × Nat) := [(0, .iload_n 1, 1), (1, .iconst 0, 1), (2, .iconst 3, 1), (3, .invokestatic 93, 3), (6, .ifCond .ne 6, 3), (9, .bipush (-2), 2), (11, .ireturn, 1), (12, .aload_n 0, 1), (13, .getfield 37, 3), (16, .iload_n 1, 1), (17, .iaload, 1), (18, .iconst (-1), 1), (19, .if_icmp .ne 6, 3), (22, .bipush (-11), 2), (24, .ireturn, 1), (25, .aload_n 0, 1), (26, .getfield 40, 3), (29, .iload_n 1, 1), (30, .iaload, 1), (31, .aload_n 0, 1), (32, .getfield 97, 3), (35, .if_icmp .ne 7, 3), (38, .iconst 0, 1), (39, .goto 5, 3), (42, .bipush (-2), 2), (44, .ireturn, 1)]
theorem mX12_sheetWrong_0 : okd cX12_sheetWrong lmX12_sheetWrong_0 = true := by decide +kernel
theorem dX12_sheetWrong_0 : decode cX12_sheetWrong 0 = .ok (.iload_n 1, 1) := okd_at mX12_sheetWrong_0 0 rfl
theorem dX12_sheetWrong_1 : decode cX12_sheetWrong 1 = .ok (.iconst 0, 1) := okd_at mX12_sheetWrong_0 1 rfl
theorem dX12_sheetWrong_2 : decode cX12_sheetWrong 2 = .ok (.iconst 3, 1) := okd_at mX12_sheetWrong_0 2 rfl
theorem dX12_sheetWrong_3 : decode cX12_sheetWrong 3 = .ok (.invokestatic 93, 3) := okd_at mX12_sheetWrong_0 3 rfl
theorem dX12_sheetWrong_6 : decode cX12_sheetWrong 6 = .ok (.ifCond .ne 6, 3) := okd_at mX12_sheetWrong_0 4 rfl
theorem dX12_sheetWrong_9 : decode cX12_sheetWrong 9 = .ok (.bipush (-2), 2) := okd_at mX12_sheetWrong_0 5 rfl
theorem dX12_sheetWrong_11 : decode cX12_sheetWrong 11 = .ok (.ireturn, 1) := okd_at mX12_sheetWrong_0 6 rfl
theorem dX12_sheetWrong_12 : decode cX12_sheetWrong 12 = .ok (.aload_n 0, 1) := okd_at mX12_sheetWrong_0 7 rfl
theorem dX12_sheetWrong_13 : decode cX12_sheetWrong 13 = .ok (.getfield 37, 3) := okd_at mX12_sheetWrong_0 8 rfl
theorem dX12_sheetWrong_16 : decode cX12_sheetWrong 16 = .ok (.iload_n 1, 1) := okd_at mX12_sheetWrong_0 9 rfl
theorem dX12_sheetWrong_17 : decode cX12_sheetWrong 17 = .ok (.iaload, 1) := okd_at mX12_sheetWrong_0 10 rfl
theorem dX12_sheetWrong_18 : decode cX12_sheetWrong 18 = .ok (.iconst (-1), 1) := okd_at mX12_sheetWrong_0 11 rfl
theorem dX12_sheetWrong_19 : decode cX12_sheetWrong 19 = .ok (.if_icmp .ne 6, 3) := okd_at mX12_sheetWrong_0 12 rfl
theorem dX12_sheetWrong_22 : decode cX12_sheetWrong 22 = .ok (.bipush (-11), 2) := okd_at mX12_sheetWrong_0 13 rfl
theorem dX12_sheetWrong_24 : decode cX12_sheetWrong 24 = .ok (.ireturn, 1) := okd_at mX12_sheetWrong_0 14 rfl
theorem dX12_sheetWrong_25 : decode cX12_sheetWrong 25 = .ok (.aload_n 0, 1) := okd_at mX12_sheetWrong_0 15 rfl
theorem dX12_sheetWrong_26 : decode cX12_sheetWrong 26 = .ok (.getfield 40, 3) := okd_at mX12_sheetWrong_0 16 rfl
theorem dX12_sheetWrong_29 : decode cX12_sheetWrong 29 = .ok (.iload_n 1, 1) := okd_at mX12_sheetWrong_0 17 rfl
theorem dX12_sheetWrong_30 : decode cX12_sheetWrong 30 = .ok (.iaload, 1) := okd_at mX12_sheetWrong_0 18 rfl
theorem dX12_sheetWrong_31 : decode cX12_sheetWrong 31 = .ok (.aload_n 0, 1) := okd_at mX12_sheetWrong_0 19 rfl
theorem dX12_sheetWrong_32 : decode cX12_sheetWrong 32 = .ok (.getfield 97, 3) := okd_at mX12_sheetWrong_0 20 rfl
theorem dX12_sheetWrong_35 : decode cX12_sheetWrong 35 = .ok (.if_icmp .ne 7, 3) := okd_at mX12_sheetWrong_0 21 rfl
theorem dX12_sheetWrong_38 : decode cX12_sheetWrong 38 = .ok (.iconst 0, 1) := okd_at mX12_sheetWrong_0 22 rfl
theorem dX12_sheetWrong_39 : decode cX12_sheetWrong 39 = .ok (.goto 5, 3) := okd_at mX12_sheetWrong_0 23 rfl
theorem dX12_sheetWrong_42 : decode cX12_sheetWrong 42 = .ok (.bipush (-2), 2) := okd_at mX12_sheetWrong_0 24 rfl
theorem dX12_sheetWrong_44 : decode cX12_sheetWrong 44 = .ok (.ireturn, 1) := okd_at mX12_sheetWrong_0 25 rfl
def lmX12_signOf_0 : List (Nat × Instr × Nat) := [(0, .aload_n 0, 1), (1, .getfield 119, 3), (4, .iconst 4, 1), (5, .if_icmp .ne 8, 3), (8, .bipush 11, 2), (10, .goto 87, 3), (13, .aload_n 0, 1), (14, .getfield 119, 3), (17, .iconst 5, 1), (18, .if_icmp .ne 8, 3), (21, .bipush 12, 2), (23, .goto 74, 3), (26, .aload_n 0, 1), (27, .getfield 119, 3), (30, .bipush 60, 2), (32, .if_icmp .ne 8, 3), (35, .bipush 14, 2), (37, .goto 60, 3), (40, .aload_n 0, 1), (41, .getfield 119, 3), (44, .bipush 61, 2), (46, .if_icmp .ne 8, 3), (49, .bipush 15, 2), (51, .goto 46, 3), (54, .aload_n 0, 1), (55, .getfield 119, 3), (58, .bipush 43, 2), (60, .if_icmp .ne 8, 3), (63, .bipush 16, 2), (65, .goto 32, 3), (68, .aload_n 0, 1), (69, .getfield 119, 3), (72, .bipush 45, 2), (74, .if_icmp .ne 8, 3), (77, .bipush 17, 2), (79, .goto 18, 3), (82, .aload_n 0, 1), (83, .getfield 119, 3), (86, .bipush 42, 2), (88, .if_icmp .ne 8, 3), (91, .bipush 18, 2), (93, .goto 4, 3), (96, .iconst (-1), 1), (97, .ireturn, 1)]
theorem mX12_signOf_0 : okd cX12_signOf lmX12_signOf_0 = true := by decide +kernel
theorem dX12_signOf_0 : decode cX12_signOf 0 = .ok (.aload_n 0, 1) := okd_at mX12_signOf_0 0 rfl
theorem dX12_signOf_1 : decode cX12_signOf 1 = .ok (.getfield 119, 3) := okd_at mX12_signOf_0 1 rfl
theorem dX12_signOf_4 : decode cX12_signOf 4 = .ok (.iconst 4, 1) := okd_at mX12_signOf_0 2 rfl
theorem dX12_signOf_5 : decode cX12_signOf 5 = .ok (.if_icmp .ne 8, 3) := okd_at mX12_signOf_0 3 rfl
theorem dX12_signOf_8 : decode cX12_signOf 8 = .ok (.bipush 11, 2) := okd_at mX12_signOf_0 4 rfl
theorem dX12_signOf_10 : decode cX12_signOf 10 = .ok (.goto 87, 3) := okd_at mX12_signOf_0 5 rfl
theorem dX12_signOf_13 : decode cX12_signOf 13 = .ok (.aload_n 0, 1) := okd_at mX12_signOf_0 6 rfl
theorem dX12_signOf_14 : decode cX12_signOf 14 = .ok (.getfield 119, 3) := okd_at mX12_signOf_0 7 rfl
theorem dX12_signOf_17 : decode cX12_signOf 17 = .ok (.iconst 5, 1) := okd_at mX12_signOf_0 8 rfl
theorem dX12_signOf_18 : decode cX12_signOf 18 = .ok (.if_icmp .ne 8, 3) := okd_at mX12_signOf_0 9 rfl
theorem dX12_signOf_21 : decode cX12_signOf 21 = .ok (.bipush 12, 2) := okd_at mX12_signOf_0 10 rfl
theorem dX12_signOf_23 : decode cX12_signOf 23 = .ok (.goto 74, 3) := okd_at mX12_signOf_0 11 rfl
theorem dX12_signOf_26 : decode cX12_signOf 26 = .ok (.aload_n 0, 1) := okd_at mX12_signOf_0 12 rfl
theorem dX12_signOf_27 : decode cX12_signOf 27 = .ok (.getfield 119, 3) := okd_at mX12_signOf_0 13 rfl
theorem dX12_signOf_30 : decode cX12_signOf 30 = .ok (.bipush 60, 2) := okd_at mX12_signOf_0 14 rfl
theorem dX12_signOf_32 : decode cX12_signOf 32 = .ok (.if_icmp .ne 8, 3) := okd_at mX12_signOf_0 15 rfl
theorem dX12_signOf_35 : decode cX12_signOf 35 = .ok (.bipush 14, 2) := okd_at mX12_signOf_0 16 rfl
theorem dX12_signOf_37 : decode cX12_signOf 37 = .ok (.goto 60, 3) := okd_at mX12_signOf_0 17 rfl
theorem dX12_signOf_40 : decode cX12_signOf 40 = .ok (.aload_n 0, 1) := okd_at mX12_signOf_0 18 rfl
theorem dX12_signOf_41 : decode cX12_signOf 41 = .ok (.getfield 119, 3) := okd_at mX12_signOf_0 19 rfl
theorem dX12_signOf_44 : decode cX12_signOf 44 = .ok (.bipush 61, 2) := okd_at mX12_signOf_0 20 rfl
theorem dX12_signOf_46 : decode cX12_signOf 46 = .ok (.if_icmp .ne 8, 3) := okd_at mX12_signOf_0 21 rfl
theorem dX12_signOf_49 : decode cX12_signOf 49 = .ok (.bipush 15, 2) := okd_at mX12_signOf_0 22 rfl
theorem dX12_signOf_51 : decode cX12_signOf 51 = .ok (.goto 46, 3) := okd_at mX12_signOf_0 23 rfl
theorem dX12_signOf_54 : decode cX12_signOf 54 = .ok (.aload_n 0, 1) := okd_at mX12_signOf_0 24 rfl
theorem dX12_signOf_55 : decode cX12_signOf 55 = .ok (.getfield 119, 3) := okd_at mX12_signOf_0 25 rfl
theorem dX12_signOf_58 : decode cX12_signOf 58 = .ok (.bipush 43, 2) := okd_at mX12_signOf_0 26 rfl
theorem dX12_signOf_60 : decode cX12_signOf 60 = .ok (.if_icmp .ne 8, 3) := okd_at mX12_signOf_0 27 rfl
theorem dX12_signOf_63 : decode cX12_signOf 63 = .ok (.bipush 16, 2) := okd_at mX12_signOf_0 28 rfl
theorem dX12_signOf_65 : decode cX12_signOf 65 = .ok (.goto 32, 3) := okd_at mX12_signOf_0 29 rfl
theorem dX12_signOf_68 : decode cX12_signOf 68 = .ok (.aload_n 0, 1) := okd_at mX12_signOf_0 30 rfl
theorem dX12_signOf_69 : decode cX12_signOf 69 = .ok (.getfield 119, 3) := okd_at mX12_signOf_0 31 rfl
theorem dX12_signOf_72 : decode cX12_signOf 72 = .ok (.bipush 45, 2) := okd_at mX12_signOf_0 32 rfl
theorem dX12_signOf_74 : decode cX12_signOf 74 = .ok (.if_icmp .ne 8, 3) := okd_at mX12_signOf_0 33 rfl
theorem dX12_signOf_77 : decode cX12_signOf 77 = .ok (.bipush 17, 2) := okd_at mX12_signOf_0 34 rfl
theorem dX12_signOf_79 : decode cX12_signOf 79 = .ok (.goto 18, 3) := okd_at mX12_signOf_0 35 rfl
theorem dX12_signOf_82 : decode cX12_signOf 82 = .ok (.aload_n 0, 1) := okd_at mX12_signOf_0 36 rfl
theorem dX12_signOf_83 : decode cX12_signOf 83 = .ok (.getfield 119, 3) := okd_at mX12_signOf_0 37 rfl
theorem dX12_signOf_86 : decode cX12_signOf 86 = .ok (.bipush 42, 2) := okd_at mX12_signOf_0 38 rfl
theorem dX12_signOf_88 : decode cX12_signOf 88 = .ok (.if_icmp .ne 8, 3) := okd_at mX12_signOf_0 39 rfl
theorem dX12_signOf_91 : decode cX12_signOf 91 = .ok (.bipush 18, 2) := okd_at mX12_signOf_0 40 rfl
theorem dX12_signOf_93 : decode cX12_signOf 93 = .ok (.goto 4, 3) := okd_at mX12_signOf_0 41 rfl
theorem dX12_signOf_96 : decode cX12_signOf 96 = .ok (.iconst (-1), 1) := okd_at mX12_signOf_0 42 rfl
theorem dX12_signOf_97 : decode cX12_signOf 97 = .ok (.ireturn, 1) := okd_at mX12_signOf_0 43 rfl
def lmX12_spare_0 : List (Nat × Instr × Nat) := [(0, .iload_n 1, 1), (1, .iconst 0, 1), (2, .iconst 2, 1), (3, .invokestatic 93, 3), (6, .ifCond .ne 7, 3), (9, .sipush (-1000), 3), (12, .ireturn, 1), (13, .aload_n 0, 1), (14, .iconst 0, 1), (15, .invokevirtual 240, 3), (18, .aload_n 0, 1), (19, .iload_n 1, 1), (20, .invokevirtual 244, 3), (23, .ireturn, 1)]
theorem mX12_spare_0 : okd cX12_spare lmX12_spare_0 = true := by decide +kernel
theorem dX12_spare_0 : decode cX12_spare 0 = .ok (.iload_n 1, 1) := okd_at mX12_spare_0 0 rfl
theorem dX12_spare_1 : decode cX12_spare 1 = .ok (.iconst 0, 1) := okd_at mX12_spare_0 1 rfl
theorem dX12_spare_2 : decode cX12_spare 2 = .ok (.iconst 2, 1) := okd_at mX12_spare_0 2 rfl
theorem dX12_spare_3 : decode cX12_spare 3 = .ok (.invokestatic 93, 3) := okd_at mX12_spare_0 3 rfl
theorem dX12_spare_6 : decode cX12_spare 6 = .ok (.ifCond .ne 7, 3) := okd_at mX12_spare_0 4 rfl
theorem dX12_spare_9 : decode cX12_spare 9 = .ok (.sipush (-1000), 3) := okd_at mX12_spare_0 5 rfl
theorem dX12_spare_12 : decode cX12_spare 12 = .ok (.ireturn, 1) := okd_at mX12_spare_0 6 rfl
theorem dX12_spare_13 : decode cX12_spare 13 = .ok (.aload_n 0, 1) := okd_at mX12_spare_0 7 rfl
theorem dX12_spare_14 : decode cX12_spare 14 = .ok (.iconst 0, 1) := okd_at mX12_spare_0 8 rfl
theorem dX12_spare_15 : decode cX12_spare 15 = .ok (.invokevirtual 240, 3) := okd_at mX12_spare_0 9 rfl
theorem dX12_spare_18 : decode cX12_spare 18 = .ok (.aload_n 0, 1) := okd_at mX12_spare_0 10 rfl
theorem dX12_spare_19 : decode cX12_spare 19 = .ok (.iload_n 1, 1) := okd_at mX12_spare_0 11 rfl
theorem dX12_spare_20 : decode cX12_spare 20 = .ok (.invokevirtual 244, 3) := okd_at mX12_spare_0 12 rfl
theorem dX12_spare_23 : decode cX12_spare 23 = .ok (.ireturn, 1) := okd_at mX12_spare_0 13 rfl
def lmX12_taken_0 : List (Nat × Instr × Nat) := [(0, .iload_n 2, 1), (1, .iconst 0, 1), (2, .bipush 6, 2), (4, .invokestatic 93, 3), (7, .ifCond .ne 6, 3), (10, .bipush (-2), 2), (12, .ireturn, 1), (13, .iload_n 1, 1), (14, .iconst 0, 1), (15, .bipush 13, 2), (17, .invokestatic 93, 3), (20, .ifCond .ne 6, 3), (23, .bipush (-12), 2), (25, .ireturn, 1), (26, .iload_n 1, 1), (27, .bipush 6, 2), (29, .if_icmp .lt 42, 3), (32, .iload_n 1, 1), (33, .bipush 6, 2), (35, .isub, 1), (36, .aload_n 0, 1), (37, .getfield 90, 3), (40, .if_icmp .lt 8, 3), (43, .bipush (-11), 2), (45, .goto 25, 3), (48, .iload_n 2, 1), (49, .bipush 6, 2), (51, .if_icmp .ne 17, 3), (54, .aload_n 0, 1), (55, .getfield 7, 3), (58, .iconst 3, 1), (59, .iload_n 1, 1), (60, .bipush 6, 2), (62, .isub, 1), (63, .imul, 1), (64, .iaload, 1), (65, .goto 5, 3), (68, .bipush (-13), 2), (70, .ireturn, 1), (71, .iload_n 1, 1), (72, .aload_n 0, 1), (73, .getfield 97, 3), (76, .if_icmp .lt 8, 3), (79, .bipush (-11), 2), (81, .goto 28, 3), (84, .iload_n 2, 1), (85, .bipush 6, 2), (87, .if_icmp .ge 20, 3), (90, .aload_n 0, 1), (91, .getfield 13, 3), (94, .iload_n 1, 1), (95, .iaload, 1), (96, .iload_n 2, 1), (97, .invokestatic 282, 3), (100, .ifCond .eq 7, 3), (103, .iload_n 1, 1), (104, .goto 5, 3), (107, .bipush (-13), 2), (109, .ireturn, 1)]
theorem mX12_taken_0 : okd cX12_taken lmX12_taken_0 = true := by decide +kernel
theorem dX12_taken_0 : decode cX12_taken 0 = .ok (.iload_n 2, 1) := okd_at mX12_taken_0 0 rfl
theorem dX12_taken_1 : decode cX12_taken 1 = .ok (.iconst 0, 1) := okd_at mX12_taken_0 1 rfl
theorem dX12_taken_2 : decode cX12_taken 2 = .ok (.bipush 6, 2) := okd_at mX12_taken_0 2 rfl
theorem dX12_taken_4 : decode cX12_taken 4 = .ok (.invokestatic 93, 3) := okd_at mX12_taken_0 3 rfl
theorem dX12_taken_7 : decode cX12_taken 7 = .ok (.ifCond .ne 6, 3) := okd_at mX12_taken_0 4 rfl
theorem dX12_taken_10 : decode cX12_taken 10 = .ok (.bipush (-2), 2) := okd_at mX12_taken_0 5 rfl
theorem dX12_taken_12 : decode cX12_taken 12 = .ok (.ireturn, 1) := okd_at mX12_taken_0 6 rfl
theorem dX12_taken_13 : decode cX12_taken 13 = .ok (.iload_n 1, 1) := okd_at mX12_taken_0 7 rfl
theorem dX12_taken_14 : decode cX12_taken 14 = .ok (.iconst 0, 1) := okd_at mX12_taken_0 8 rfl
theorem dX12_taken_15 : decode cX12_taken 15 = .ok (.bipush 13, 2) := okd_at mX12_taken_0 9 rfl
theorem dX12_taken_17 : decode cX12_taken 17 = .ok (.invokestatic 93, 3) := okd_at mX12_taken_0 10 rfl
theorem dX12_taken_20 : decode cX12_taken 20 = .ok (.ifCond .ne 6, 3) := okd_at mX12_taken_0 11 rfl
theorem dX12_taken_23 : decode cX12_taken 23 = .ok (.bipush (-12), 2) := okd_at mX12_taken_0 12 rfl
theorem dX12_taken_25 : decode cX12_taken 25 = .ok (.ireturn, 1) := okd_at mX12_taken_0 13 rfl
theorem dX12_taken_26 : decode cX12_taken 26 = .ok (.iload_n 1, 1) := okd_at mX12_taken_0 14 rfl
theorem dX12_taken_27 : decode cX12_taken 27 = .ok (.bipush 6, 2) := okd_at mX12_taken_0 15 rfl
theorem dX12_taken_29 : decode cX12_taken 29 = .ok (.if_icmp .lt 42, 3) := okd_at mX12_taken_0 16 rfl
theorem dX12_taken_32 : decode cX12_taken 32 = .ok (.iload_n 1, 1) := okd_at mX12_taken_0 17 rfl
theorem dX12_taken_33 : decode cX12_taken 33 = .ok (.bipush 6, 2) := okd_at mX12_taken_0 18 rfl
theorem dX12_taken_35 : decode cX12_taken 35 = .ok (.isub, 1) := okd_at mX12_taken_0 19 rfl
theorem dX12_taken_36 : decode cX12_taken 36 = .ok (.aload_n 0, 1) := okd_at mX12_taken_0 20 rfl
theorem dX12_taken_37 : decode cX12_taken 37 = .ok (.getfield 90, 3) := okd_at mX12_taken_0 21 rfl
theorem dX12_taken_40 : decode cX12_taken 40 = .ok (.if_icmp .lt 8, 3) := okd_at mX12_taken_0 22 rfl
theorem dX12_taken_43 : decode cX12_taken 43 = .ok (.bipush (-11), 2) := okd_at mX12_taken_0 23 rfl
theorem dX12_taken_45 : decode cX12_taken 45 = .ok (.goto 25, 3) := okd_at mX12_taken_0 24 rfl
theorem dX12_taken_48 : decode cX12_taken 48 = .ok (.iload_n 2, 1) := okd_at mX12_taken_0 25 rfl
theorem dX12_taken_49 : decode cX12_taken 49 = .ok (.bipush 6, 2) := okd_at mX12_taken_0 26 rfl
theorem dX12_taken_51 : decode cX12_taken 51 = .ok (.if_icmp .ne 17, 3) := okd_at mX12_taken_0 27 rfl
theorem dX12_taken_54 : decode cX12_taken 54 = .ok (.aload_n 0, 1) := okd_at mX12_taken_0 28 rfl
theorem dX12_taken_55 : decode cX12_taken 55 = .ok (.getfield 7, 3) := okd_at mX12_taken_0 29 rfl
theorem dX12_taken_58 : decode cX12_taken 58 = .ok (.iconst 3, 1) := okd_at mX12_taken_0 30 rfl
theorem dX12_taken_59 : decode cX12_taken 59 = .ok (.iload_n 1, 1) := okd_at mX12_taken_0 31 rfl
theorem dX12_taken_60 : decode cX12_taken 60 = .ok (.bipush 6, 2) := okd_at mX12_taken_0 32 rfl
theorem dX12_taken_62 : decode cX12_taken 62 = .ok (.isub, 1) := okd_at mX12_taken_0 33 rfl
theorem dX12_taken_63 : decode cX12_taken 63 = .ok (.imul, 1) := okd_at mX12_taken_0 34 rfl
theorem dX12_taken_64 : decode cX12_taken 64 = .ok (.iaload, 1) := okd_at mX12_taken_0 35 rfl
theorem dX12_taken_65 : decode cX12_taken 65 = .ok (.goto 5, 3) := okd_at mX12_taken_0 36 rfl
theorem dX12_taken_68 : decode cX12_taken 68 = .ok (.bipush (-13), 2) := okd_at mX12_taken_0 37 rfl
theorem dX12_taken_70 : decode cX12_taken 70 = .ok (.ireturn, 1) := okd_at mX12_taken_0 38 rfl
theorem dX12_taken_71 : decode cX12_taken 71 = .ok (.iload_n 1, 1) := okd_at mX12_taken_0 39 rfl
theorem dX12_taken_72 : decode cX12_taken 72 = .ok (.aload_n 0, 1) := okd_at mX12_taken_0 40 rfl
theorem dX12_taken_73 : decode cX12_taken 73 = .ok (.getfield 97, 3) := okd_at mX12_taken_0 41 rfl
theorem dX12_taken_76 : decode cX12_taken 76 = .ok (.if_icmp .lt 8, 3) := okd_at mX12_taken_0 42 rfl
theorem dX12_taken_79 : decode cX12_taken 79 = .ok (.bipush (-11), 2) := okd_at mX12_taken_0 43 rfl
theorem dX12_taken_81 : decode cX12_taken 81 = .ok (.goto 28, 3) := okd_at mX12_taken_0 44 rfl
theorem dX12_taken_84 : decode cX12_taken 84 = .ok (.iload_n 2, 1) := okd_at mX12_taken_0 45 rfl
theorem dX12_taken_85 : decode cX12_taken 85 = .ok (.bipush 6, 2) := okd_at mX12_taken_0 46 rfl
theorem dX12_taken_87 : decode cX12_taken 87 = .ok (.if_icmp .ge 20, 3) := okd_at mX12_taken_0 47 rfl
theorem dX12_taken_90 : decode cX12_taken 90 = .ok (.aload_n 0, 1) := okd_at mX12_taken_0 48 rfl
theorem dX12_taken_91 : decode cX12_taken 91 = .ok (.getfield 13, 3) := okd_at mX12_taken_0 49 rfl
theorem dX12_taken_94 : decode cX12_taken 94 = .ok (.iload_n 1, 1) := okd_at mX12_taken_0 50 rfl
theorem dX12_taken_95 : decode cX12_taken 95 = .ok (.iaload, 1) := okd_at mX12_taken_0 51 rfl
theorem dX12_taken_96 : decode cX12_taken 96 = .ok (.iload_n 2, 1) := okd_at mX12_taken_0 52 rfl
theorem dX12_taken_97 : decode cX12_taken 97 = .ok (.invokestatic 282, 3) := okd_at mX12_taken_0 53 rfl
theorem dX12_taken_100 : decode cX12_taken 100 = .ok (.ifCond .eq 7, 3) := okd_at mX12_taken_0 54 rfl
theorem dX12_taken_103 : decode cX12_taken 103 = .ok (.iload_n 1, 1) := okd_at mX12_taken_0 55 rfl
theorem dX12_taken_104 : decode cX12_taken 104 = .ok (.goto 5, 3) := okd_at mX12_taken_0 56 rfl
theorem dX12_taken_107 : decode cX12_taken 107 = .ok (.bipush (-13), 2) := okd_at mX12_taken_0 57 rfl
theorem dX12_taken_109 : decode cX12_taken 109 = .ok (.ireturn, 1) := okd_at mX12_taken_0 58 rfl
def lmX12_tells_0 : List (Nat × Instr × Nat) := [(0, .iload_n 1, 1), (1, .istore_n 2, 1), (2, .iconst 0, 1), (3, .istore_n 3, 1), (4, .iconst 1, 1), (5, .istore 4, 2), (7, .aload_n 0, 1), (8, .iconst 0, 1), (9, .putfield 247, 3), (12, .aload_n 0, 1), (13, .getfield 97, 3), (16, .iconst 1, 1), (17, .isub, 1), (18, .istore 5, 2), (20, .iload 5, 2), (22, .ifCond .lt 69, 3), (25, .aload_n 0, 1), (26, .getfield 73, 3), (29, .iload 5, 2), (31, .iload_n 2, 1), (32, .aload_n 0, 1), (33, .getfield 97, 3), (36, .irem, 1), (37, .iastore, 1), (38, .iload_n 2, 1), (39, .aload_n 0, 1), (40, .getfield 97, 3), (43, .idiv, 1), (44, .istore_n 2, 1), (45, .iload_n 3, 1), (46, .iconst 1, 1), (47, .aload_n 0, 1), (48, .getfield 73, 3), (51, .iload 5, 2), (53, .iaload, 1), (54, .ishl, 1), (55, .ior, 1), (56, .istore_n 3, 1), (57, .aload_n 0, 1), (58, .dup, 1), (59, .getfield 247, 3), (62, .iload 4, 2), (64, .aload_n 0, 1), (65, .getfield 73, 3), (68, .iload 5, 2), (70, .iaload, 1), (71, .iconst 1, 1), (72, .iadd, 1), (73, .imul, 1), (74, .iadd, 1), (75, .putfield 247, 3), (78, .iload 4, 2), (80, .bipush 10, 2), (82, .imul, 1), (83, .istore 4, 2), (85, .iinc 5 (-1), 3), (88, .goto (-68), 3), (91, .iload_n 3, 1), (92, .iconst 1, 1), (93, .aload_n 0, 1)]
theorem mX12_tells_0 : okd cX12_tells lmX12_tells_0 = true := by decide +kernel
theorem dX12_tells_0 : decode cX12_tells 0 = .ok (.iload_n 1, 1) := okd_at mX12_tells_0 0 rfl
theorem dX12_tells_1 : decode cX12_tells 1 = .ok (.istore_n 2, 1) := okd_at mX12_tells_0 1 rfl
theorem dX12_tells_2 : decode cX12_tells 2 = .ok (.iconst 0, 1) := okd_at mX12_tells_0 2 rfl
theorem dX12_tells_3 : decode cX12_tells 3 = .ok (.istore_n 3, 1) := okd_at mX12_tells_0 3 rfl
theorem dX12_tells_4 : decode cX12_tells 4 = .ok (.iconst 1, 1) := okd_at mX12_tells_0 4 rfl
theorem dX12_tells_5 : decode cX12_tells 5 = .ok (.istore 4, 2) := okd_at mX12_tells_0 5 rfl
theorem dX12_tells_7 : decode cX12_tells 7 = .ok (.aload_n 0, 1) := okd_at mX12_tells_0 6 rfl
theorem dX12_tells_8 : decode cX12_tells 8 = .ok (.iconst 0, 1) := okd_at mX12_tells_0 7 rfl
theorem dX12_tells_9 : decode cX12_tells 9 = .ok (.putfield 247, 3) := okd_at mX12_tells_0 8 rfl
theorem dX12_tells_12 : decode cX12_tells 12 = .ok (.aload_n 0, 1) := okd_at mX12_tells_0 9 rfl
theorem dX12_tells_13 : decode cX12_tells 13 = .ok (.getfield 97, 3) := okd_at mX12_tells_0 10 rfl
theorem dX12_tells_16 : decode cX12_tells 16 = .ok (.iconst 1, 1) := okd_at mX12_tells_0 11 rfl
theorem dX12_tells_17 : decode cX12_tells 17 = .ok (.isub, 1) := okd_at mX12_tells_0 12 rfl
theorem dX12_tells_18 : decode cX12_tells 18 = .ok (.istore 5, 2) := okd_at mX12_tells_0 13 rfl
theorem dX12_tells_20 : decode cX12_tells 20 = .ok (.iload 5, 2) := okd_at mX12_tells_0 14 rfl
theorem dX12_tells_22 : decode cX12_tells 22 = .ok (.ifCond .lt 69, 3) := okd_at mX12_tells_0 15 rfl
theorem dX12_tells_25 : decode cX12_tells 25 = .ok (.aload_n 0, 1) := okd_at mX12_tells_0 16 rfl
theorem dX12_tells_26 : decode cX12_tells 26 = .ok (.getfield 73, 3) := okd_at mX12_tells_0 17 rfl
theorem dX12_tells_29 : decode cX12_tells 29 = .ok (.iload 5, 2) := okd_at mX12_tells_0 18 rfl
theorem dX12_tells_31 : decode cX12_tells 31 = .ok (.iload_n 2, 1) := okd_at mX12_tells_0 19 rfl
theorem dX12_tells_32 : decode cX12_tells 32 = .ok (.aload_n 0, 1) := okd_at mX12_tells_0 20 rfl
theorem dX12_tells_33 : decode cX12_tells 33 = .ok (.getfield 97, 3) := okd_at mX12_tells_0 21 rfl
theorem dX12_tells_36 : decode cX12_tells 36 = .ok (.irem, 1) := okd_at mX12_tells_0 22 rfl
theorem dX12_tells_37 : decode cX12_tells 37 = .ok (.iastore, 1) := okd_at mX12_tells_0 23 rfl
theorem dX12_tells_38 : decode cX12_tells 38 = .ok (.iload_n 2, 1) := okd_at mX12_tells_0 24 rfl
theorem dX12_tells_39 : decode cX12_tells 39 = .ok (.aload_n 0, 1) := okd_at mX12_tells_0 25 rfl
theorem dX12_tells_40 : decode cX12_tells 40 = .ok (.getfield 97, 3) := okd_at mX12_tells_0 26 rfl
theorem dX12_tells_43 : decode cX12_tells 43 = .ok (.idiv, 1) := okd_at mX12_tells_0 27 rfl
theorem dX12_tells_44 : decode cX12_tells 44 = .ok (.istore_n 2, 1) := okd_at mX12_tells_0 28 rfl
theorem dX12_tells_45 : decode cX12_tells 45 = .ok (.iload_n 3, 1) := okd_at mX12_tells_0 29 rfl
theorem dX12_tells_46 : decode cX12_tells 46 = .ok (.iconst 1, 1) := okd_at mX12_tells_0 30 rfl
theorem dX12_tells_47 : decode cX12_tells 47 = .ok (.aload_n 0, 1) := okd_at mX12_tells_0 31 rfl
theorem dX12_tells_48 : decode cX12_tells 48 = .ok (.getfield 73, 3) := okd_at mX12_tells_0 32 rfl
theorem dX12_tells_51 : decode cX12_tells 51 = .ok (.iload 5, 2) := okd_at mX12_tells_0 33 rfl
theorem dX12_tells_53 : decode cX12_tells 53 = .ok (.iaload, 1) := okd_at mX12_tells_0 34 rfl
theorem dX12_tells_54 : decode cX12_tells 54 = .ok (.ishl, 1) := okd_at mX12_tells_0 35 rfl
theorem dX12_tells_55 : decode cX12_tells 55 = .ok (.ior, 1) := okd_at mX12_tells_0 36 rfl
theorem dX12_tells_56 : decode cX12_tells 56 = .ok (.istore_n 3, 1) := okd_at mX12_tells_0 37 rfl
theorem dX12_tells_57 : decode cX12_tells 57 = .ok (.aload_n 0, 1) := okd_at mX12_tells_0 38 rfl
theorem dX12_tells_58 : decode cX12_tells 58 = .ok (.dup, 1) := okd_at mX12_tells_0 39 rfl
theorem dX12_tells_59 : decode cX12_tells 59 = .ok (.getfield 247, 3) := okd_at mX12_tells_0 40 rfl
theorem dX12_tells_62 : decode cX12_tells 62 = .ok (.iload 4, 2) := okd_at mX12_tells_0 41 rfl
theorem dX12_tells_64 : decode cX12_tells 64 = .ok (.aload_n 0, 1) := okd_at mX12_tells_0 42 rfl
theorem dX12_tells_65 : decode cX12_tells 65 = .ok (.getfield 73, 3) := okd_at mX12_tells_0 43 rfl
theorem dX12_tells_68 : decode cX12_tells 68 = .ok (.iload 5, 2) := okd_at mX12_tells_0 44 rfl
theorem dX12_tells_70 : decode cX12_tells 70 = .ok (.iaload, 1) := okd_at mX12_tells_0 45 rfl
theorem dX12_tells_71 : decode cX12_tells 71 = .ok (.iconst 1, 1) := okd_at mX12_tells_0 46 rfl
theorem dX12_tells_72 : decode cX12_tells 72 = .ok (.iadd, 1) := okd_at mX12_tells_0 47 rfl
theorem dX12_tells_73 : decode cX12_tells 73 = .ok (.imul, 1) := okd_at mX12_tells_0 48 rfl
theorem dX12_tells_74 : decode cX12_tells 74 = .ok (.iadd, 1) := okd_at mX12_tells_0 49 rfl
theorem dX12_tells_75 : decode cX12_tells 75 = .ok (.putfield 247, 3) := okd_at mX12_tells_0 50 rfl
theorem dX12_tells_78 : decode cX12_tells 78 = .ok (.iload 4, 2) := okd_at mX12_tells_0 51 rfl
theorem dX12_tells_80 : decode cX12_tells 80 = .ok (.bipush 10, 2) := okd_at mX12_tells_0 52 rfl
theorem dX12_tells_82 : decode cX12_tells 82 = .ok (.imul, 1) := okd_at mX12_tells_0 53 rfl
theorem dX12_tells_83 : decode cX12_tells 83 = .ok (.istore 4, 2) := okd_at mX12_tells_0 54 rfl
theorem dX12_tells_85 : decode cX12_tells 85 = .ok (.iinc 5 (-1), 3) := okd_at mX12_tells_0 55 rfl
theorem dX12_tells_88 : decode cX12_tells 88 = .ok (.goto (-68), 3) := okd_at mX12_tells_0 56 rfl
theorem dX12_tells_91 : decode cX12_tells 91 = .ok (.iload_n 3, 1) := okd_at mX12_tells_0 57 rfl
theorem dX12_tells_92 : decode cX12_tells 92 = .ok (.iconst 1, 1) := okd_at mX12_tells_0 58 rfl
theorem dX12_tells_93 : decode cX12_tells 93 = .ok (.aload_n 0, 1) := okd_at mX12_tells_0 59 rfl
def lmX12_tells_1 : List (Nat × Instr × Nat) := [(94, .getfield 97, 3), (97, .ishl, 1), (98, .iconst 1, 1), (99, .isub, 1), (100, .if_icmp .ne 7, 3), (103, .iconst 1, 1), (104, .goto 4, 3), (107, .iconst 0, 1), (108, .ireturn, 1)]
theorem mX12_tells_1 : okd cX12_tells lmX12_tells_1 = true := by decide +kernel
theorem dX12_tells_94 : decode cX12_tells 94 = .ok (.getfield 97, 3) := okd_at mX12_tells_1 0 rfl
theorem dX12_tells_97 : decode cX12_tells 97 = .ok (.ishl, 1) := okd_at mX12_tells_1 1 rfl
theorem dX12_tells_98 : decode cX12_tells 98 = .ok (.iconst 1, 1) := okd_at mX12_tells_1 2 rfl
theorem dX12_tells_99 : decode cX12_tells 99 = .ok (.isub, 1) := okd_at mX12_tells_1 3 rfl
theorem dX12_tells_100 : decode cX12_tells 100 = .ok (.if_icmp .ne 7, 3) := okd_at mX12_tells_1 4 rfl
theorem dX12_tells_103 : decode cX12_tells 103 = .ok (.iconst 1, 1) := okd_at mX12_tells_1 5 rfl
theorem dX12_tells_104 : decode cX12_tells 104 = .ok (.goto 4, 3) := okd_at mX12_tells_1 6 rfl
theorem dX12_tells_107 : decode cX12_tells 107 = .ok (.iconst 0, 1) := okd_at mX12_tells_1 7 rfl
theorem dX12_tells_108 : decode cX12_tells 108 = .ok (.ireturn, 1) := okd_at mX12_tells_1 8 rfl
def lmX12_text_0 : List (Nat × Instr × Nat) := [(0, .aload_n 0, 1), (1, .getfield 100, 3), (4, .bipush 6, 2), (6, .if_icmp .ne 6, 3), (9, .bipush (-4), 2), (11, .ireturn, 1), (12, .aload_n 0, 1), (13, .iconst 0, 1), (14, .putfield 113, 3), (17, .aload_n 0, 1), (18, .iconst 0, 1), (19, .putfield 129, 3), (22, .iconst 1, 1), (23, .istore_n 1, 1), (24, .iconst 0, 1), (25, .istore_n 2, 1), (26, .iload_n 2, 1), (27, .iconst 3, 1), (28, .if_icmp .ge 73, 3), (31, .iload_n 1, 1), (32, .ifCond .eq 69, 3), (35, .aload_n 0, 1), (36, .invokevirtual 152, 3), (39, .aload_n 0, 1), (40, .getfield 119, 3), (43, .iconst 3, 1), (44, .if_icmp .ne 15, 3), (47, .aload_n 0, 1), (48, .getfield 122, 3), (51, .iload_n 2, 1), (52, .if_icmp .ne 7, 3), (55, .iconst 1, 1), (56, .goto 4, 3), (59, .iconst 0, 1), (60, .istore_n 1, 1), (61, .aload_n 0, 1), (62, .getfield 28, 3), (65, .iconst 4, 1), (66, .aload_n 0, 1), (67, .getfield 100, 3), (70, .imul, 1), (71, .iload_n 2, 1), (72, .iadd, 1), (73, .aload_n 0, 1), (74, .getfield 129, 3), (77, .iastore, 1), (78, .iload_n 1, 1), (79, .ifCond .eq 14, 3), (82, .aload_n 0, 1), (83, .invokevirtual 165, 3), (86, .ifCond .eq 7, 3), (89, .iconst 1, 1), (90, .goto 4, 3), (93, .iconst 0, 1), (94, .istore_n 1, 1), (95, .iinc 2 1, 3), (98, .goto (-72), 3), (101, .iload_n 1, 1), (102, .ifCond .eq 20, 3), (105, .aload_n 0, 1)]
theorem mX12_text_0 : okd cX12_text lmX12_text_0 = true := by decide +kernel
theorem dX12_text_0 : decode cX12_text 0 = .ok (.aload_n 0, 1) := okd_at mX12_text_0 0 rfl
theorem dX12_text_1 : decode cX12_text 1 = .ok (.getfield 100, 3) := okd_at mX12_text_0 1 rfl
theorem dX12_text_4 : decode cX12_text 4 = .ok (.bipush 6, 2) := okd_at mX12_text_0 2 rfl
theorem dX12_text_6 : decode cX12_text 6 = .ok (.if_icmp .ne 6, 3) := okd_at mX12_text_0 3 rfl
theorem dX12_text_9 : decode cX12_text 9 = .ok (.bipush (-4), 2) := okd_at mX12_text_0 4 rfl
theorem dX12_text_11 : decode cX12_text 11 = .ok (.ireturn, 1) := okd_at mX12_text_0 5 rfl
theorem dX12_text_12 : decode cX12_text 12 = .ok (.aload_n 0, 1) := okd_at mX12_text_0 6 rfl
theorem dX12_text_13 : decode cX12_text 13 = .ok (.iconst 0, 1) := okd_at mX12_text_0 7 rfl
theorem dX12_text_14 : decode cX12_text 14 = .ok (.putfield 113, 3) := okd_at mX12_text_0 8 rfl
theorem dX12_text_17 : decode cX12_text 17 = .ok (.aload_n 0, 1) := okd_at mX12_text_0 9 rfl
theorem dX12_text_18 : decode cX12_text 18 = .ok (.iconst 0, 1) := okd_at mX12_text_0 10 rfl
theorem dX12_text_19 : decode cX12_text 19 = .ok (.putfield 129, 3) := okd_at mX12_text_0 11 rfl
theorem dX12_text_22 : decode cX12_text 22 = .ok (.iconst 1, 1) := okd_at mX12_text_0 12 rfl
theorem dX12_text_23 : decode cX12_text 23 = .ok (.istore_n 1, 1) := okd_at mX12_text_0 13 rfl
theorem dX12_text_24 : decode cX12_text 24 = .ok (.iconst 0, 1) := okd_at mX12_text_0 14 rfl
theorem dX12_text_25 : decode cX12_text 25 = .ok (.istore_n 2, 1) := okd_at mX12_text_0 15 rfl
theorem dX12_text_26 : decode cX12_text 26 = .ok (.iload_n 2, 1) := okd_at mX12_text_0 16 rfl
theorem dX12_text_27 : decode cX12_text 27 = .ok (.iconst 3, 1) := okd_at mX12_text_0 17 rfl
theorem dX12_text_28 : decode cX12_text 28 = .ok (.if_icmp .ge 73, 3) := okd_at mX12_text_0 18 rfl
theorem dX12_text_31 : decode cX12_text 31 = .ok (.iload_n 1, 1) := okd_at mX12_text_0 19 rfl
theorem dX12_text_32 : decode cX12_text 32 = .ok (.ifCond .eq 69, 3) := okd_at mX12_text_0 20 rfl
theorem dX12_text_35 : decode cX12_text 35 = .ok (.aload_n 0, 1) := okd_at mX12_text_0 21 rfl
theorem dX12_text_36 : decode cX12_text 36 = .ok (.invokevirtual 152, 3) := okd_at mX12_text_0 22 rfl
theorem dX12_text_39 : decode cX12_text 39 = .ok (.aload_n 0, 1) := okd_at mX12_text_0 23 rfl
theorem dX12_text_40 : decode cX12_text 40 = .ok (.getfield 119, 3) := okd_at mX12_text_0 24 rfl
theorem dX12_text_43 : decode cX12_text 43 = .ok (.iconst 3, 1) := okd_at mX12_text_0 25 rfl
theorem dX12_text_44 : decode cX12_text 44 = .ok (.if_icmp .ne 15, 3) := okd_at mX12_text_0 26 rfl
theorem dX12_text_47 : decode cX12_text 47 = .ok (.aload_n 0, 1) := okd_at mX12_text_0 27 rfl
theorem dX12_text_48 : decode cX12_text 48 = .ok (.getfield 122, 3) := okd_at mX12_text_0 28 rfl
theorem dX12_text_51 : decode cX12_text 51 = .ok (.iload_n 2, 1) := okd_at mX12_text_0 29 rfl
theorem dX12_text_52 : decode cX12_text 52 = .ok (.if_icmp .ne 7, 3) := okd_at mX12_text_0 30 rfl
theorem dX12_text_55 : decode cX12_text 55 = .ok (.iconst 1, 1) := okd_at mX12_text_0 31 rfl
theorem dX12_text_56 : decode cX12_text 56 = .ok (.goto 4, 3) := okd_at mX12_text_0 32 rfl
theorem dX12_text_59 : decode cX12_text 59 = .ok (.iconst 0, 1) := okd_at mX12_text_0 33 rfl
theorem dX12_text_60 : decode cX12_text 60 = .ok (.istore_n 1, 1) := okd_at mX12_text_0 34 rfl
theorem dX12_text_61 : decode cX12_text 61 = .ok (.aload_n 0, 1) := okd_at mX12_text_0 35 rfl
theorem dX12_text_62 : decode cX12_text 62 = .ok (.getfield 28, 3) := okd_at mX12_text_0 36 rfl
theorem dX12_text_65 : decode cX12_text 65 = .ok (.iconst 4, 1) := okd_at mX12_text_0 37 rfl
theorem dX12_text_66 : decode cX12_text 66 = .ok (.aload_n 0, 1) := okd_at mX12_text_0 38 rfl
theorem dX12_text_67 : decode cX12_text 67 = .ok (.getfield 100, 3) := okd_at mX12_text_0 39 rfl
theorem dX12_text_70 : decode cX12_text 70 = .ok (.imul, 1) := okd_at mX12_text_0 40 rfl
theorem dX12_text_71 : decode cX12_text 71 = .ok (.iload_n 2, 1) := okd_at mX12_text_0 41 rfl
theorem dX12_text_72 : decode cX12_text 72 = .ok (.iadd, 1) := okd_at mX12_text_0 42 rfl
theorem dX12_text_73 : decode cX12_text 73 = .ok (.aload_n 0, 1) := okd_at mX12_text_0 43 rfl
theorem dX12_text_74 : decode cX12_text 74 = .ok (.getfield 129, 3) := okd_at mX12_text_0 44 rfl
theorem dX12_text_77 : decode cX12_text 77 = .ok (.iastore, 1) := okd_at mX12_text_0 45 rfl
theorem dX12_text_78 : decode cX12_text 78 = .ok (.iload_n 1, 1) := okd_at mX12_text_0 46 rfl
theorem dX12_text_79 : decode cX12_text 79 = .ok (.ifCond .eq 14, 3) := okd_at mX12_text_0 47 rfl
theorem dX12_text_82 : decode cX12_text 82 = .ok (.aload_n 0, 1) := okd_at mX12_text_0 48 rfl
theorem dX12_text_83 : decode cX12_text 83 = .ok (.invokevirtual 165, 3) := okd_at mX12_text_0 49 rfl
theorem dX12_text_86 : decode cX12_text 86 = .ok (.ifCond .eq 7, 3) := okd_at mX12_text_0 50 rfl
theorem dX12_text_89 : decode cX12_text 89 = .ok (.iconst 1, 1) := okd_at mX12_text_0 51 rfl
theorem dX12_text_90 : decode cX12_text 90 = .ok (.goto 4, 3) := okd_at mX12_text_0 52 rfl
theorem dX12_text_93 : decode cX12_text 93 = .ok (.iconst 0, 1) := okd_at mX12_text_0 53 rfl
theorem dX12_text_94 : decode cX12_text 94 = .ok (.istore_n 1, 1) := okd_at mX12_text_0 54 rfl
theorem dX12_text_95 : decode cX12_text 95 = .ok (.iinc 2 1, 3) := okd_at mX12_text_0 55 rfl
theorem dX12_text_98 : decode cX12_text 98 = .ok (.goto (-72), 3) := okd_at mX12_text_0 56 rfl
theorem dX12_text_101 : decode cX12_text 101 = .ok (.iload_n 1, 1) := okd_at mX12_text_0 57 rfl
theorem dX12_text_102 : decode cX12_text 102 = .ok (.ifCond .eq 20, 3) := okd_at mX12_text_0 58 rfl
theorem dX12_text_105 : decode cX12_text 105 = .ok (.aload_n 0, 1) := okd_at mX12_text_0 59 rfl
def lmX12_text_1 : List (Nat × Instr × Nat) := [(106, .invokevirtual 152, 3), (109, .aload_n 0, 1), (110, .getfield 119, 3), (113, .ifCond .ne 7, 3), (116, .iconst 1, 1), (117, .goto 4, 3), (120, .iconst 0, 1), (121, .istore_n 1, 1), (122, .aload_n 0, 1), (123, .getfield 28, 3), (126, .iconst 4, 1), (127, .aload_n 0, 1), (128, .getfield 100, 3), (131, .imul, 1), (132, .iconst 3, 1), (133, .iadd, 1), (134, .aload_n 0, 1), (135, .getfield 129, 3), (138, .iastore, 1), (139, .aload_n 0, 1), (140, .iconst 0, 1), (141, .putfield 83, 3), (144, .iload_n 1, 1), (145, .ifCond .ne 11, 3), (148, .bipush (-100), 2), (150, .aload_n 0, 1), (151, .getfield 116, 3), (154, .isub, 1), (155, .ireturn, 1), (156, .aload_n 0, 1), (157, .dup, 1), (158, .getfield 100, 3), (161, .iconst 1, 1), (162, .iadd, 1), (163, .putfield 100, 3), (166, .aload_n 0, 1), (167, .getfield 100, 3), (170, .iconst 1, 1), (171, .isub, 1), (172, .ireturn, 1)]
theorem mX12_text_1 : okd cX12_text lmX12_text_1 = true := by decide +kernel
theorem dX12_text_106 : decode cX12_text 106 = .ok (.invokevirtual 152, 3) := okd_at mX12_text_1 0 rfl
theorem dX12_text_109 : decode cX12_text 109 = .ok (.aload_n 0, 1) := okd_at mX12_text_1 1 rfl
theorem dX12_text_110 : decode cX12_text 110 = .ok (.getfield 119, 3) := okd_at mX12_text_1 2 rfl
theorem dX12_text_113 : decode cX12_text 113 = .ok (.ifCond .ne 7, 3) := okd_at mX12_text_1 3 rfl
theorem dX12_text_116 : decode cX12_text 116 = .ok (.iconst 1, 1) := okd_at mX12_text_1 4 rfl
theorem dX12_text_117 : decode cX12_text 117 = .ok (.goto 4, 3) := okd_at mX12_text_1 5 rfl
theorem dX12_text_120 : decode cX12_text 120 = .ok (.iconst 0, 1) := okd_at mX12_text_1 6 rfl
theorem dX12_text_121 : decode cX12_text 121 = .ok (.istore_n 1, 1) := okd_at mX12_text_1 7 rfl
theorem dX12_text_122 : decode cX12_text 122 = .ok (.aload_n 0, 1) := okd_at mX12_text_1 8 rfl
theorem dX12_text_123 : decode cX12_text 123 = .ok (.getfield 28, 3) := okd_at mX12_text_1 9 rfl
theorem dX12_text_126 : decode cX12_text 126 = .ok (.iconst 4, 1) := okd_at mX12_text_1 10 rfl
theorem dX12_text_127 : decode cX12_text 127 = .ok (.aload_n 0, 1) := okd_at mX12_text_1 11 rfl
theorem dX12_text_128 : decode cX12_text 128 = .ok (.getfield 100, 3) := okd_at mX12_text_1 12 rfl
theorem dX12_text_131 : decode cX12_text 131 = .ok (.imul, 1) := okd_at mX12_text_1 13 rfl
theorem dX12_text_132 : decode cX12_text 132 = .ok (.iconst 3, 1) := okd_at mX12_text_1 14 rfl
theorem dX12_text_133 : decode cX12_text 133 = .ok (.iadd, 1) := okd_at mX12_text_1 15 rfl
theorem dX12_text_134 : decode cX12_text 134 = .ok (.aload_n 0, 1) := okd_at mX12_text_1 16 rfl
theorem dX12_text_135 : decode cX12_text 135 = .ok (.getfield 129, 3) := okd_at mX12_text_1 17 rfl
theorem dX12_text_138 : decode cX12_text 138 = .ok (.iastore, 1) := okd_at mX12_text_1 18 rfl
theorem dX12_text_139 : decode cX12_text 139 = .ok (.aload_n 0, 1) := okd_at mX12_text_1 19 rfl
theorem dX12_text_140 : decode cX12_text 140 = .ok (.iconst 0, 1) := okd_at mX12_text_1 20 rfl
theorem dX12_text_141 : decode cX12_text 141 = .ok (.putfield 83, 3) := okd_at mX12_text_1 21 rfl
theorem dX12_text_144 : decode cX12_text 144 = .ok (.iload_n 1, 1) := okd_at mX12_text_1 22 rfl
theorem dX12_text_145 : decode cX12_text 145 = .ok (.ifCond .ne 11, 3) := okd_at mX12_text_1 23 rfl
theorem dX12_text_148 : decode cX12_text 148 = .ok (.bipush (-100), 2) := okd_at mX12_text_1 24 rfl
theorem dX12_text_150 : decode cX12_text 150 = .ok (.aload_n 0, 1) := okd_at mX12_text_1 25 rfl
theorem dX12_text_151 : decode cX12_text 151 = .ok (.getfield 116, 3) := okd_at mX12_text_1 26 rfl
theorem dX12_text_154 : decode cX12_text 154 = .ok (.isub, 1) := okd_at mX12_text_1 27 rfl
theorem dX12_text_155 : decode cX12_text 155 = .ok (.ireturn, 1) := okd_at mX12_text_1 28 rfl
theorem dX12_text_156 : decode cX12_text 156 = .ok (.aload_n 0, 1) := okd_at mX12_text_1 29 rfl
theorem dX12_text_157 : decode cX12_text 157 = .ok (.dup, 1) := okd_at mX12_text_1 30 rfl
theorem dX12_text_158 : decode cX12_text 158 = .ok (.getfield 100, 3) := okd_at mX12_text_1 31 rfl
theorem dX12_text_161 : decode cX12_text 161 = .ok (.iconst 1, 1) := okd_at mX12_text_1 32 rfl
theorem dX12_text_162 : decode cX12_text 162 = .ok (.iadd, 1) := okd_at mX12_text_1 33 rfl
theorem dX12_text_163 : decode cX12_text 163 = .ok (.putfield 100, 3) := okd_at mX12_text_1 34 rfl
theorem dX12_text_166 : decode cX12_text 166 = .ok (.aload_n 0, 1) := okd_at mX12_text_1 35 rfl
theorem dX12_text_167 : decode cX12_text 167 = .ok (.getfield 100, 3) := okd_at mX12_text_1 36 rfl
theorem dX12_text_170 : decode cX12_text 170 = .ok (.iconst 1, 1) := okd_at mX12_text_1 37 rfl
theorem dX12_text_171 : decode cX12_text 171 = .ok (.isub, 1) := okd_at mX12_text_1 38 rfl
theorem dX12_text_172 : decode cX12_text 172 = .ok (.ireturn, 1) := okd_at mX12_text_1 39 rfl
def lmX12_tie_0 : List (Nat × Instr × Nat) := [(0, .iload_n 1, 1), (1, .iconst 0, 1), (2, .iconst 2, 1), (3, .invokestatic 93, 3), (6, .ifCond .ne 7, 3), (9, .sipush (-1000), 3), (12, .ireturn, 1), (13, .aload_n 0, 1), (14, .invokevirtual 234, 3), (17, .iconst 0, 1), (18, .istore_n 2, 1), (19, .iload_n 2, 1), (20, .aload_n 0, 1), (21, .getfield 97, 3), (24, .if_icmp .ge 69, 3), (27, .aload_n 0, 1), (28, .getfield 19, 3), (31, .iconst 2, 1), (32, .iload_n 2, 1), (33, .imul, 1), (34, .iconst 1, 1), (35, .iadd, 1), (36, .iaload, 1), (37, .istore_n 3, 1), (38, .iconst 0, 1), (39, .istore 4, 2), (41, .iload 4, 2), (43, .iconst 3, 1), (44, .if_icmp .gt 32, 3), (47, .aload_n 0, 1), (48, .getfield 19, 3), (51, .iconst 2, 1), (52, .iload_n 2, 1), (53, .imul, 1), (54, .iconst 1, 1), (55, .iadd, 1), (56, .iload 4, 2), (58, .iastore, 1), (59, .aload_n 0, 1), (60, .bipush 10, 2), (62, .iload_n 2, 1), (63, .imul, 1), (64, .iload 4, 2), (66, .iadd, 1), (67, .invokevirtual 237, 3), (70, .iinc 4 1, 3), (73, .goto (-32), 3), (76, .aload_n 0, 1), (77, .getfield 19, 3), (80, .iconst 2, 1), (81, .iload_n 2, 1), (82, .imul, 1), (83, .iconst 1, 1), (84, .iadd, 1), (85, .iload_n 3, 1), (86, .iastore, 1), (87, .iinc 2 1, 3), (90, .goto (-71), 3), (93, .aload_n 0, 1), (94, .iload_n 1, 1)]
theorem mX12_tie_0 : okd cX12_tie lmX12_tie_0 = true := by decide +kernel
theorem dX12_tie_0 : decode cX12_tie 0 = .ok (.iload_n 1, 1) := okd_at mX12_tie_0 0 rfl
theorem dX12_tie_1 : decode cX12_tie 1 = .ok (.iconst 0, 1) := okd_at mX12_tie_0 1 rfl
theorem dX12_tie_2 : decode cX12_tie 2 = .ok (.iconst 2, 1) := okd_at mX12_tie_0 2 rfl
theorem dX12_tie_3 : decode cX12_tie 3 = .ok (.invokestatic 93, 3) := okd_at mX12_tie_0 3 rfl
theorem dX12_tie_6 : decode cX12_tie 6 = .ok (.ifCond .ne 7, 3) := okd_at mX12_tie_0 4 rfl
theorem dX12_tie_9 : decode cX12_tie 9 = .ok (.sipush (-1000), 3) := okd_at mX12_tie_0 5 rfl
theorem dX12_tie_12 : decode cX12_tie 12 = .ok (.ireturn, 1) := okd_at mX12_tie_0 6 rfl
theorem dX12_tie_13 : decode cX12_tie 13 = .ok (.aload_n 0, 1) := okd_at mX12_tie_0 7 rfl
theorem dX12_tie_14 : decode cX12_tie 14 = .ok (.invokevirtual 234, 3) := okd_at mX12_tie_0 8 rfl
theorem dX12_tie_17 : decode cX12_tie 17 = .ok (.iconst 0, 1) := okd_at mX12_tie_0 9 rfl
theorem dX12_tie_18 : decode cX12_tie 18 = .ok (.istore_n 2, 1) := okd_at mX12_tie_0 10 rfl
theorem dX12_tie_19 : decode cX12_tie 19 = .ok (.iload_n 2, 1) := okd_at mX12_tie_0 11 rfl
theorem dX12_tie_20 : decode cX12_tie 20 = .ok (.aload_n 0, 1) := okd_at mX12_tie_0 12 rfl
theorem dX12_tie_21 : decode cX12_tie 21 = .ok (.getfield 97, 3) := okd_at mX12_tie_0 13 rfl
theorem dX12_tie_24 : decode cX12_tie 24 = .ok (.if_icmp .ge 69, 3) := okd_at mX12_tie_0 14 rfl
theorem dX12_tie_27 : decode cX12_tie 27 = .ok (.aload_n 0, 1) := okd_at mX12_tie_0 15 rfl
theorem dX12_tie_28 : decode cX12_tie 28 = .ok (.getfield 19, 3) := okd_at mX12_tie_0 16 rfl
theorem dX12_tie_31 : decode cX12_tie 31 = .ok (.iconst 2, 1) := okd_at mX12_tie_0 17 rfl
theorem dX12_tie_32 : decode cX12_tie 32 = .ok (.iload_n 2, 1) := okd_at mX12_tie_0 18 rfl
theorem dX12_tie_33 : decode cX12_tie 33 = .ok (.imul, 1) := okd_at mX12_tie_0 19 rfl
theorem dX12_tie_34 : decode cX12_tie 34 = .ok (.iconst 1, 1) := okd_at mX12_tie_0 20 rfl
theorem dX12_tie_35 : decode cX12_tie 35 = .ok (.iadd, 1) := okd_at mX12_tie_0 21 rfl
theorem dX12_tie_36 : decode cX12_tie 36 = .ok (.iaload, 1) := okd_at mX12_tie_0 22 rfl
theorem dX12_tie_37 : decode cX12_tie 37 = .ok (.istore_n 3, 1) := okd_at mX12_tie_0 23 rfl
theorem dX12_tie_38 : decode cX12_tie 38 = .ok (.iconst 0, 1) := okd_at mX12_tie_0 24 rfl
theorem dX12_tie_39 : decode cX12_tie 39 = .ok (.istore 4, 2) := okd_at mX12_tie_0 25 rfl
theorem dX12_tie_41 : decode cX12_tie 41 = .ok (.iload 4, 2) := okd_at mX12_tie_0 26 rfl
theorem dX12_tie_43 : decode cX12_tie 43 = .ok (.iconst 3, 1) := okd_at mX12_tie_0 27 rfl
theorem dX12_tie_44 : decode cX12_tie 44 = .ok (.if_icmp .gt 32, 3) := okd_at mX12_tie_0 28 rfl
theorem dX12_tie_47 : decode cX12_tie 47 = .ok (.aload_n 0, 1) := okd_at mX12_tie_0 29 rfl
theorem dX12_tie_48 : decode cX12_tie 48 = .ok (.getfield 19, 3) := okd_at mX12_tie_0 30 rfl
theorem dX12_tie_51 : decode cX12_tie 51 = .ok (.iconst 2, 1) := okd_at mX12_tie_0 31 rfl
theorem dX12_tie_52 : decode cX12_tie 52 = .ok (.iload_n 2, 1) := okd_at mX12_tie_0 32 rfl
theorem dX12_tie_53 : decode cX12_tie 53 = .ok (.imul, 1) := okd_at mX12_tie_0 33 rfl
theorem dX12_tie_54 : decode cX12_tie 54 = .ok (.iconst 1, 1) := okd_at mX12_tie_0 34 rfl
theorem dX12_tie_55 : decode cX12_tie 55 = .ok (.iadd, 1) := okd_at mX12_tie_0 35 rfl
theorem dX12_tie_56 : decode cX12_tie 56 = .ok (.iload 4, 2) := okd_at mX12_tie_0 36 rfl
theorem dX12_tie_58 : decode cX12_tie 58 = .ok (.iastore, 1) := okd_at mX12_tie_0 37 rfl
theorem dX12_tie_59 : decode cX12_tie 59 = .ok (.aload_n 0, 1) := okd_at mX12_tie_0 38 rfl
theorem dX12_tie_60 : decode cX12_tie 60 = .ok (.bipush 10, 2) := okd_at mX12_tie_0 39 rfl
theorem dX12_tie_62 : decode cX12_tie 62 = .ok (.iload_n 2, 1) := okd_at mX12_tie_0 40 rfl
theorem dX12_tie_63 : decode cX12_tie 63 = .ok (.imul, 1) := okd_at mX12_tie_0 41 rfl
theorem dX12_tie_64 : decode cX12_tie 64 = .ok (.iload 4, 2) := okd_at mX12_tie_0 42 rfl
theorem dX12_tie_66 : decode cX12_tie 66 = .ok (.iadd, 1) := okd_at mX12_tie_0 43 rfl
theorem dX12_tie_67 : decode cX12_tie 67 = .ok (.invokevirtual 237, 3) := okd_at mX12_tie_0 44 rfl
theorem dX12_tie_70 : decode cX12_tie 70 = .ok (.iinc 4 1, 3) := okd_at mX12_tie_0 45 rfl
theorem dX12_tie_73 : decode cX12_tie 73 = .ok (.goto (-32), 3) := okd_at mX12_tie_0 46 rfl
theorem dX12_tie_76 : decode cX12_tie 76 = .ok (.aload_n 0, 1) := okd_at mX12_tie_0 47 rfl
theorem dX12_tie_77 : decode cX12_tie 77 = .ok (.getfield 19, 3) := okd_at mX12_tie_0 48 rfl
theorem dX12_tie_80 : decode cX12_tie 80 = .ok (.iconst 2, 1) := okd_at mX12_tie_0 49 rfl
theorem dX12_tie_81 : decode cX12_tie 81 = .ok (.iload_n 2, 1) := okd_at mX12_tie_0 50 rfl
theorem dX12_tie_82 : decode cX12_tie 82 = .ok (.imul, 1) := okd_at mX12_tie_0 51 rfl
theorem dX12_tie_83 : decode cX12_tie 83 = .ok (.iconst 1, 1) := okd_at mX12_tie_0 52 rfl
theorem dX12_tie_84 : decode cX12_tie 84 = .ok (.iadd, 1) := okd_at mX12_tie_0 53 rfl
theorem dX12_tie_85 : decode cX12_tie 85 = .ok (.iload_n 3, 1) := okd_at mX12_tie_0 54 rfl
theorem dX12_tie_86 : decode cX12_tie 86 = .ok (.iastore, 1) := okd_at mX12_tie_0 55 rfl
theorem dX12_tie_87 : decode cX12_tie 87 = .ok (.iinc 2 1, 3) := okd_at mX12_tie_0 56 rfl
theorem dX12_tie_90 : decode cX12_tie 90 = .ok (.goto (-71), 3) := okd_at mX12_tie_0 57 rfl
theorem dX12_tie_93 : decode cX12_tie 93 = .ok (.aload_n 0, 1) := okd_at mX12_tie_0 58 rfl
theorem dX12_tie_94 : decode cX12_tie 94 = .ok (.iload_n 1, 1) := okd_at mX12_tie_0 59 rfl
def lmX12_tie_1 : List (Nat × Instr × Nat) := [(95, .invokevirtual 244, 3), (98, .ireturn, 1)]
theorem mX12_tie_1 : okd cX12_tie lmX12_tie_1 = true := by decide +kernel
theorem dX12_tie_95 : decode cX12_tie 95 = .ok (.invokevirtual 244, 3) := okd_at mX12_tie_1 0 rfl
theorem dX12_tie_98 : decode cX12_tie 98 = .ok (.ireturn, 1) := okd_at mX12_tie_1 1 rfl
def lmX12_told_0 : List (Nat × Instr × Nat) := [(0, .aload_n 0, 1), (1, .iload_n 1, 1), (2, .invokevirtual 106, 3), (5, .ifCond .ne 6, 3), (8, .bipush (-5), 2), (10, .ireturn, 1), (11, .iload_n 2, 1), (12, .iconst 0, 1), (13, .iconst 2, 1), (14, .invokestatic 93, 3), (17, .ifCond .eq 16, 3), (20, .aload_n 0, 1), (21, .getfield 7, 3), (24, .iconst 3, 1), (25, .iload_n 1, 1), (26, .imul, 1), (27, .iload_n 2, 1), (28, .iadd, 1), (29, .iaload, 1), (30, .goto 5, 3), (33, .bipush (-7), 2), (35, .ireturn, 1)]
theorem mX12_told_0 : okd cX12_told lmX12_told_0 = true := by decide +kernel
theorem dX12_told_0 : decode cX12_told 0 = .ok (.aload_n 0, 1) := okd_at mX12_told_0 0 rfl
theorem dX12_told_1 : decode cX12_told 1 = .ok (.iload_n 1, 1) := okd_at mX12_told_0 1 rfl
theorem dX12_told_2 : decode cX12_told 2 = .ok (.invokevirtual 106, 3) := okd_at mX12_told_0 2 rfl
theorem dX12_told_5 : decode cX12_told 5 = .ok (.ifCond .ne 6, 3) := okd_at mX12_told_0 3 rfl
theorem dX12_told_8 : decode cX12_told 8 = .ok (.bipush (-5), 2) := okd_at mX12_told_0 4 rfl
theorem dX12_told_10 : decode cX12_told 10 = .ok (.ireturn, 1) := okd_at mX12_told_0 5 rfl
theorem dX12_told_11 : decode cX12_told 11 = .ok (.iload_n 2, 1) := okd_at mX12_told_0 6 rfl
theorem dX12_told_12 : decode cX12_told 12 = .ok (.iconst 0, 1) := okd_at mX12_told_0 7 rfl
theorem dX12_told_13 : decode cX12_told 13 = .ok (.iconst 2, 1) := okd_at mX12_told_0 8 rfl
theorem dX12_told_14 : decode cX12_told 14 = .ok (.invokestatic 93, 3) := okd_at mX12_told_0 9 rfl
theorem dX12_told_17 : decode cX12_told 17 = .ok (.ifCond .eq 16, 3) := okd_at mX12_told_0 10 rfl
theorem dX12_told_20 : decode cX12_told 20 = .ok (.aload_n 0, 1) := okd_at mX12_told_0 11 rfl
theorem dX12_told_21 : decode cX12_told 21 = .ok (.getfield 7, 3) := okd_at mX12_told_0 12 rfl
theorem dX12_told_24 : decode cX12_told 24 = .ok (.iconst 3, 1) := okd_at mX12_told_0 13 rfl
theorem dX12_told_25 : decode cX12_told 25 = .ok (.iload_n 1, 1) := okd_at mX12_told_0 14 rfl
theorem dX12_told_26 : decode cX12_told 26 = .ok (.imul, 1) := okd_at mX12_told_0 15 rfl
theorem dX12_told_27 : decode cX12_told 27 = .ok (.iload_n 2, 1) := okd_at mX12_told_0 16 rfl
theorem dX12_told_28 : decode cX12_told 28 = .ok (.iadd, 1) := okd_at mX12_told_0 17 rfl
theorem dX12_told_29 : decode cX12_told 29 = .ok (.iaload, 1) := okd_at mX12_told_0 18 rfl
theorem dX12_told_30 : decode cX12_told 30 = .ok (.goto 5, 3) := okd_at mX12_told_0 19 rfl
theorem dX12_told_33 : decode cX12_told 33 = .ok (.bipush (-7), 2) := okd_at mX12_told_0 20 rfl
theorem dX12_told_35 : decode cX12_told 35 = .ok (.ireturn, 1) := okd_at mX12_told_0 21 rfl
def lmX12_toldBest_0 : List (Nat × Instr × Nat) := [(0, .iload_n 1, 1), (1, .ifCond .ne 10, 3), (4, .aload_n 0, 1), (5, .getfield 225, 3), (8, .goto 19, 3), (11, .iload_n 1, 1), (12, .iconst 1, 1), (13, .if_icmp .ne 10, 3), (16, .aload_n 0, 1), (17, .getfield 228, 3), (20, .goto 7, 3), (23, .aload_n 0, 1), (24, .getfield 231, 3), (27, .ireturn, 1)]
theorem mX12_toldBest_0 : okd cX12_toldBest lmX12_toldBest_0 = true := by decide +kernel
theorem dX12_toldBest_0 : decode cX12_toldBest 0 = .ok (.iload_n 1, 1) := okd_at mX12_toldBest_0 0 rfl
theorem dX12_toldBest_1 : decode cX12_toldBest 1 = .ok (.ifCond .ne 10, 3) := okd_at mX12_toldBest_0 1 rfl
theorem dX12_toldBest_4 : decode cX12_toldBest 4 = .ok (.aload_n 0, 1) := okd_at mX12_toldBest_0 2 rfl
theorem dX12_toldBest_5 : decode cX12_toldBest 5 = .ok (.getfield 225, 3) := okd_at mX12_toldBest_0 3 rfl
theorem dX12_toldBest_8 : decode cX12_toldBest 8 = .ok (.goto 19, 3) := okd_at mX12_toldBest_0 4 rfl
theorem dX12_toldBest_11 : decode cX12_toldBest 11 = .ok (.iload_n 1, 1) := okd_at mX12_toldBest_0 5 rfl
theorem dX12_toldBest_12 : decode cX12_toldBest 12 = .ok (.iconst 1, 1) := okd_at mX12_toldBest_0 6 rfl
theorem dX12_toldBest_13 : decode cX12_toldBest 13 = .ok (.if_icmp .ne 10, 3) := okd_at mX12_toldBest_0 7 rfl
theorem dX12_toldBest_16 : decode cX12_toldBest 16 = .ok (.aload_n 0, 1) := okd_at mX12_toldBest_0 8 rfl
theorem dX12_toldBest_17 : decode cX12_toldBest 17 = .ok (.getfield 228, 3) := okd_at mX12_toldBest_0 9 rfl
theorem dX12_toldBest_20 : decode cX12_toldBest 20 = .ok (.goto 7, 3) := okd_at mX12_toldBest_0 10 rfl
theorem dX12_toldBest_23 : decode cX12_toldBest 23 = .ok (.aload_n 0, 1) := okd_at mX12_toldBest_0 11 rfl
theorem dX12_toldBest_24 : decode cX12_toldBest 24 = .ok (.getfield 231, 3) := okd_at mX12_toldBest_0 12 rfl
theorem dX12_toldBest_27 : decode cX12_toldBest 27 = .ok (.ireturn, 1) := okd_at mX12_toldBest_0 13 rfl
def lmX12_tried_0 : List (Nat × Instr × Nat) := [(0, .aload_n 0, 1), (1, .invokevirtual 219, 3), (4, .aload_n 0, 1), (5, .getfield 213, 3), (8, .aload_n 0, 1), (9, .getfield 228, 3), (12, .if_icmp .lt 25, 3), (15, .aload_n 0, 1), (16, .getfield 213, 3), (19, .aload_n 0, 1), (20, .getfield 228, 3), (23, .if_icmp .ne 35, 3), (26, .aload_n 0, 1), (27, .getfield 207, 3), (30, .aload_n 0, 1), (31, .getfield 231, 3), (34, .if_icmp .le 24, 3), (37, .aload_n 0, 1), (38, .iload_n 1, 1), (39, .putfield 225, 3), (42, .aload_n 0, 1), (43, .aload_n 0, 1), (44, .getfield 213, 3), (47, .putfield 228, 3), (50, .aload_n 0, 1), (51, .aload_n 0, 1), (52, .getfield 207, 3), (55, .putfield 231, 3), (58, .return_, 1)]
theorem mX12_tried_0 : okd cX12_tried lmX12_tried_0 = true := by decide +kernel
theorem dX12_tried_0 : decode cX12_tried 0 = .ok (.aload_n 0, 1) := okd_at mX12_tried_0 0 rfl
theorem dX12_tried_1 : decode cX12_tried 1 = .ok (.invokevirtual 219, 3) := okd_at mX12_tried_0 1 rfl
theorem dX12_tried_4 : decode cX12_tried 4 = .ok (.aload_n 0, 1) := okd_at mX12_tried_0 2 rfl
theorem dX12_tried_5 : decode cX12_tried 5 = .ok (.getfield 213, 3) := okd_at mX12_tried_0 3 rfl
theorem dX12_tried_8 : decode cX12_tried 8 = .ok (.aload_n 0, 1) := okd_at mX12_tried_0 4 rfl
theorem dX12_tried_9 : decode cX12_tried 9 = .ok (.getfield 228, 3) := okd_at mX12_tried_0 5 rfl
theorem dX12_tried_12 : decode cX12_tried 12 = .ok (.if_icmp .lt 25, 3) := okd_at mX12_tried_0 6 rfl
theorem dX12_tried_15 : decode cX12_tried 15 = .ok (.aload_n 0, 1) := okd_at mX12_tried_0 7 rfl
theorem dX12_tried_16 : decode cX12_tried 16 = .ok (.getfield 213, 3) := okd_at mX12_tried_0 8 rfl
theorem dX12_tried_19 : decode cX12_tried 19 = .ok (.aload_n 0, 1) := okd_at mX12_tried_0 9 rfl
theorem dX12_tried_20 : decode cX12_tried 20 = .ok (.getfield 228, 3) := okd_at mX12_tried_0 10 rfl
theorem dX12_tried_23 : decode cX12_tried 23 = .ok (.if_icmp .ne 35, 3) := okd_at mX12_tried_0 11 rfl
theorem dX12_tried_26 : decode cX12_tried 26 = .ok (.aload_n 0, 1) := okd_at mX12_tried_0 12 rfl
theorem dX12_tried_27 : decode cX12_tried 27 = .ok (.getfield 207, 3) := okd_at mX12_tried_0 13 rfl
theorem dX12_tried_30 : decode cX12_tried 30 = .ok (.aload_n 0, 1) := okd_at mX12_tried_0 14 rfl
theorem dX12_tried_31 : decode cX12_tried 31 = .ok (.getfield 231, 3) := okd_at mX12_tried_0 15 rfl
theorem dX12_tried_34 : decode cX12_tried 34 = .ok (.if_icmp .le 24, 3) := okd_at mX12_tried_0 16 rfl
theorem dX12_tried_37 : decode cX12_tried 37 = .ok (.aload_n 0, 1) := okd_at mX12_tried_0 17 rfl
theorem dX12_tried_38 : decode cX12_tried 38 = .ok (.iload_n 1, 1) := okd_at mX12_tried_0 18 rfl
theorem dX12_tried_39 : decode cX12_tried 39 = .ok (.putfield 225, 3) := okd_at mX12_tried_0 19 rfl
theorem dX12_tried_42 : decode cX12_tried 42 = .ok (.aload_n 0, 1) := okd_at mX12_tried_0 20 rfl
theorem dX12_tried_43 : decode cX12_tried 43 = .ok (.aload_n 0, 1) := okd_at mX12_tried_0 21 rfl
theorem dX12_tried_44 : decode cX12_tried 44 = .ok (.getfield 213, 3) := okd_at mX12_tried_0 22 rfl
theorem dX12_tried_47 : decode cX12_tried 47 = .ok (.putfield 228, 3) := okd_at mX12_tried_0 23 rfl
theorem dX12_tried_50 : decode cX12_tried 50 = .ok (.aload_n 0, 1) := okd_at mX12_tried_0 24 rfl
theorem dX12_tried_51 : decode cX12_tried 51 = .ok (.aload_n 0, 1) := okd_at mX12_tried_0 25 rfl
theorem dX12_tried_52 : decode cX12_tried 52 = .ok (.getfield 207, 3) := okd_at mX12_tried_0 26 rfl
theorem dX12_tried_55 : decode cX12_tried 55 = .ok (.putfield 231, 3) := okd_at mX12_tried_0 27 rfl
theorem dX12_tried_58 : decode cX12_tried 58 = .ok (.return_, 1) := okd_at mX12_tried_0 28 rfl
def lmX12_two_0 : List (Nat × Instr × Nat) := [(0, .iload_n 0, 1), (1, .tableswitch 101 11 17 #[43, 57, 101, 71, 82, 93, 97], 43), (44, .iload_n 1, 1), (45, .ifCond .ne 7, 3), (48, .iload_n 2, 1), (49, .ifCond .eq 7, 3), (52, .iconst 1, 1), (53, .goto 4, 3), (56, .iconst 0, 1), (57, .ireturn, 1), (58, .iload_n 1, 1), (59, .ifCond .eq 11, 3), (62, .iload_n 2, 1), (63, .ifCond .eq 7, 3), (66, .iconst 1, 1), (67, .goto 4, 3), (70, .iconst 0, 1), (71, .ireturn, 1), (72, .iload_n 1, 1), (73, .iload_n 2, 1), (74, .if_icmp .ge 7, 3), (77, .iconst 1, 1), (78, .goto 4, 3), (81, .iconst 0, 1), (82, .ireturn, 1), (83, .iload_n 1, 1), (84, .iload_n 2, 1), (85, .if_icmp .ne 7, 3), (88, .iconst 1, 1), (89, .goto 4, 3), (92, .iconst 0, 1), (93, .ireturn, 1), (94, .iload_n 1, 1), (95, .iload_n 2, 1), (96, .iadd, 1), (97, .ireturn, 1), (98, .iload_n 1, 1), (99, .iload_n 2, 1), (100, .isub, 1), (101, .ireturn, 1), (102, .iload_n 1, 1), (103, .iload_n 2, 1), (104, .imul, 1), (105, .ireturn, 1)]
theorem mX12_two_0 : okd cX12_two lmX12_two_0 = true := by decide +kernel
theorem dX12_two_0 : decode cX12_two 0 = .ok (.iload_n 0, 1) := okd_at mX12_two_0 0 rfl
theorem dX12_two_1 : decode cX12_two 1 = .ok (.tableswitch 101 11 17 #[43, 57, 101, 71, 82, 93, 97], 43) := okd_at mX12_two_0 1 rfl
theorem dX12_two_44 : decode cX12_two 44 = .ok (.iload_n 1, 1) := okd_at mX12_two_0 2 rfl
theorem dX12_two_45 : decode cX12_two 45 = .ok (.ifCond .ne 7, 3) := okd_at mX12_two_0 3 rfl
theorem dX12_two_48 : decode cX12_two 48 = .ok (.iload_n 2, 1) := okd_at mX12_two_0 4 rfl
theorem dX12_two_49 : decode cX12_two 49 = .ok (.ifCond .eq 7, 3) := okd_at mX12_two_0 5 rfl
theorem dX12_two_52 : decode cX12_two 52 = .ok (.iconst 1, 1) := okd_at mX12_two_0 6 rfl
theorem dX12_two_53 : decode cX12_two 53 = .ok (.goto 4, 3) := okd_at mX12_two_0 7 rfl
theorem dX12_two_56 : decode cX12_two 56 = .ok (.iconst 0, 1) := okd_at mX12_two_0 8 rfl
theorem dX12_two_57 : decode cX12_two 57 = .ok (.ireturn, 1) := okd_at mX12_two_0 9 rfl
theorem dX12_two_58 : decode cX12_two 58 = .ok (.iload_n 1, 1) := okd_at mX12_two_0 10 rfl
theorem dX12_two_59 : decode cX12_two 59 = .ok (.ifCond .eq 11, 3) := okd_at mX12_two_0 11 rfl
theorem dX12_two_62 : decode cX12_two 62 = .ok (.iload_n 2, 1) := okd_at mX12_two_0 12 rfl
theorem dX12_two_63 : decode cX12_two 63 = .ok (.ifCond .eq 7, 3) := okd_at mX12_two_0 13 rfl
theorem dX12_two_66 : decode cX12_two 66 = .ok (.iconst 1, 1) := okd_at mX12_two_0 14 rfl
theorem dX12_two_67 : decode cX12_two 67 = .ok (.goto 4, 3) := okd_at mX12_two_0 15 rfl
theorem dX12_two_70 : decode cX12_two 70 = .ok (.iconst 0, 1) := okd_at mX12_two_0 16 rfl
theorem dX12_two_71 : decode cX12_two 71 = .ok (.ireturn, 1) := okd_at mX12_two_0 17 rfl
theorem dX12_two_72 : decode cX12_two 72 = .ok (.iload_n 1, 1) := okd_at mX12_two_0 18 rfl
theorem dX12_two_73 : decode cX12_two 73 = .ok (.iload_n 2, 1) := okd_at mX12_two_0 19 rfl
theorem dX12_two_74 : decode cX12_two 74 = .ok (.if_icmp .ge 7, 3) := okd_at mX12_two_0 20 rfl
theorem dX12_two_77 : decode cX12_two 77 = .ok (.iconst 1, 1) := okd_at mX12_two_0 21 rfl
theorem dX12_two_78 : decode cX12_two 78 = .ok (.goto 4, 3) := okd_at mX12_two_0 22 rfl
theorem dX12_two_81 : decode cX12_two 81 = .ok (.iconst 0, 1) := okd_at mX12_two_0 23 rfl
theorem dX12_two_82 : decode cX12_two 82 = .ok (.ireturn, 1) := okd_at mX12_two_0 24 rfl
theorem dX12_two_83 : decode cX12_two 83 = .ok (.iload_n 1, 1) := okd_at mX12_two_0 25 rfl
theorem dX12_two_84 : decode cX12_two 84 = .ok (.iload_n 2, 1) := okd_at mX12_two_0 26 rfl
theorem dX12_two_85 : decode cX12_two 85 = .ok (.if_icmp .ne 7, 3) := okd_at mX12_two_0 27 rfl
theorem dX12_two_88 : decode cX12_two 88 = .ok (.iconst 1, 1) := okd_at mX12_two_0 28 rfl
theorem dX12_two_89 : decode cX12_two 89 = .ok (.goto 4, 3) := okd_at mX12_two_0 29 rfl
theorem dX12_two_92 : decode cX12_two 92 = .ok (.iconst 0, 1) := okd_at mX12_two_0 30 rfl
theorem dX12_two_93 : decode cX12_two 93 = .ok (.ireturn, 1) := okd_at mX12_two_0 31 rfl
theorem dX12_two_94 : decode cX12_two 94 = .ok (.iload_n 1, 1) := okd_at mX12_two_0 32 rfl
theorem dX12_two_95 : decode cX12_two 95 = .ok (.iload_n 2, 1) := okd_at mX12_two_0 33 rfl
theorem dX12_two_96 : decode cX12_two 96 = .ok (.iadd, 1) := okd_at mX12_two_0 34 rfl
theorem dX12_two_97 : decode cX12_two 97 = .ok (.ireturn, 1) := okd_at mX12_two_0 35 rfl
theorem dX12_two_98 : decode cX12_two 98 = .ok (.iload_n 1, 1) := okd_at mX12_two_0 36 rfl
theorem dX12_two_99 : decode cX12_two 99 = .ok (.iload_n 2, 1) := okd_at mX12_two_0 37 rfl
theorem dX12_two_100 : decode cX12_two 100 = .ok (.isub, 1) := okd_at mX12_two_0 38 rfl
theorem dX12_two_101 : decode cX12_two 101 = .ok (.ireturn, 1) := okd_at mX12_two_0 39 rfl
theorem dX12_two_102 : decode cX12_two 102 = .ok (.iload_n 1, 1) := okd_at mX12_two_0 40 rfl
theorem dX12_two_103 : decode cX12_two 103 = .ok (.iload_n 2, 1) := okd_at mX12_two_0 41 rfl
theorem dX12_two_104 : decode cX12_two 104 = .ok (.imul, 1) := okd_at mX12_two_0 42 rfl
theorem dX12_two_105 : decode cX12_two 105 = .ok (.ireturn, 1) := okd_at mX12_two_0 43 rfl
def lmX12_unlike_0 : List (Nat × Instr × Nat) := [(0, .aload_n 0, 1), (1, .invokevirtual 219, 3), (4, .iconst 0, 1), (5, .istore_n 2, 1), (6, .iload_n 2, 1), (7, .aload_n 0, 1), (8, .getfield 97, 3), (11, .if_icmp .ge 31, 3), (14, .aload_n 0, 1), (15, .getfield 43, 3), (18, .bipush 40, 2), (20, .iload_n 1, 1), (21, .imul, 1), (22, .iload_n 2, 1), (23, .iadd, 1), (24, .iaload, 1), (25, .aload_n 0, 1), (26, .getfield 70, 3), (29, .iload_n 2, 1), (30, .iaload, 1), (31, .if_icmp .eq 5, 3), (34, .iload_n 2, 1), (35, .ireturn, 1), (36, .iinc 2 1, 3), (39, .goto (-33), 3), (42, .iconst (-1), 1), (43, .ireturn, 1)]
theorem mX12_unlike_0 : okd cX12_unlike lmX12_unlike_0 = true := by decide +kernel
theorem dX12_unlike_0 : decode cX12_unlike 0 = .ok (.aload_n 0, 1) := okd_at mX12_unlike_0 0 rfl
theorem dX12_unlike_1 : decode cX12_unlike 1 = .ok (.invokevirtual 219, 3) := okd_at mX12_unlike_0 1 rfl
theorem dX12_unlike_4 : decode cX12_unlike 4 = .ok (.iconst 0, 1) := okd_at mX12_unlike_0 2 rfl
theorem dX12_unlike_5 : decode cX12_unlike 5 = .ok (.istore_n 2, 1) := okd_at mX12_unlike_0 3 rfl
theorem dX12_unlike_6 : decode cX12_unlike 6 = .ok (.iload_n 2, 1) := okd_at mX12_unlike_0 4 rfl
theorem dX12_unlike_7 : decode cX12_unlike 7 = .ok (.aload_n 0, 1) := okd_at mX12_unlike_0 5 rfl
theorem dX12_unlike_8 : decode cX12_unlike 8 = .ok (.getfield 97, 3) := okd_at mX12_unlike_0 6 rfl
theorem dX12_unlike_11 : decode cX12_unlike 11 = .ok (.if_icmp .ge 31, 3) := okd_at mX12_unlike_0 7 rfl
theorem dX12_unlike_14 : decode cX12_unlike 14 = .ok (.aload_n 0, 1) := okd_at mX12_unlike_0 8 rfl
theorem dX12_unlike_15 : decode cX12_unlike 15 = .ok (.getfield 43, 3) := okd_at mX12_unlike_0 9 rfl
theorem dX12_unlike_18 : decode cX12_unlike 18 = .ok (.bipush 40, 2) := okd_at mX12_unlike_0 10 rfl
theorem dX12_unlike_20 : decode cX12_unlike 20 = .ok (.iload_n 1, 1) := okd_at mX12_unlike_0 11 rfl
theorem dX12_unlike_21 : decode cX12_unlike 21 = .ok (.imul, 1) := okd_at mX12_unlike_0 12 rfl
theorem dX12_unlike_22 : decode cX12_unlike 22 = .ok (.iload_n 2, 1) := okd_at mX12_unlike_0 13 rfl
theorem dX12_unlike_23 : decode cX12_unlike 23 = .ok (.iadd, 1) := okd_at mX12_unlike_0 14 rfl
theorem dX12_unlike_24 : decode cX12_unlike 24 = .ok (.iaload, 1) := okd_at mX12_unlike_0 15 rfl
theorem dX12_unlike_25 : decode cX12_unlike 25 = .ok (.aload_n 0, 1) := okd_at mX12_unlike_0 16 rfl
theorem dX12_unlike_26 : decode cX12_unlike 26 = .ok (.getfield 70, 3) := okd_at mX12_unlike_0 17 rfl
theorem dX12_unlike_29 : decode cX12_unlike 29 = .ok (.iload_n 2, 1) := okd_at mX12_unlike_0 18 rfl
theorem dX12_unlike_30 : decode cX12_unlike 30 = .ok (.iaload, 1) := okd_at mX12_unlike_0 19 rfl
theorem dX12_unlike_31 : decode cX12_unlike 31 = .ok (.if_icmp .eq 5, 3) := okd_at mX12_unlike_0 20 rfl
theorem dX12_unlike_34 : decode cX12_unlike 34 = .ok (.iload_n 2, 1) := okd_at mX12_unlike_0 21 rfl
theorem dX12_unlike_35 : decode cX12_unlike 35 = .ok (.ireturn, 1) := okd_at mX12_unlike_0 22 rfl
theorem dX12_unlike_36 : decode cX12_unlike 36 = .ok (.iinc 2 1, 3) := okd_at mX12_unlike_0 23 rfl
theorem dX12_unlike_39 : decode cX12_unlike 39 = .ok (.goto (-33), 3) := okd_at mX12_unlike_0 24 rfl
theorem dX12_unlike_42 : decode cX12_unlike 42 = .ok (.iconst (-1), 1) := okd_at mX12_unlike_0 25 rfl
theorem dX12_unlike_43 : decode cX12_unlike 43 = .ok (.ireturn, 1) := okd_at mX12_unlike_0 26 rfl
def lmX12_unwinds_0 : List (Nat × Instr × Nat) := [(0, .aload_n 0, 1), (1, .getfield 132, 3), (4, .ifCond .le 75, 3), (7, .aload_n 0, 1), (8, .getfield 52, 3), (11, .aload_n 0, 1), (12, .getfield 132, 3), (15, .iconst 1, 1), (16, .isub, 1), (17, .iaload, 1), (18, .invokestatic 135, 3), (21, .iload_n 1, 1), (22, .if_icmp .lt 57, 3), (25, .aload_n 0, 1), (26, .dup, 1), (27, .getfield 132, 3), (30, .iconst 1, 1), (31, .isub, 1), (32, .putfield 132, 3), (35, .aload_n 0, 1), (36, .getfield 52, 3), (39, .aload_n 0, 1), (40, .getfield 132, 3), (43, .iaload, 1), (44, .istore_n 2, 1), (45, .aload_n 0, 1), (46, .dup, 1), (47, .getfield 139, 3), (50, .iload_n 2, 1), (51, .bipush 13, 2), (53, .if_icmp .eq 9, 3), (56, .iload_n 2, 1), (57, .bipush 19, 2), (59, .if_icmp .ne 7, 3), (62, .iconst 1, 1), (63, .goto 4, 3), (66, .iconst 0, 1), (67, .isub, 1), (68, .putfield 139, 3), (71, .aload_n 0, 1), (72, .iload_n 2, 1), (73, .invokevirtual 142, 3), (76, .goto (-76), 3), (79, .return_, 1)]
theorem mX12_unwinds_0 : okd cX12_unwinds lmX12_unwinds_0 = true := by decide +kernel
theorem dX12_unwinds_0 : decode cX12_unwinds 0 = .ok (.aload_n 0, 1) := okd_at mX12_unwinds_0 0 rfl
theorem dX12_unwinds_1 : decode cX12_unwinds 1 = .ok (.getfield 132, 3) := okd_at mX12_unwinds_0 1 rfl
theorem dX12_unwinds_4 : decode cX12_unwinds 4 = .ok (.ifCond .le 75, 3) := okd_at mX12_unwinds_0 2 rfl
theorem dX12_unwinds_7 : decode cX12_unwinds 7 = .ok (.aload_n 0, 1) := okd_at mX12_unwinds_0 3 rfl
theorem dX12_unwinds_8 : decode cX12_unwinds 8 = .ok (.getfield 52, 3) := okd_at mX12_unwinds_0 4 rfl
theorem dX12_unwinds_11 : decode cX12_unwinds 11 = .ok (.aload_n 0, 1) := okd_at mX12_unwinds_0 5 rfl
theorem dX12_unwinds_12 : decode cX12_unwinds 12 = .ok (.getfield 132, 3) := okd_at mX12_unwinds_0 6 rfl
theorem dX12_unwinds_15 : decode cX12_unwinds 15 = .ok (.iconst 1, 1) := okd_at mX12_unwinds_0 7 rfl
theorem dX12_unwinds_16 : decode cX12_unwinds 16 = .ok (.isub, 1) := okd_at mX12_unwinds_0 8 rfl
theorem dX12_unwinds_17 : decode cX12_unwinds 17 = .ok (.iaload, 1) := okd_at mX12_unwinds_0 9 rfl
theorem dX12_unwinds_18 : decode cX12_unwinds 18 = .ok (.invokestatic 135, 3) := okd_at mX12_unwinds_0 10 rfl
theorem dX12_unwinds_21 : decode cX12_unwinds 21 = .ok (.iload_n 1, 1) := okd_at mX12_unwinds_0 11 rfl
theorem dX12_unwinds_22 : decode cX12_unwinds 22 = .ok (.if_icmp .lt 57, 3) := okd_at mX12_unwinds_0 12 rfl
theorem dX12_unwinds_25 : decode cX12_unwinds 25 = .ok (.aload_n 0, 1) := okd_at mX12_unwinds_0 13 rfl
theorem dX12_unwinds_26 : decode cX12_unwinds 26 = .ok (.dup, 1) := okd_at mX12_unwinds_0 14 rfl
theorem dX12_unwinds_27 : decode cX12_unwinds 27 = .ok (.getfield 132, 3) := okd_at mX12_unwinds_0 15 rfl
theorem dX12_unwinds_30 : decode cX12_unwinds 30 = .ok (.iconst 1, 1) := okd_at mX12_unwinds_0 16 rfl
theorem dX12_unwinds_31 : decode cX12_unwinds 31 = .ok (.isub, 1) := okd_at mX12_unwinds_0 17 rfl
theorem dX12_unwinds_32 : decode cX12_unwinds 32 = .ok (.putfield 132, 3) := okd_at mX12_unwinds_0 18 rfl
theorem dX12_unwinds_35 : decode cX12_unwinds 35 = .ok (.aload_n 0, 1) := okd_at mX12_unwinds_0 19 rfl
theorem dX12_unwinds_36 : decode cX12_unwinds 36 = .ok (.getfield 52, 3) := okd_at mX12_unwinds_0 20 rfl
theorem dX12_unwinds_39 : decode cX12_unwinds 39 = .ok (.aload_n 0, 1) := okd_at mX12_unwinds_0 21 rfl
theorem dX12_unwinds_40 : decode cX12_unwinds 40 = .ok (.getfield 132, 3) := okd_at mX12_unwinds_0 22 rfl
theorem dX12_unwinds_43 : decode cX12_unwinds 43 = .ok (.iaload, 1) := okd_at mX12_unwinds_0 23 rfl
theorem dX12_unwinds_44 : decode cX12_unwinds 44 = .ok (.istore_n 2, 1) := okd_at mX12_unwinds_0 24 rfl
theorem dX12_unwinds_45 : decode cX12_unwinds 45 = .ok (.aload_n 0, 1) := okd_at mX12_unwinds_0 25 rfl
theorem dX12_unwinds_46 : decode cX12_unwinds 46 = .ok (.dup, 1) := okd_at mX12_unwinds_0 26 rfl
theorem dX12_unwinds_47 : decode cX12_unwinds 47 = .ok (.getfield 139, 3) := okd_at mX12_unwinds_0 27 rfl
theorem dX12_unwinds_50 : decode cX12_unwinds 50 = .ok (.iload_n 2, 1) := okd_at mX12_unwinds_0 28 rfl
theorem dX12_unwinds_51 : decode cX12_unwinds 51 = .ok (.bipush 13, 2) := okd_at mX12_unwinds_0 29 rfl
theorem dX12_unwinds_53 : decode cX12_unwinds 53 = .ok (.if_icmp .eq 9, 3) := okd_at mX12_unwinds_0 30 rfl
theorem dX12_unwinds_56 : decode cX12_unwinds 56 = .ok (.iload_n 2, 1) := okd_at mX12_unwinds_0 31 rfl
theorem dX12_unwinds_57 : decode cX12_unwinds 57 = .ok (.bipush 19, 2) := okd_at mX12_unwinds_0 32 rfl
theorem dX12_unwinds_59 : decode cX12_unwinds 59 = .ok (.if_icmp .ne 7, 3) := okd_at mX12_unwinds_0 33 rfl
theorem dX12_unwinds_62 : decode cX12_unwinds 62 = .ok (.iconst 1, 1) := okd_at mX12_unwinds_0 34 rfl
theorem dX12_unwinds_63 : decode cX12_unwinds 63 = .ok (.goto 4, 3) := okd_at mX12_unwinds_0 35 rfl
theorem dX12_unwinds_66 : decode cX12_unwinds 66 = .ok (.iconst 0, 1) := okd_at mX12_unwinds_0 36 rfl
theorem dX12_unwinds_67 : decode cX12_unwinds 67 = .ok (.isub, 1) := okd_at mX12_unwinds_0 37 rfl
theorem dX12_unwinds_68 : decode cX12_unwinds 68 = .ok (.putfield 139, 3) := okd_at mX12_unwinds_0 38 rfl
theorem dX12_unwinds_71 : decode cX12_unwinds 71 = .ok (.aload_n 0, 1) := okd_at mX12_unwinds_0 39 rfl
theorem dX12_unwinds_72 : decode cX12_unwinds 72 = .ok (.iload_n 2, 1) := okd_at mX12_unwinds_0 40 rfl
theorem dX12_unwinds_73 : decode cX12_unwinds 73 = .ok (.invokevirtual 142, 3) := okd_at mX12_unwinds_0 41 rfl
theorem dX12_unwinds_76 : decode cX12_unwinds 76 = .ok (.goto (-76), 3) := okd_at mX12_unwinds_0 42 rfl
theorem dX12_unwinds_79 : decode cX12_unwinds 79 = .ok (.return_, 1) := okd_at mX12_unwinds_0 43 rfl
def lmX12_within_0 : List (Nat × Instr × Nat) := [(0, .iload_n 0, 1), (1, .iload_n 1, 1), (2, .if_icmp .ge 7, 3), (5, .iload_n 1, 1), (6, .goto 13, 3), (9, .iload_n 0, 1), (10, .iload_n 2, 1), (11, .if_icmp .le 7, 3), (14, .iload_n 2, 1), (15, .goto 4, 3), (18, .iload_n 0, 1), (19, .ireturn, 1)]
theorem mX12_within_0 : okd cX12_within lmX12_within_0 = true := by decide +kernel
theorem dX12_within_0 : decode cX12_within 0 = .ok (.iload_n 0, 1) := okd_at mX12_within_0 0 rfl
theorem dX12_within_1 : decode cX12_within 1 = .ok (.iload_n 1, 1) := okd_at mX12_within_0 1 rfl
theorem dX12_within_2 : decode cX12_within 2 = .ok (.if_icmp .ge 7, 3) := okd_at mX12_within_0 2 rfl
theorem dX12_within_5 : decode cX12_within 5 = .ok (.iload_n 1, 1) := okd_at mX12_within_0 3 rfl
theorem dX12_within_6 : decode cX12_within 6 = .ok (.goto 13, 3) := okd_at mX12_within_0 4 rfl
theorem dX12_within_9 : decode cX12_within 9 = .ok (.iload_n 0, 1) := okd_at mX12_within_0 5 rfl
theorem dX12_within_10 : decode cX12_within 10 = .ok (.iload_n 2, 1) := okd_at mX12_within_0 6 rfl
theorem dX12_within_11 : decode cX12_within 11 = .ok (.if_icmp .le 7, 3) := okd_at mX12_within_0 7 rfl
theorem dX12_within_14 : decode cX12_within 14 = .ok (.iload_n 2, 1) := okd_at mX12_within_0 8 rfl
theorem dX12_within_15 : decode cX12_within 15 = .ok (.goto 4, 3) := okd_at mX12_within_0 9 rfl
theorem dX12_within_18 : decode cX12_within 18 = .ok (.iload_n 0, 1) := okd_at mX12_within_0 10 rfl
theorem dX12_within_19 : decode cX12_within 19 = .ok (.ireturn, 1) := okd_at mX12_within_0 11 rfl
def lmX12_wordFrom_0 : List (Nat × Instr × Nat) := [(0, .iconst 0, 1), (1, .istore_n 3, 1), (2, .iload_n 3, 1), (3, .bipush 12, 2), (5, .if_icmp .ge 96, 3), (8, .iload_n 2, 1), (9, .iload_n 1, 1), (10, .isub, 1), (11, .bipush 8, 2), (13, .if_icmp .gt 7, 3), (16, .iconst 1, 1), (17, .goto 4, 3), (20, .iconst 0, 1), (21, .istore 4, 2), (23, .iconst 0, 1), (24, .istore 5, 2), (26, .iload 5, 2), (28, .bipush 8, 2), (30, .if_icmp .ge 58, 3), (33, .iload 4, 2), (35, .ifCond .eq 53, 3), (38, .aload_n 0, 1), (39, .getfield 49, 3), (42, .bipush 8, 2), (44, .iload_n 3, 1), (45, .imul, 1), (46, .iload 5, 2), (48, .iadd, 1), (49, .iaload, 1), (50, .iload_n 1, 1), (51, .iload 5, 2), (53, .iadd, 1), (54, .iload_n 2, 1), (55, .if_icmp .ge 15, 3), (58, .aload_n 0, 1), (59, .getfield 22, 3), (62, .iload_n 1, 1), (63, .iload 5, 2), (65, .iadd, 1), (66, .iaload, 1), (67, .goto 5, 3), (70, .bipush 32, 2), (72, .if_icmp .ne 7, 3), (75, .iconst 1, 1), (76, .goto 4, 3), (79, .iconst 0, 1), (80, .istore 4, 2), (82, .iinc 5 1, 3), (85, .goto (-59), 3), (88, .iload 4, 2), (90, .ifCond .eq 5, 3), (93, .iload_n 3, 1), (94, .ireturn, 1), (95, .iinc 3 1, 3), (98, .goto (-96), 3), (101, .bipush 12, 2), (103, .ireturn, 1)]
theorem mX12_wordFrom_0 : okd cX12_wordFrom lmX12_wordFrom_0 = true := by decide +kernel
theorem dX12_wordFrom_0 : decode cX12_wordFrom 0 = .ok (.iconst 0, 1) := okd_at mX12_wordFrom_0 0 rfl
theorem dX12_wordFrom_1 : decode cX12_wordFrom 1 = .ok (.istore_n 3, 1) := okd_at mX12_wordFrom_0 1 rfl
theorem dX12_wordFrom_2 : decode cX12_wordFrom 2 = .ok (.iload_n 3, 1) := okd_at mX12_wordFrom_0 2 rfl
theorem dX12_wordFrom_3 : decode cX12_wordFrom 3 = .ok (.bipush 12, 2) := okd_at mX12_wordFrom_0 3 rfl
theorem dX12_wordFrom_5 : decode cX12_wordFrom 5 = .ok (.if_icmp .ge 96, 3) := okd_at mX12_wordFrom_0 4 rfl
theorem dX12_wordFrom_8 : decode cX12_wordFrom 8 = .ok (.iload_n 2, 1) := okd_at mX12_wordFrom_0 5 rfl
theorem dX12_wordFrom_9 : decode cX12_wordFrom 9 = .ok (.iload_n 1, 1) := okd_at mX12_wordFrom_0 6 rfl
theorem dX12_wordFrom_10 : decode cX12_wordFrom 10 = .ok (.isub, 1) := okd_at mX12_wordFrom_0 7 rfl
theorem dX12_wordFrom_11 : decode cX12_wordFrom 11 = .ok (.bipush 8, 2) := okd_at mX12_wordFrom_0 8 rfl
theorem dX12_wordFrom_13 : decode cX12_wordFrom 13 = .ok (.if_icmp .gt 7, 3) := okd_at mX12_wordFrom_0 9 rfl
theorem dX12_wordFrom_16 : decode cX12_wordFrom 16 = .ok (.iconst 1, 1) := okd_at mX12_wordFrom_0 10 rfl
theorem dX12_wordFrom_17 : decode cX12_wordFrom 17 = .ok (.goto 4, 3) := okd_at mX12_wordFrom_0 11 rfl
theorem dX12_wordFrom_20 : decode cX12_wordFrom 20 = .ok (.iconst 0, 1) := okd_at mX12_wordFrom_0 12 rfl
theorem dX12_wordFrom_21 : decode cX12_wordFrom 21 = .ok (.istore 4, 2) := okd_at mX12_wordFrom_0 13 rfl
theorem dX12_wordFrom_23 : decode cX12_wordFrom 23 = .ok (.iconst 0, 1) := okd_at mX12_wordFrom_0 14 rfl
theorem dX12_wordFrom_24 : decode cX12_wordFrom 24 = .ok (.istore 5, 2) := okd_at mX12_wordFrom_0 15 rfl
theorem dX12_wordFrom_26 : decode cX12_wordFrom 26 = .ok (.iload 5, 2) := okd_at mX12_wordFrom_0 16 rfl
theorem dX12_wordFrom_28 : decode cX12_wordFrom 28 = .ok (.bipush 8, 2) := okd_at mX12_wordFrom_0 17 rfl
theorem dX12_wordFrom_30 : decode cX12_wordFrom 30 = .ok (.if_icmp .ge 58, 3) := okd_at mX12_wordFrom_0 18 rfl
theorem dX12_wordFrom_33 : decode cX12_wordFrom 33 = .ok (.iload 4, 2) := okd_at mX12_wordFrom_0 19 rfl
theorem dX12_wordFrom_35 : decode cX12_wordFrom 35 = .ok (.ifCond .eq 53, 3) := okd_at mX12_wordFrom_0 20 rfl
theorem dX12_wordFrom_38 : decode cX12_wordFrom 38 = .ok (.aload_n 0, 1) := okd_at mX12_wordFrom_0 21 rfl
theorem dX12_wordFrom_39 : decode cX12_wordFrom 39 = .ok (.getfield 49, 3) := okd_at mX12_wordFrom_0 22 rfl
theorem dX12_wordFrom_42 : decode cX12_wordFrom 42 = .ok (.bipush 8, 2) := okd_at mX12_wordFrom_0 23 rfl
theorem dX12_wordFrom_44 : decode cX12_wordFrom 44 = .ok (.iload_n 3, 1) := okd_at mX12_wordFrom_0 24 rfl
theorem dX12_wordFrom_45 : decode cX12_wordFrom 45 = .ok (.imul, 1) := okd_at mX12_wordFrom_0 25 rfl
theorem dX12_wordFrom_46 : decode cX12_wordFrom 46 = .ok (.iload 5, 2) := okd_at mX12_wordFrom_0 26 rfl
theorem dX12_wordFrom_48 : decode cX12_wordFrom 48 = .ok (.iadd, 1) := okd_at mX12_wordFrom_0 27 rfl
theorem dX12_wordFrom_49 : decode cX12_wordFrom 49 = .ok (.iaload, 1) := okd_at mX12_wordFrom_0 28 rfl
theorem dX12_wordFrom_50 : decode cX12_wordFrom 50 = .ok (.iload_n 1, 1) := okd_at mX12_wordFrom_0 29 rfl
theorem dX12_wordFrom_51 : decode cX12_wordFrom 51 = .ok (.iload 5, 2) := okd_at mX12_wordFrom_0 30 rfl
theorem dX12_wordFrom_53 : decode cX12_wordFrom 53 = .ok (.iadd, 1) := okd_at mX12_wordFrom_0 31 rfl
theorem dX12_wordFrom_54 : decode cX12_wordFrom 54 = .ok (.iload_n 2, 1) := okd_at mX12_wordFrom_0 32 rfl
theorem dX12_wordFrom_55 : decode cX12_wordFrom 55 = .ok (.if_icmp .ge 15, 3) := okd_at mX12_wordFrom_0 33 rfl
theorem dX12_wordFrom_58 : decode cX12_wordFrom 58 = .ok (.aload_n 0, 1) := okd_at mX12_wordFrom_0 34 rfl
theorem dX12_wordFrom_59 : decode cX12_wordFrom 59 = .ok (.getfield 22, 3) := okd_at mX12_wordFrom_0 35 rfl
theorem dX12_wordFrom_62 : decode cX12_wordFrom 62 = .ok (.iload_n 1, 1) := okd_at mX12_wordFrom_0 36 rfl
theorem dX12_wordFrom_63 : decode cX12_wordFrom 63 = .ok (.iload 5, 2) := okd_at mX12_wordFrom_0 37 rfl
theorem dX12_wordFrom_65 : decode cX12_wordFrom 65 = .ok (.iadd, 1) := okd_at mX12_wordFrom_0 38 rfl
theorem dX12_wordFrom_66 : decode cX12_wordFrom 66 = .ok (.iaload, 1) := okd_at mX12_wordFrom_0 39 rfl
theorem dX12_wordFrom_67 : decode cX12_wordFrom 67 = .ok (.goto 5, 3) := okd_at mX12_wordFrom_0 40 rfl
theorem dX12_wordFrom_70 : decode cX12_wordFrom 70 = .ok (.bipush 32, 2) := okd_at mX12_wordFrom_0 41 rfl
theorem dX12_wordFrom_72 : decode cX12_wordFrom 72 = .ok (.if_icmp .ne 7, 3) := okd_at mX12_wordFrom_0 42 rfl
theorem dX12_wordFrom_75 : decode cX12_wordFrom 75 = .ok (.iconst 1, 1) := okd_at mX12_wordFrom_0 43 rfl
theorem dX12_wordFrom_76 : decode cX12_wordFrom 76 = .ok (.goto 4, 3) := okd_at mX12_wordFrom_0 44 rfl
theorem dX12_wordFrom_79 : decode cX12_wordFrom 79 = .ok (.iconst 0, 1) := okd_at mX12_wordFrom_0 45 rfl
theorem dX12_wordFrom_80 : decode cX12_wordFrom 80 = .ok (.istore 4, 2) := okd_at mX12_wordFrom_0 46 rfl
theorem dX12_wordFrom_82 : decode cX12_wordFrom 82 = .ok (.iinc 5 1, 3) := okd_at mX12_wordFrom_0 47 rfl
theorem dX12_wordFrom_85 : decode cX12_wordFrom 85 = .ok (.goto (-59), 3) := okd_at mX12_wordFrom_0 48 rfl
theorem dX12_wordFrom_88 : decode cX12_wordFrom 88 = .ok (.iload 4, 2) := okd_at mX12_wordFrom_0 49 rfl
theorem dX12_wordFrom_90 : decode cX12_wordFrom 90 = .ok (.ifCond .eq 5, 3) := okd_at mX12_wordFrom_0 50 rfl
theorem dX12_wordFrom_93 : decode cX12_wordFrom 93 = .ok (.iload_n 3, 1) := okd_at mX12_wordFrom_0 51 rfl
theorem dX12_wordFrom_94 : decode cX12_wordFrom 94 = .ok (.ireturn, 1) := okd_at mX12_wordFrom_0 52 rfl
theorem dX12_wordFrom_95 : decode cX12_wordFrom 95 = .ok (.iinc 3 1, 3) := okd_at mX12_wordFrom_0 53 rfl
theorem dX12_wordFrom_98 : decode cX12_wordFrom 98 = .ok (.goto (-96), 3) := okd_at mX12_wordFrom_0 54 rfl
theorem dX12_wordFrom_101 : decode cX12_wordFrom 101 = .ok (.bipush 12, 2) := okd_at mX12_wordFrom_0 55 rfl
theorem dX12_wordFrom_103 : decode cX12_wordFrom 103 = .ok (.ireturn, 1) := okd_at mX12_wordFrom_0 56 rfl
def lmX1_add_0 : List (Nat × Instr × Nat) := [(0, .aload_n 0, 1), (1, .getfield 21, 3), (4, .bipush 8, 2), (6, .if_icmp .lt 6, 3), (9, .bipush (-4), 2), (11, .ireturn, 1), (12, .aload_n 0, 1), (13, .getfield 9, 3), (16, .aload_n 0, 1), (17, .getfield 21, 3), (20, .iload_n 1, 1), (21, .invokestatic 25, 3), (24, .aload_n 0, 1), (25, .getfield 15, 3), (28, .aload_n 0, 1), (29, .getfield 21, 3), (32, .iload_n 2, 1), (33, .invokestatic 25, 3), (36, .aload_n 0, 1), (37, .getfield 18, 3), (40, .aload_n 0, 1), (41, .getfield 21, 3), (44, .iconst 0, 1), (45, .invokestatic 25, 3), (48, .aload_n 0, 1), (49, .dup, 1), (50, .getfield 21, 3), (53, .dup_x1, 1), (54, .iconst 1, 1), (55, .iadd, 1), (56, .putfield 21, 3), (59, .ireturn, 1)]
theorem mX1_add_0 : okd cX1_add lmX1_add_0 = true := by decide +kernel
theorem dX1_add_0 : decode cX1_add 0 = .ok (.aload_n 0, 1) := okd_at mX1_add_0 0 rfl
theorem dX1_add_1 : decode cX1_add 1 = .ok (.getfield 21, 3) := okd_at mX1_add_0 1 rfl
theorem dX1_add_4 : decode cX1_add 4 = .ok (.bipush 8, 2) := okd_at mX1_add_0 2 rfl
theorem dX1_add_6 : decode cX1_add 6 = .ok (.if_icmp .lt 6, 3) := okd_at mX1_add_0 3 rfl
theorem dX1_add_9 : decode cX1_add 9 = .ok (.bipush (-4), 2) := okd_at mX1_add_0 4 rfl
theorem dX1_add_11 : decode cX1_add 11 = .ok (.ireturn, 1) := okd_at mX1_add_0 5 rfl
theorem dX1_add_12 : decode cX1_add 12 = .ok (.aload_n 0, 1) := okd_at mX1_add_0 6 rfl
theorem dX1_add_13 : decode cX1_add 13 = .ok (.getfield 9, 3) := okd_at mX1_add_0 7 rfl
theorem dX1_add_16 : decode cX1_add 16 = .ok (.aload_n 0, 1) := okd_at mX1_add_0 8 rfl
theorem dX1_add_17 : decode cX1_add 17 = .ok (.getfield 21, 3) := okd_at mX1_add_0 9 rfl
theorem dX1_add_20 : decode cX1_add 20 = .ok (.iload_n 1, 1) := okd_at mX1_add_0 10 rfl
theorem dX1_add_21 : decode cX1_add 21 = .ok (.invokestatic 25, 3) := okd_at mX1_add_0 11 rfl
theorem dX1_add_24 : decode cX1_add 24 = .ok (.aload_n 0, 1) := okd_at mX1_add_0 12 rfl
theorem dX1_add_25 : decode cX1_add 25 = .ok (.getfield 15, 3) := okd_at mX1_add_0 13 rfl
theorem dX1_add_28 : decode cX1_add 28 = .ok (.aload_n 0, 1) := okd_at mX1_add_0 14 rfl
theorem dX1_add_29 : decode cX1_add 29 = .ok (.getfield 21, 3) := okd_at mX1_add_0 15 rfl
theorem dX1_add_32 : decode cX1_add 32 = .ok (.iload_n 2, 1) := okd_at mX1_add_0 16 rfl
theorem dX1_add_33 : decode cX1_add 33 = .ok (.invokestatic 25, 3) := okd_at mX1_add_0 17 rfl
theorem dX1_add_36 : decode cX1_add 36 = .ok (.aload_n 0, 1) := okd_at mX1_add_0 18 rfl
theorem dX1_add_37 : decode cX1_add 37 = .ok (.getfield 18, 3) := okd_at mX1_add_0 19 rfl
theorem dX1_add_40 : decode cX1_add 40 = .ok (.aload_n 0, 1) := okd_at mX1_add_0 20 rfl
theorem dX1_add_41 : decode cX1_add 41 = .ok (.getfield 21, 3) := okd_at mX1_add_0 21 rfl
theorem dX1_add_44 : decode cX1_add 44 = .ok (.iconst 0, 1) := okd_at mX1_add_0 22 rfl
theorem dX1_add_45 : decode cX1_add 45 = .ok (.invokestatic 25, 3) := okd_at mX1_add_0 23 rfl
theorem dX1_add_48 : decode cX1_add 48 = .ok (.aload_n 0, 1) := okd_at mX1_add_0 24 rfl
theorem dX1_add_49 : decode cX1_add 49 = .ok (.dup, 1) := okd_at mX1_add_0 25 rfl
theorem dX1_add_50 : decode cX1_add 50 = .ok (.getfield 21, 3) := okd_at mX1_add_0 26 rfl
theorem dX1_add_53 : decode cX1_add 53 = .ok (.dup_x1, 1) := okd_at mX1_add_0 27 rfl
theorem dX1_add_54 : decode cX1_add 54 = .ok (.iconst 1, 1) := okd_at mX1_add_0 28 rfl
theorem dX1_add_55 : decode cX1_add 55 = .ok (.iadd, 1) := okd_at mX1_add_0 29 rfl
theorem dX1_add_56 : decode cX1_add 56 = .ok (.putfield 21, 3) := okd_at mX1_add_0 30 rfl
theorem dX1_add_59 : decode cX1_add 59 = .ok (.ireturn, 1) := okd_at mX1_add_0 31 rfl
def lmX1_become_0 : List (Nat × Instr × Nat) := [(0, .aload_n 1, 1), (1, .getfield 9, 3), (4, .aload_n 0, 1), (5, .getfield 9, 3), (8, .invokestatic 29, 3), (11, .aload_n 1, 1), (12, .getfield 15, 3), (15, .aload_n 0, 1), (16, .getfield 15, 3), (19, .invokestatic 29, 3), (22, .aload_n 1, 1), (23, .getfield 18, 3), (26, .aload_n 0, 1), (27, .getfield 18, 3), (30, .invokestatic 29, 3), (33, .aload_n 0, 1), (34, .aload_n 1, 1), (35, .getfield 21, 3), (38, .putfield 21, 3), (41, .return_, 1)]
theorem mX1_become_0 : okd cX1_become lmX1_become_0 = true := by decide +kernel
theorem dX1_become_0 : decode cX1_become 0 = .ok (.aload_n 1, 1) := okd_at mX1_become_0 0 rfl
theorem dX1_become_1 : decode cX1_become 1 = .ok (.getfield 9, 3) := okd_at mX1_become_0 1 rfl
theorem dX1_become_4 : decode cX1_become 4 = .ok (.aload_n 0, 1) := okd_at mX1_become_0 2 rfl
theorem dX1_become_5 : decode cX1_become 5 = .ok (.getfield 9, 3) := okd_at mX1_become_0 3 rfl
theorem dX1_become_8 : decode cX1_become 8 = .ok (.invokestatic 29, 3) := okd_at mX1_become_0 4 rfl
theorem dX1_become_11 : decode cX1_become 11 = .ok (.aload_n 1, 1) := okd_at mX1_become_0 5 rfl
theorem dX1_become_12 : decode cX1_become 12 = .ok (.getfield 15, 3) := okd_at mX1_become_0 6 rfl
theorem dX1_become_15 : decode cX1_become 15 = .ok (.aload_n 0, 1) := okd_at mX1_become_0 7 rfl
theorem dX1_become_16 : decode cX1_become 16 = .ok (.getfield 15, 3) := okd_at mX1_become_0 8 rfl
theorem dX1_become_19 : decode cX1_become 19 = .ok (.invokestatic 29, 3) := okd_at mX1_become_0 9 rfl
theorem dX1_become_22 : decode cX1_become 22 = .ok (.aload_n 1, 1) := okd_at mX1_become_0 10 rfl
theorem dX1_become_23 : decode cX1_become 23 = .ok (.getfield 18, 3) := okd_at mX1_become_0 11 rfl
theorem dX1_become_26 : decode cX1_become 26 = .ok (.aload_n 0, 1) := okd_at mX1_become_0 12 rfl
theorem dX1_become_27 : decode cX1_become 27 = .ok (.getfield 18, 3) := okd_at mX1_become_0 13 rfl
theorem dX1_become_30 : decode cX1_become 30 = .ok (.invokestatic 29, 3) := okd_at mX1_become_0 14 rfl
theorem dX1_become_33 : decode cX1_become 33 = .ok (.aload_n 0, 1) := okd_at mX1_become_0 15 rfl
theorem dX1_become_34 : decode cX1_become 34 = .ok (.aload_n 1, 1) := okd_at mX1_become_0 16 rfl
theorem dX1_become_35 : decode cX1_become 35 = .ok (.getfield 21, 3) := okd_at mX1_become_0 17 rfl
theorem dX1_become_38 : decode cX1_become 38 = .ok (.putfield 21, 3) := okd_at mX1_become_0 18 rfl
theorem dX1_become_41 : decode cX1_become 41 = .ok (.return_, 1) := okd_at mX1_become_0 19 rfl
def lmX1_row_0 : List (Nat × Instr × Nat) := [(0, .iload_n 1, 1), (1, .ifCond .ne 10, 3), (4, .aload_n 0, 1), (5, .getfield 9, 3), (8, .goto 19, 3), (11, .iload_n 1, 1), (12, .iconst 1, 1), (13, .if_icmp .ne 10, 3), (16, .aload_n 0, 1), (17, .getfield 15, 3), (20, .goto 7, 3), (23, .aload_n 0, 1), (24, .getfield 18, 3), (27, .areturn, 1)]
theorem mX1_row_0 : okd cX1_row lmX1_row_0 = true := by decide +kernel
theorem dX1_row_0 : decode cX1_row 0 = .ok (.iload_n 1, 1) := okd_at mX1_row_0 0 rfl
theorem dX1_row_1 : decode cX1_row 1 = .ok (.ifCond .ne 10, 3) := okd_at mX1_row_0 1 rfl
theorem dX1_row_4 : decode cX1_row 4 = .ok (.aload_n 0, 1) := okd_at mX1_row_0 2 rfl
theorem dX1_row_5 : decode cX1_row 5 = .ok (.getfield 9, 3) := okd_at mX1_row_0 3 rfl
theorem dX1_row_8 : decode cX1_row 8 = .ok (.goto 19, 3) := okd_at mX1_row_0 4 rfl
theorem dX1_row_11 : decode cX1_row 11 = .ok (.iload_n 1, 1) := okd_at mX1_row_0 5 rfl
theorem dX1_row_12 : decode cX1_row 12 = .ok (.iconst 1, 1) := okd_at mX1_row_0 6 rfl
theorem dX1_row_13 : decode cX1_row 13 = .ok (.if_icmp .ne 10, 3) := okd_at mX1_row_0 7 rfl
theorem dX1_row_16 : decode cX1_row 16 = .ok (.aload_n 0, 1) := okd_at mX1_row_0 8 rfl
theorem dX1_row_17 : decode cX1_row 17 = .ok (.getfield 15, 3) := okd_at mX1_row_0 9 rfl
theorem dX1_row_20 : decode cX1_row 20 = .ok (.goto 7, 3) := okd_at mX1_row_0 10 rfl
theorem dX1_row_23 : decode cX1_row 23 = .ok (.aload_n 0, 1) := okd_at mX1_row_0 11 rfl
theorem dX1_row_24 : decode cX1_row 24 = .ok (.getfield 18, 3) := okd_at mX1_row_0 12 rfl
theorem dX1_row_27 : decode cX1_row 27 = .ok (.areturn, 1) := okd_at mX1_row_0 13 rfl
def lmX2_begin_0 : List (Nat × Instr × Nat) := [(0, .aload_n 0, 1), (1, .iconst 0, 1), (2, .putfield 65, 3), (5, .aload_n 0, 1), (6, .iconst 0, 1), (7, .putfield 68, 3), (10, .iconst 0, 1), (11, .istore_n 1, 1), (12, .iload_n 1, 1), (13, .aload_n 0, 1), (14, .getfield 9, 3), (17, .arraylength, 1), (18, .if_icmp .ge 16, 3), (21, .aload_n 0, 1), (22, .getfield 9, 3), (25, .iload_n 1, 1), (26, .iconst 0, 1), (27, .iastore, 1), (28, .iinc 1 1, 3), (31, .goto (-19), 3), (34, .return_, 1)]
theorem mX2_begin_0 : okd cX2_begin lmX2_begin_0 = true := by decide +kernel
theorem dX2_begin_0 : decode cX2_begin 0 = .ok (.aload_n 0, 1) := okd_at mX2_begin_0 0 rfl
theorem dX2_begin_1 : decode cX2_begin 1 = .ok (.iconst 0, 1) := okd_at mX2_begin_0 1 rfl
theorem dX2_begin_2 : decode cX2_begin 2 = .ok (.putfield 65, 3) := okd_at mX2_begin_0 2 rfl
theorem dX2_begin_5 : decode cX2_begin 5 = .ok (.aload_n 0, 1) := okd_at mX2_begin_0 3 rfl
theorem dX2_begin_6 : decode cX2_begin 6 = .ok (.iconst 0, 1) := okd_at mX2_begin_0 4 rfl
theorem dX2_begin_7 : decode cX2_begin 7 = .ok (.putfield 68, 3) := okd_at mX2_begin_0 5 rfl
theorem dX2_begin_10 : decode cX2_begin 10 = .ok (.iconst 0, 1) := okd_at mX2_begin_0 6 rfl
theorem dX2_begin_11 : decode cX2_begin 11 = .ok (.istore_n 1, 1) := okd_at mX2_begin_0 7 rfl
theorem dX2_begin_12 : decode cX2_begin 12 = .ok (.iload_n 1, 1) := okd_at mX2_begin_0 8 rfl
theorem dX2_begin_13 : decode cX2_begin 13 = .ok (.aload_n 0, 1) := okd_at mX2_begin_0 9 rfl
theorem dX2_begin_14 : decode cX2_begin 14 = .ok (.getfield 9, 3) := okd_at mX2_begin_0 10 rfl
theorem dX2_begin_17 : decode cX2_begin 17 = .ok (.arraylength, 1) := okd_at mX2_begin_0 11 rfl
theorem dX2_begin_18 : decode cX2_begin 18 = .ok (.if_icmp .ge 16, 3) := okd_at mX2_begin_0 12 rfl
theorem dX2_begin_21 : decode cX2_begin 21 = .ok (.aload_n 0, 1) := okd_at mX2_begin_0 13 rfl
theorem dX2_begin_22 : decode cX2_begin 22 = .ok (.getfield 9, 3) := okd_at mX2_begin_0 14 rfl
theorem dX2_begin_25 : decode cX2_begin 25 = .ok (.iload_n 1, 1) := okd_at mX2_begin_0 15 rfl
theorem dX2_begin_26 : decode cX2_begin 26 = .ok (.iconst 0, 1) := okd_at mX2_begin_0 16 rfl
theorem dX2_begin_27 : decode cX2_begin 27 = .ok (.iastore, 1) := okd_at mX2_begin_0 17 rfl
theorem dX2_begin_28 : decode cX2_begin 28 = .ok (.iinc 1 1, 3) := okd_at mX2_begin_0 18 rfl
theorem dX2_begin_31 : decode cX2_begin 31 = .ok (.goto (-19), 3) := okd_at mX2_begin_0 19 rfl
theorem dX2_begin_34 : decode cX2_begin 34 = .ok (.return_, 1) := okd_at mX2_begin_0 20 rfl
def lmX2_comesBehind_0 : List (Nat × Instr × Nat) := [(0, .iload_n 1, 1), (1, .istore 4, 2), (3, .iload_n 1, 1), (4, .istore 5, 2), (6, .iload 5, 2), (8, .ifCond .le 70, 3), (11, .aload_n 0, 1), (12, .getfield 21, 3), (15, .iload 5, 2), (17, .iconst 1, 1), (18, .isub, 1), (19, .invokestatic 74, 3), (22, .iload_n 3, 1), (23, .if_icmp .ge 55, 3), (26, .aload_n 0, 1), (27, .getfield 21, 3), (30, .iload 5, 2), (32, .aload_n 0, 1), (33, .getfield 21, 3), (36, .iload 5, 2), (38, .iconst 1, 1), (39, .isub, 1), (40, .invokestatic 74, 3), (43, .invokestatic 96, 3), (46, .aload_n 0, 1), (47, .getfield 15, 3), (50, .iload 5, 2), (52, .aload_n 0, 1), (53, .getfield 15, 3), (56, .iload 5, 2), (58, .iconst 1, 1), (59, .isub, 1), (60, .invokestatic 74, 3), (63, .invokestatic 96, 3), (66, .iload 5, 2), (68, .iconst 1, 1), (69, .isub, 1), (70, .istore 4, 2), (72, .iinc 5 (-1), 3), (75, .goto (-69), 3), (78, .aload_n 0, 1), (79, .getfield 21, 3), (82, .iload 4, 2), (84, .iload_n 3, 1), (85, .invokestatic 96, 3), (88, .aload_n 0, 1), (89, .getfield 15, 3), (92, .iload 4, 2), (94, .iload_n 2, 1), (95, .invokestatic 96, 3), (98, .return_, 1)]
theorem mX2_comesBehind_0 : okd cX2_comesBehind lmX2_comesBehind_0 = true := by decide +kernel
theorem dX2_comesBehind_0 : decode cX2_comesBehind 0 = .ok (.iload_n 1, 1) := okd_at mX2_comesBehind_0 0 rfl
theorem dX2_comesBehind_1 : decode cX2_comesBehind 1 = .ok (.istore 4, 2) := okd_at mX2_comesBehind_0 1 rfl
theorem dX2_comesBehind_3 : decode cX2_comesBehind 3 = .ok (.iload_n 1, 1) := okd_at mX2_comesBehind_0 2 rfl
theorem dX2_comesBehind_4 : decode cX2_comesBehind 4 = .ok (.istore 5, 2) := okd_at mX2_comesBehind_0 3 rfl
theorem dX2_comesBehind_6 : decode cX2_comesBehind 6 = .ok (.iload 5, 2) := okd_at mX2_comesBehind_0 4 rfl
theorem dX2_comesBehind_8 : decode cX2_comesBehind 8 = .ok (.ifCond .le 70, 3) := okd_at mX2_comesBehind_0 5 rfl
theorem dX2_comesBehind_11 : decode cX2_comesBehind 11 = .ok (.aload_n 0, 1) := okd_at mX2_comesBehind_0 6 rfl
theorem dX2_comesBehind_12 : decode cX2_comesBehind 12 = .ok (.getfield 21, 3) := okd_at mX2_comesBehind_0 7 rfl
theorem dX2_comesBehind_15 : decode cX2_comesBehind 15 = .ok (.iload 5, 2) := okd_at mX2_comesBehind_0 8 rfl
theorem dX2_comesBehind_17 : decode cX2_comesBehind 17 = .ok (.iconst 1, 1) := okd_at mX2_comesBehind_0 9 rfl
theorem dX2_comesBehind_18 : decode cX2_comesBehind 18 = .ok (.isub, 1) := okd_at mX2_comesBehind_0 10 rfl
theorem dX2_comesBehind_19 : decode cX2_comesBehind 19 = .ok (.invokestatic 74, 3) := okd_at mX2_comesBehind_0 11 rfl
theorem dX2_comesBehind_22 : decode cX2_comesBehind 22 = .ok (.iload_n 3, 1) := okd_at mX2_comesBehind_0 12 rfl
theorem dX2_comesBehind_23 : decode cX2_comesBehind 23 = .ok (.if_icmp .ge 55, 3) := okd_at mX2_comesBehind_0 13 rfl
theorem dX2_comesBehind_26 : decode cX2_comesBehind 26 = .ok (.aload_n 0, 1) := okd_at mX2_comesBehind_0 14 rfl
theorem dX2_comesBehind_27 : decode cX2_comesBehind 27 = .ok (.getfield 21, 3) := okd_at mX2_comesBehind_0 15 rfl
theorem dX2_comesBehind_30 : decode cX2_comesBehind 30 = .ok (.iload 5, 2) := okd_at mX2_comesBehind_0 16 rfl
theorem dX2_comesBehind_32 : decode cX2_comesBehind 32 = .ok (.aload_n 0, 1) := okd_at mX2_comesBehind_0 17 rfl
theorem dX2_comesBehind_33 : decode cX2_comesBehind 33 = .ok (.getfield 21, 3) := okd_at mX2_comesBehind_0 18 rfl
theorem dX2_comesBehind_36 : decode cX2_comesBehind 36 = .ok (.iload 5, 2) := okd_at mX2_comesBehind_0 19 rfl
theorem dX2_comesBehind_38 : decode cX2_comesBehind 38 = .ok (.iconst 1, 1) := okd_at mX2_comesBehind_0 20 rfl
theorem dX2_comesBehind_39 : decode cX2_comesBehind 39 = .ok (.isub, 1) := okd_at mX2_comesBehind_0 21 rfl
theorem dX2_comesBehind_40 : decode cX2_comesBehind 40 = .ok (.invokestatic 74, 3) := okd_at mX2_comesBehind_0 22 rfl
theorem dX2_comesBehind_43 : decode cX2_comesBehind 43 = .ok (.invokestatic 96, 3) := okd_at mX2_comesBehind_0 23 rfl
theorem dX2_comesBehind_46 : decode cX2_comesBehind 46 = .ok (.aload_n 0, 1) := okd_at mX2_comesBehind_0 24 rfl
theorem dX2_comesBehind_47 : decode cX2_comesBehind 47 = .ok (.getfield 15, 3) := okd_at mX2_comesBehind_0 25 rfl
theorem dX2_comesBehind_50 : decode cX2_comesBehind 50 = .ok (.iload 5, 2) := okd_at mX2_comesBehind_0 26 rfl
theorem dX2_comesBehind_52 : decode cX2_comesBehind 52 = .ok (.aload_n 0, 1) := okd_at mX2_comesBehind_0 27 rfl
theorem dX2_comesBehind_53 : decode cX2_comesBehind 53 = .ok (.getfield 15, 3) := okd_at mX2_comesBehind_0 28 rfl
theorem dX2_comesBehind_56 : decode cX2_comesBehind 56 = .ok (.iload 5, 2) := okd_at mX2_comesBehind_0 29 rfl
theorem dX2_comesBehind_58 : decode cX2_comesBehind 58 = .ok (.iconst 1, 1) := okd_at mX2_comesBehind_0 30 rfl
theorem dX2_comesBehind_59 : decode cX2_comesBehind 59 = .ok (.isub, 1) := okd_at mX2_comesBehind_0 31 rfl
theorem dX2_comesBehind_60 : decode cX2_comesBehind 60 = .ok (.invokestatic 74, 3) := okd_at mX2_comesBehind_0 32 rfl
theorem dX2_comesBehind_63 : decode cX2_comesBehind 63 = .ok (.invokestatic 96, 3) := okd_at mX2_comesBehind_0 33 rfl
theorem dX2_comesBehind_66 : decode cX2_comesBehind 66 = .ok (.iload 5, 2) := okd_at mX2_comesBehind_0 34 rfl
theorem dX2_comesBehind_68 : decode cX2_comesBehind 68 = .ok (.iconst 1, 1) := okd_at mX2_comesBehind_0 35 rfl
theorem dX2_comesBehind_69 : decode cX2_comesBehind 69 = .ok (.isub, 1) := okd_at mX2_comesBehind_0 36 rfl
theorem dX2_comesBehind_70 : decode cX2_comesBehind 70 = .ok (.istore 4, 2) := okd_at mX2_comesBehind_0 37 rfl
theorem dX2_comesBehind_72 : decode cX2_comesBehind 72 = .ok (.iinc 5 (-1), 3) := okd_at mX2_comesBehind_0 38 rfl
theorem dX2_comesBehind_75 : decode cX2_comesBehind 75 = .ok (.goto (-69), 3) := okd_at mX2_comesBehind_0 39 rfl
theorem dX2_comesBehind_78 : decode cX2_comesBehind 78 = .ok (.aload_n 0, 1) := okd_at mX2_comesBehind_0 40 rfl
theorem dX2_comesBehind_79 : decode cX2_comesBehind 79 = .ok (.getfield 21, 3) := okd_at mX2_comesBehind_0 41 rfl
theorem dX2_comesBehind_82 : decode cX2_comesBehind 82 = .ok (.iload 4, 2) := okd_at mX2_comesBehind_0 42 rfl
theorem dX2_comesBehind_84 : decode cX2_comesBehind 84 = .ok (.iload_n 3, 1) := okd_at mX2_comesBehind_0 43 rfl
theorem dX2_comesBehind_85 : decode cX2_comesBehind 85 = .ok (.invokestatic 96, 3) := okd_at mX2_comesBehind_0 44 rfl
theorem dX2_comesBehind_88 : decode cX2_comesBehind 88 = .ok (.aload_n 0, 1) := okd_at mX2_comesBehind_0 45 rfl
theorem dX2_comesBehind_89 : decode cX2_comesBehind 89 = .ok (.getfield 15, 3) := okd_at mX2_comesBehind_0 46 rfl
theorem dX2_comesBehind_92 : decode cX2_comesBehind 92 = .ok (.iload 4, 2) := okd_at mX2_comesBehind_0 47 rfl
theorem dX2_comesBehind_94 : decode cX2_comesBehind 94 = .ok (.iload_n 2, 1) := okd_at mX2_comesBehind_0 48 rfl
theorem dX2_comesBehind_95 : decode cX2_comesBehind 95 = .ok (.invokestatic 96, 3) := okd_at mX2_comesBehind_0 49 rfl
theorem dX2_comesBehind_98 : decode cX2_comesBehind 98 = .ok (.return_, 1) := okd_at mX2_comesBehind_0 50 rfl
def lmX2_end_0 : List (Nat × Instr × Nat) := [(0, .aload_n 0, 1), (1, .iconst 0, 1), (2, .putfield 100, 3), (5, .aload_n 0, 1), (6, .iconst 0, 1), (7, .putfield 103, 3), (10, .iconst 0, 1), (11, .istore_n 1, 1), (12, .iload_n 1, 1), (13, .aload_n 0, 1), (14, .getfield 29, 3), (17, .getfield 106, 3), (20, .if_icmp .ge 59, 3), (23, .aload_n 0, 1), (24, .getfield 9, 3), (27, .iload_n 1, 1), (28, .invokestatic 74, 3), (31, .ifCond .ne 42, 3), (34, .aload_n 0, 1), (35, .dup, 1), (36, .getfield 65, 3), (39, .aload_n 0, 1), (40, .iconst 2, 1), (41, .iload_n 1, 1), (42, .iconst (-1), 1), (43, .iconst 0, 1), (44, .invokevirtual 92, 3), (47, .iadd, 1), (48, .putfield 65, 3), (51, .aload_n 0, 1), (52, .dup, 1), (53, .getfield 100, 3), (56, .iconst 1, 1), (57, .iadd, 1), (58, .putfield 100, 3), (61, .aload_n 0, 1), (62, .dup, 1), (63, .getfield 103, 3), (66, .iconst 1, 1), (67, .iload_n 1, 1), (68, .ishl, 1), (69, .ior, 1), (70, .putfield 103, 3), (73, .iinc 1 1, 3), (76, .goto (-64), 3), (79, .return_, 1)]
theorem mX2_end_0 : okd cX2_end lmX2_end_0 = true := by decide +kernel
theorem dX2_end_0 : decode cX2_end 0 = .ok (.aload_n 0, 1) := okd_at mX2_end_0 0 rfl
theorem dX2_end_1 : decode cX2_end 1 = .ok (.iconst 0, 1) := okd_at mX2_end_0 1 rfl
theorem dX2_end_2 : decode cX2_end 2 = .ok (.putfield 100, 3) := okd_at mX2_end_0 2 rfl
theorem dX2_end_5 : decode cX2_end 5 = .ok (.aload_n 0, 1) := okd_at mX2_end_0 3 rfl
theorem dX2_end_6 : decode cX2_end 6 = .ok (.iconst 0, 1) := okd_at mX2_end_0 4 rfl
theorem dX2_end_7 : decode cX2_end 7 = .ok (.putfield 103, 3) := okd_at mX2_end_0 5 rfl
theorem dX2_end_10 : decode cX2_end 10 = .ok (.iconst 0, 1) := okd_at mX2_end_0 6 rfl
theorem dX2_end_11 : decode cX2_end 11 = .ok (.istore_n 1, 1) := okd_at mX2_end_0 7 rfl
theorem dX2_end_12 : decode cX2_end 12 = .ok (.iload_n 1, 1) := okd_at mX2_end_0 8 rfl
theorem dX2_end_13 : decode cX2_end 13 = .ok (.aload_n 0, 1) := okd_at mX2_end_0 9 rfl
theorem dX2_end_14 : decode cX2_end 14 = .ok (.getfield 29, 3) := okd_at mX2_end_0 10 rfl
theorem dX2_end_17 : decode cX2_end 17 = .ok (.getfield 106, 3) := okd_at mX2_end_0 11 rfl
theorem dX2_end_20 : decode cX2_end 20 = .ok (.if_icmp .ge 59, 3) := okd_at mX2_end_0 12 rfl
theorem dX2_end_23 : decode cX2_end 23 = .ok (.aload_n 0, 1) := okd_at mX2_end_0 13 rfl
theorem dX2_end_24 : decode cX2_end 24 = .ok (.getfield 9, 3) := okd_at mX2_end_0 14 rfl
theorem dX2_end_27 : decode cX2_end 27 = .ok (.iload_n 1, 1) := okd_at mX2_end_0 15 rfl
theorem dX2_end_28 : decode cX2_end 28 = .ok (.invokestatic 74, 3) := okd_at mX2_end_0 16 rfl
theorem dX2_end_31 : decode cX2_end 31 = .ok (.ifCond .ne 42, 3) := okd_at mX2_end_0 17 rfl
theorem dX2_end_34 : decode cX2_end 34 = .ok (.aload_n 0, 1) := okd_at mX2_end_0 18 rfl
theorem dX2_end_35 : decode cX2_end 35 = .ok (.dup, 1) := okd_at mX2_end_0 19 rfl
theorem dX2_end_36 : decode cX2_end 36 = .ok (.getfield 65, 3) := okd_at mX2_end_0 20 rfl
theorem dX2_end_39 : decode cX2_end 39 = .ok (.aload_n 0, 1) := okd_at mX2_end_0 21 rfl
theorem dX2_end_40 : decode cX2_end 40 = .ok (.iconst 2, 1) := okd_at mX2_end_0 22 rfl
theorem dX2_end_41 : decode cX2_end 41 = .ok (.iload_n 1, 1) := okd_at mX2_end_0 23 rfl
theorem dX2_end_42 : decode cX2_end 42 = .ok (.iconst (-1), 1) := okd_at mX2_end_0 24 rfl
theorem dX2_end_43 : decode cX2_end 43 = .ok (.iconst 0, 1) := okd_at mX2_end_0 25 rfl
theorem dX2_end_44 : decode cX2_end 44 = .ok (.invokevirtual 92, 3) := okd_at mX2_end_0 26 rfl
theorem dX2_end_47 : decode cX2_end 47 = .ok (.iadd, 1) := okd_at mX2_end_0 27 rfl
theorem dX2_end_48 : decode cX2_end 48 = .ok (.putfield 65, 3) := okd_at mX2_end_0 28 rfl
theorem dX2_end_51 : decode cX2_end 51 = .ok (.aload_n 0, 1) := okd_at mX2_end_0 29 rfl
theorem dX2_end_52 : decode cX2_end 52 = .ok (.dup, 1) := okd_at mX2_end_0 30 rfl
theorem dX2_end_53 : decode cX2_end 53 = .ok (.getfield 100, 3) := okd_at mX2_end_0 31 rfl
theorem dX2_end_56 : decode cX2_end 56 = .ok (.iconst 1, 1) := okd_at mX2_end_0 32 rfl
theorem dX2_end_57 : decode cX2_end 57 = .ok (.iadd, 1) := okd_at mX2_end_0 33 rfl
theorem dX2_end_58 : decode cX2_end 58 = .ok (.putfield 100, 3) := okd_at mX2_end_0 34 rfl
theorem dX2_end_61 : decode cX2_end 61 = .ok (.aload_n 0, 1) := okd_at mX2_end_0 35 rfl
theorem dX2_end_62 : decode cX2_end 62 = .ok (.dup, 1) := okd_at mX2_end_0 36 rfl
theorem dX2_end_63 : decode cX2_end 63 = .ok (.getfield 103, 3) := okd_at mX2_end_0 37 rfl
theorem dX2_end_66 : decode cX2_end 66 = .ok (.iconst 1, 1) := okd_at mX2_end_0 38 rfl
theorem dX2_end_67 : decode cX2_end 67 = .ok (.iload_n 1, 1) := okd_at mX2_end_0 39 rfl
theorem dX2_end_68 : decode cX2_end 68 = .ok (.ishl, 1) := okd_at mX2_end_0 40 rfl
theorem dX2_end_69 : decode cX2_end 69 = .ok (.ior, 1) := okd_at mX2_end_0 41 rfl
theorem dX2_end_70 : decode cX2_end 70 = .ok (.putfield 103, 3) := okd_at mX2_end_0 42 rfl
theorem dX2_end_73 : decode cX2_end 73 = .ok (.iinc 1 1, 3) := okd_at mX2_end_0 43 rfl
theorem dX2_end_76 : decode cX2_end 76 = .ok (.goto (-64), 3) := okd_at mX2_end_0 44 rfl
theorem dX2_end_79 : decode cX2_end 79 = .ok (.return_, 1) := okd_at mX2_end_0 45 rfl
def lmX2_giveRibbons_0 : List (Nat × Instr × Nat) := [(0, .iload_n 2, 1), (1, .aload_n 0, 1), (2, .getfield 33, 3), (5, .getfield 71, 3), (8, .iload_n 1, 1), (9, .invokestatic 74, 3), (12, .aload_n 0, 1), (13, .getfield 33, 3), (16, .getfield 78, 3), (19, .iload_n 1, 1), (20, .invokestatic 74, 3), (23, .iload_n 2, 1), (24, .invokestatic 80, 3), (27, .invokestatic 86, 3), (30, .istore_n 3, 1), (31, .iconst 0, 1), (32, .istore 4, 2), (34, .iconst 0, 1), (35, .istore 5, 2), (37, .iload 5, 2), (39, .iload_n 3, 1), (40, .if_icmp .ge 82, 3), (43, .aload_n 0, 1), (44, .getfield 15, 3), (47, .iload 5, 2), (49, .invokestatic 74, 3), (52, .istore 6, 2), (54, .aload_n 0, 1), (55, .getfield 9, 3), (58, .iload 6, 2), (60, .invokestatic 74, 3), (63, .istore 7, 2), (65, .aload_n 0, 1), (66, .dup, 1), (67, .getfield 65, 3), (70, .aload_n 0, 1), (71, .iconst 1, 1), (72, .iload 6, 2), (74, .iload_n 1, 1), (75, .iload 7, 2), (77, .invokevirtual 92, 3), (80, .iadd, 1), (81, .putfield 65, 3), (84, .aload_n 0, 1), (85, .getfield 9, 3), (88, .iload 6, 2), (90, .iload 7, 2), (92, .iconst 1, 1), (93, .iadd, 1), (94, .invokestatic 96, 3), (97, .iload 4, 2), (99, .iconst 1, 1), (100, .iload 6, 2), (102, .ishl, 1), (103, .ior, 1), (104, .istore 4, 2), (106, .aload_n 0, 1), (107, .dup, 1), (108, .getfield 68, 3), (111, .iconst 1, 1)]
theorem mX2_giveRibbons_0 : okd cX2_giveRibbons lmX2_giveRibbons_0 = true := by decide +kernel
theorem dX2_giveRibbons_0 : decode cX2_giveRibbons 0 = .ok (.iload_n 2, 1) := okd_at mX2_giveRibbons_0 0 rfl
theorem dX2_giveRibbons_1 : decode cX2_giveRibbons 1 = .ok (.aload_n 0, 1) := okd_at mX2_giveRibbons_0 1 rfl
theorem dX2_giveRibbons_2 : decode cX2_giveRibbons 2 = .ok (.getfield 33, 3) := okd_at mX2_giveRibbons_0 2 rfl
theorem dX2_giveRibbons_5 : decode cX2_giveRibbons 5 = .ok (.getfield 71, 3) := okd_at mX2_giveRibbons_0 3 rfl
theorem dX2_giveRibbons_8 : decode cX2_giveRibbons 8 = .ok (.iload_n 1, 1) := okd_at mX2_giveRibbons_0 4 rfl
theorem dX2_giveRibbons_9 : decode cX2_giveRibbons 9 = .ok (.invokestatic 74, 3) := okd_at mX2_giveRibbons_0 5 rfl
theorem dX2_giveRibbons_12 : decode cX2_giveRibbons 12 = .ok (.aload_n 0, 1) := okd_at mX2_giveRibbons_0 6 rfl
theorem dX2_giveRibbons_13 : decode cX2_giveRibbons 13 = .ok (.getfield 33, 3) := okd_at mX2_giveRibbons_0 7 rfl
theorem dX2_giveRibbons_16 : decode cX2_giveRibbons 16 = .ok (.getfield 78, 3) := okd_at mX2_giveRibbons_0 8 rfl
theorem dX2_giveRibbons_19 : decode cX2_giveRibbons 19 = .ok (.iload_n 1, 1) := okd_at mX2_giveRibbons_0 9 rfl
theorem dX2_giveRibbons_20 : decode cX2_giveRibbons 20 = .ok (.invokestatic 74, 3) := okd_at mX2_giveRibbons_0 10 rfl
theorem dX2_giveRibbons_23 : decode cX2_giveRibbons 23 = .ok (.iload_n 2, 1) := okd_at mX2_giveRibbons_0 11 rfl
theorem dX2_giveRibbons_24 : decode cX2_giveRibbons 24 = .ok (.invokestatic 80, 3) := okd_at mX2_giveRibbons_0 12 rfl
theorem dX2_giveRibbons_27 : decode cX2_giveRibbons 27 = .ok (.invokestatic 86, 3) := okd_at mX2_giveRibbons_0 13 rfl
theorem dX2_giveRibbons_30 : decode cX2_giveRibbons 30 = .ok (.istore_n 3, 1) := okd_at mX2_giveRibbons_0 14 rfl
theorem dX2_giveRibbons_31 : decode cX2_giveRibbons 31 = .ok (.iconst 0, 1) := okd_at mX2_giveRibbons_0 15 rfl
theorem dX2_giveRibbons_32 : decode cX2_giveRibbons 32 = .ok (.istore 4, 2) := okd_at mX2_giveRibbons_0 16 rfl
theorem dX2_giveRibbons_34 : decode cX2_giveRibbons 34 = .ok (.iconst 0, 1) := okd_at mX2_giveRibbons_0 17 rfl
theorem dX2_giveRibbons_35 : decode cX2_giveRibbons 35 = .ok (.istore 5, 2) := okd_at mX2_giveRibbons_0 18 rfl
theorem dX2_giveRibbons_37 : decode cX2_giveRibbons 37 = .ok (.iload 5, 2) := okd_at mX2_giveRibbons_0 19 rfl
theorem dX2_giveRibbons_39 : decode cX2_giveRibbons 39 = .ok (.iload_n 3, 1) := okd_at mX2_giveRibbons_0 20 rfl
theorem dX2_giveRibbons_40 : decode cX2_giveRibbons 40 = .ok (.if_icmp .ge 82, 3) := okd_at mX2_giveRibbons_0 21 rfl
theorem dX2_giveRibbons_43 : decode cX2_giveRibbons 43 = .ok (.aload_n 0, 1) := okd_at mX2_giveRibbons_0 22 rfl
theorem dX2_giveRibbons_44 : decode cX2_giveRibbons 44 = .ok (.getfield 15, 3) := okd_at mX2_giveRibbons_0 23 rfl
theorem dX2_giveRibbons_47 : decode cX2_giveRibbons 47 = .ok (.iload 5, 2) := okd_at mX2_giveRibbons_0 24 rfl
theorem dX2_giveRibbons_49 : decode cX2_giveRibbons 49 = .ok (.invokestatic 74, 3) := okd_at mX2_giveRibbons_0 25 rfl
theorem dX2_giveRibbons_52 : decode cX2_giveRibbons 52 = .ok (.istore 6, 2) := okd_at mX2_giveRibbons_0 26 rfl
theorem dX2_giveRibbons_54 : decode cX2_giveRibbons 54 = .ok (.aload_n 0, 1) := okd_at mX2_giveRibbons_0 27 rfl
theorem dX2_giveRibbons_55 : decode cX2_giveRibbons 55 = .ok (.getfield 9, 3) := okd_at mX2_giveRibbons_0 28 rfl
theorem dX2_giveRibbons_58 : decode cX2_giveRibbons 58 = .ok (.iload 6, 2) := okd_at mX2_giveRibbons_0 29 rfl
theorem dX2_giveRibbons_60 : decode cX2_giveRibbons 60 = .ok (.invokestatic 74, 3) := okd_at mX2_giveRibbons_0 30 rfl
theorem dX2_giveRibbons_63 : decode cX2_giveRibbons 63 = .ok (.istore 7, 2) := okd_at mX2_giveRibbons_0 31 rfl
theorem dX2_giveRibbons_65 : decode cX2_giveRibbons 65 = .ok (.aload_n 0, 1) := okd_at mX2_giveRibbons_0 32 rfl
theorem dX2_giveRibbons_66 : decode cX2_giveRibbons 66 = .ok (.dup, 1) := okd_at mX2_giveRibbons_0 33 rfl
theorem dX2_giveRibbons_67 : decode cX2_giveRibbons 67 = .ok (.getfield 65, 3) := okd_at mX2_giveRibbons_0 34 rfl
theorem dX2_giveRibbons_70 : decode cX2_giveRibbons 70 = .ok (.aload_n 0, 1) := okd_at mX2_giveRibbons_0 35 rfl
theorem dX2_giveRibbons_71 : decode cX2_giveRibbons 71 = .ok (.iconst 1, 1) := okd_at mX2_giveRibbons_0 36 rfl
theorem dX2_giveRibbons_72 : decode cX2_giveRibbons 72 = .ok (.iload 6, 2) := okd_at mX2_giveRibbons_0 37 rfl
theorem dX2_giveRibbons_74 : decode cX2_giveRibbons 74 = .ok (.iload_n 1, 1) := okd_at mX2_giveRibbons_0 38 rfl
theorem dX2_giveRibbons_75 : decode cX2_giveRibbons 75 = .ok (.iload 7, 2) := okd_at mX2_giveRibbons_0 39 rfl
theorem dX2_giveRibbons_77 : decode cX2_giveRibbons 77 = .ok (.invokevirtual 92, 3) := okd_at mX2_giveRibbons_0 40 rfl
theorem dX2_giveRibbons_80 : decode cX2_giveRibbons 80 = .ok (.iadd, 1) := okd_at mX2_giveRibbons_0 41 rfl
theorem dX2_giveRibbons_81 : decode cX2_giveRibbons 81 = .ok (.putfield 65, 3) := okd_at mX2_giveRibbons_0 42 rfl
theorem dX2_giveRibbons_84 : decode cX2_giveRibbons 84 = .ok (.aload_n 0, 1) := okd_at mX2_giveRibbons_0 43 rfl
theorem dX2_giveRibbons_85 : decode cX2_giveRibbons 85 = .ok (.getfield 9, 3) := okd_at mX2_giveRibbons_0 44 rfl
theorem dX2_giveRibbons_88 : decode cX2_giveRibbons 88 = .ok (.iload 6, 2) := okd_at mX2_giveRibbons_0 45 rfl
theorem dX2_giveRibbons_90 : decode cX2_giveRibbons 90 = .ok (.iload 7, 2) := okd_at mX2_giveRibbons_0 46 rfl
theorem dX2_giveRibbons_92 : decode cX2_giveRibbons 92 = .ok (.iconst 1, 1) := okd_at mX2_giveRibbons_0 47 rfl
theorem dX2_giveRibbons_93 : decode cX2_giveRibbons 93 = .ok (.iadd, 1) := okd_at mX2_giveRibbons_0 48 rfl
theorem dX2_giveRibbons_94 : decode cX2_giveRibbons 94 = .ok (.invokestatic 96, 3) := okd_at mX2_giveRibbons_0 49 rfl
theorem dX2_giveRibbons_97 : decode cX2_giveRibbons 97 = .ok (.iload 4, 2) := okd_at mX2_giveRibbons_0 50 rfl
theorem dX2_giveRibbons_99 : decode cX2_giveRibbons 99 = .ok (.iconst 1, 1) := okd_at mX2_giveRibbons_0 51 rfl
theorem dX2_giveRibbons_100 : decode cX2_giveRibbons 100 = .ok (.iload 6, 2) := okd_at mX2_giveRibbons_0 52 rfl
theorem dX2_giveRibbons_102 : decode cX2_giveRibbons 102 = .ok (.ishl, 1) := okd_at mX2_giveRibbons_0 53 rfl
theorem dX2_giveRibbons_103 : decode cX2_giveRibbons 103 = .ok (.ior, 1) := okd_at mX2_giveRibbons_0 54 rfl
theorem dX2_giveRibbons_104 : decode cX2_giveRibbons 104 = .ok (.istore 4, 2) := okd_at mX2_giveRibbons_0 55 rfl
theorem dX2_giveRibbons_106 : decode cX2_giveRibbons 106 = .ok (.aload_n 0, 1) := okd_at mX2_giveRibbons_0 56 rfl
theorem dX2_giveRibbons_107 : decode cX2_giveRibbons 107 = .ok (.dup, 1) := okd_at mX2_giveRibbons_0 57 rfl
theorem dX2_giveRibbons_108 : decode cX2_giveRibbons 108 = .ok (.getfield 68, 3) := okd_at mX2_giveRibbons_0 58 rfl
theorem dX2_giveRibbons_111 : decode cX2_giveRibbons 111 = .ok (.iconst 1, 1) := okd_at mX2_giveRibbons_0 59 rfl
def lmX2_giveRibbons_1 : List (Nat × Instr × Nat) := [(112, .iadd, 1), (113, .putfield 68, 3), (116, .iinc 5 1, 3), (119, .goto (-82), 3), (122, .aload_n 0, 1), (123, .getfield 18, 3), (126, .iload_n 1, 1), (127, .iload 4, 2), (129, .invokestatic 96, 3), (132, .return_, 1)]
theorem mX2_giveRibbons_1 : okd cX2_giveRibbons lmX2_giveRibbons_1 = true := by decide +kernel
theorem dX2_giveRibbons_112 : decode cX2_giveRibbons 112 = .ok (.iadd, 1) := okd_at mX2_giveRibbons_1 0 rfl
theorem dX2_giveRibbons_113 : decode cX2_giveRibbons 113 = .ok (.putfield 68, 3) := okd_at mX2_giveRibbons_1 1 rfl
theorem dX2_giveRibbons_116 : decode cX2_giveRibbons 116 = .ok (.iinc 5 1, 3) := okd_at mX2_giveRibbons_1 2 rfl
theorem dX2_giveRibbons_119 : decode cX2_giveRibbons 119 = .ok (.goto (-82), 3) := okd_at mX2_giveRibbons_1 3 rfl
theorem dX2_giveRibbons_122 : decode cX2_giveRibbons 122 = .ok (.aload_n 0, 1) := okd_at mX2_giveRibbons_1 4 rfl
theorem dX2_giveRibbons_123 : decode cX2_giveRibbons 123 = .ok (.getfield 18, 3) := okd_at mX2_giveRibbons_1 5 rfl
theorem dX2_giveRibbons_126 : decode cX2_giveRibbons 126 = .ok (.iload_n 1, 1) := okd_at mX2_giveRibbons_1 6 rfl
theorem dX2_giveRibbons_127 : decode cX2_giveRibbons 127 = .ok (.iload 4, 2) := okd_at mX2_giveRibbons_1 7 rfl
theorem dX2_giveRibbons_129 : decode cX2_giveRibbons 129 = .ok (.invokestatic 96, 3) := okd_at mX2_giveRibbons_1 8 rfl
theorem dX2_giveRibbons_132 : decode cX2_giveRibbons 132 = .ok (.return_, 1) := okd_at mX2_giveRibbons_1 9 rfl
def lmX2_lineUp_0 : List (Nat × Instr × Nat) := [(0, .aload_n 0, 1), (1, .getfield 33, 3), (4, .getfield 109, 3), (7, .iload_n 1, 1), (8, .invokestatic 74, 3), (11, .istore_n 2, 1), (12, .iconst 0, 1), (13, .istore_n 3, 1), (14, .iconst 0, 1), (15, .istore 4, 2), (17, .iload 4, 2), (19, .aload_n 0, 1), (20, .getfield 29, 3), (23, .getfield 106, 3), (26, .if_icmp .ge 52, 3), (29, .iload_n 2, 1), (30, .iload 4, 2), (32, .invokestatic 112, 3), (35, .ifCond .eq 37, 3), (38, .aload_n 0, 1), (39, .iload_n 3, 1), (40, .iload 4, 2), (42, .aload_n 0, 1), (43, .iload 4, 2), (45, .iload_n 1, 1), (46, .aload_n 0, 1), (47, .iconst 0, 1), (48, .iload 4, 2), (50, .iload_n 1, 1), (51, .aload_n 0, 1), (52, .getfield 9, 3), (55, .iload 4, 2), (57, .invokestatic 74, 3), (60, .invokevirtual 92, 3), (63, .invokevirtual 116, 3), (66, .invokevirtual 119, 3), (69, .iinc 3 1, 3), (72, .iinc 4 1, 3), (75, .goto (-58), 3), (78, .iload_n 3, 1), (79, .ireturn, 1)]
theorem mX2_lineUp_0 : okd cX2_lineUp lmX2_lineUp_0 = true := by decide +kernel
theorem dX2_lineUp_0 : decode cX2_lineUp 0 = .ok (.aload_n 0, 1) := okd_at mX2_lineUp_0 0 rfl
theorem dX2_lineUp_1 : decode cX2_lineUp 1 = .ok (.getfield 33, 3) := okd_at mX2_lineUp_0 1 rfl
theorem dX2_lineUp_4 : decode cX2_lineUp 4 = .ok (.getfield 109, 3) := okd_at mX2_lineUp_0 2 rfl
theorem dX2_lineUp_7 : decode cX2_lineUp 7 = .ok (.iload_n 1, 1) := okd_at mX2_lineUp_0 3 rfl
theorem dX2_lineUp_8 : decode cX2_lineUp 8 = .ok (.invokestatic 74, 3) := okd_at mX2_lineUp_0 4 rfl
theorem dX2_lineUp_11 : decode cX2_lineUp 11 = .ok (.istore_n 2, 1) := okd_at mX2_lineUp_0 5 rfl
theorem dX2_lineUp_12 : decode cX2_lineUp 12 = .ok (.iconst 0, 1) := okd_at mX2_lineUp_0 6 rfl
theorem dX2_lineUp_13 : decode cX2_lineUp 13 = .ok (.istore_n 3, 1) := okd_at mX2_lineUp_0 7 rfl
theorem dX2_lineUp_14 : decode cX2_lineUp 14 = .ok (.iconst 0, 1) := okd_at mX2_lineUp_0 8 rfl
theorem dX2_lineUp_15 : decode cX2_lineUp 15 = .ok (.istore 4, 2) := okd_at mX2_lineUp_0 9 rfl
theorem dX2_lineUp_17 : decode cX2_lineUp 17 = .ok (.iload 4, 2) := okd_at mX2_lineUp_0 10 rfl
theorem dX2_lineUp_19 : decode cX2_lineUp 19 = .ok (.aload_n 0, 1) := okd_at mX2_lineUp_0 11 rfl
theorem dX2_lineUp_20 : decode cX2_lineUp 20 = .ok (.getfield 29, 3) := okd_at mX2_lineUp_0 12 rfl
theorem dX2_lineUp_23 : decode cX2_lineUp 23 = .ok (.getfield 106, 3) := okd_at mX2_lineUp_0 13 rfl
theorem dX2_lineUp_26 : decode cX2_lineUp 26 = .ok (.if_icmp .ge 52, 3) := okd_at mX2_lineUp_0 14 rfl
theorem dX2_lineUp_29 : decode cX2_lineUp 29 = .ok (.iload_n 2, 1) := okd_at mX2_lineUp_0 15 rfl
theorem dX2_lineUp_30 : decode cX2_lineUp 30 = .ok (.iload 4, 2) := okd_at mX2_lineUp_0 16 rfl
theorem dX2_lineUp_32 : decode cX2_lineUp 32 = .ok (.invokestatic 112, 3) := okd_at mX2_lineUp_0 17 rfl
theorem dX2_lineUp_35 : decode cX2_lineUp 35 = .ok (.ifCond .eq 37, 3) := okd_at mX2_lineUp_0 18 rfl
theorem dX2_lineUp_38 : decode cX2_lineUp 38 = .ok (.aload_n 0, 1) := okd_at mX2_lineUp_0 19 rfl
theorem dX2_lineUp_39 : decode cX2_lineUp 39 = .ok (.iload_n 3, 1) := okd_at mX2_lineUp_0 20 rfl
theorem dX2_lineUp_40 : decode cX2_lineUp 40 = .ok (.iload 4, 2) := okd_at mX2_lineUp_0 21 rfl
theorem dX2_lineUp_42 : decode cX2_lineUp 42 = .ok (.aload_n 0, 1) := okd_at mX2_lineUp_0 22 rfl
theorem dX2_lineUp_43 : decode cX2_lineUp 43 = .ok (.iload 4, 2) := okd_at mX2_lineUp_0 23 rfl
theorem dX2_lineUp_45 : decode cX2_lineUp 45 = .ok (.iload_n 1, 1) := okd_at mX2_lineUp_0 24 rfl
theorem dX2_lineUp_46 : decode cX2_lineUp 46 = .ok (.aload_n 0, 1) := okd_at mX2_lineUp_0 25 rfl
theorem dX2_lineUp_47 : decode cX2_lineUp 47 = .ok (.iconst 0, 1) := okd_at mX2_lineUp_0 26 rfl
theorem dX2_lineUp_48 : decode cX2_lineUp 48 = .ok (.iload 4, 2) := okd_at mX2_lineUp_0 27 rfl
theorem dX2_lineUp_50 : decode cX2_lineUp 50 = .ok (.iload_n 1, 1) := okd_at mX2_lineUp_0 28 rfl
theorem dX2_lineUp_51 : decode cX2_lineUp 51 = .ok (.aload_n 0, 1) := okd_at mX2_lineUp_0 29 rfl
theorem dX2_lineUp_52 : decode cX2_lineUp 52 = .ok (.getfield 9, 3) := okd_at mX2_lineUp_0 30 rfl
theorem dX2_lineUp_55 : decode cX2_lineUp 55 = .ok (.iload 4, 2) := okd_at mX2_lineUp_0 31 rfl
theorem dX2_lineUp_57 : decode cX2_lineUp 57 = .ok (.invokestatic 74, 3) := okd_at mX2_lineUp_0 32 rfl
theorem dX2_lineUp_60 : decode cX2_lineUp 60 = .ok (.invokevirtual 92, 3) := okd_at mX2_lineUp_0 33 rfl
theorem dX2_lineUp_63 : decode cX2_lineUp 63 = .ok (.invokevirtual 116, 3) := okd_at mX2_lineUp_0 34 rfl
theorem dX2_lineUp_66 : decode cX2_lineUp 66 = .ok (.invokevirtual 119, 3) := okd_at mX2_lineUp_0 35 rfl
theorem dX2_lineUp_69 : decode cX2_lineUp 69 = .ok (.iinc 3 1, 3) := okd_at mX2_lineUp_0 36 rfl
theorem dX2_lineUp_72 : decode cX2_lineUp 72 = .ok (.iinc 4 1, 3) := okd_at mX2_lineUp_0 37 rfl
theorem dX2_lineUp_75 : decode cX2_lineUp 75 = .ok (.goto (-58), 3) := okd_at mX2_lineUp_0 38 rfl
theorem dX2_lineUp_78 : decode cX2_lineUp 78 = .ok (.iload_n 3, 1) := okd_at mX2_lineUp_0 39 rfl
theorem dX2_lineUp_79 : decode cX2_lineUp 79 = .ok (.ireturn, 1) := okd_at mX2_lineUp_0 40 rfl
def lmX2_run_0 : List (Nat × Instr × Nat) := [(0, .aload_n 0, 1), (1, .iconst (-1), 1), (2, .invokevirtual 41, 3), (5, .return_, 1)]
theorem mX2_run_0 : okd cX2_run lmX2_run_0 = true := by decide +kernel
theorem dX2_run_0 : decode cX2_run 0 = .ok (.aload_n 0, 1) := okd_at mX2_run_0 0 rfl
theorem dX2_run_1 : decode cX2_run 1 = .ok (.iconst (-1), 1) := okd_at mX2_run_0 1 rfl
theorem dX2_run_2 : decode cX2_run 2 = .ok (.invokevirtual 41, 3) := okd_at mX2_run_0 2 rfl
theorem dX2_run_5 : decode cX2_run 5 = .ok (.return_, 1) := okd_at mX2_run_0 3 rfl
def lmX2_runWithout_0 : List (Nat × Instr × Nat) := [(0, .aload_n 0, 1), (1, .invokevirtual 45, 3), (4, .iconst 0, 1), (5, .istore_n 2, 1), (6, .iload_n 2, 1), (7, .aload_n 0, 1), (8, .getfield 33, 3), (11, .getfield 48, 3), (14, .if_icmp .ge 24, 3), (17, .iload_n 2, 1), (18, .iload_n 1, 1), (19, .if_icmp .eq 13, 3), (22, .aload_n 0, 1), (23, .iload_n 2, 1), (24, .aload_n 0, 1), (25, .iload_n 2, 1), (26, .invokevirtual 54, 3), (29, .invokevirtual 58, 3), (32, .iinc 2 1, 3), (35, .goto (-29), 3), (38, .aload_n 0, 1), (39, .invokevirtual 62, 3), (42, .return_, 1)]
theorem mX2_runWithout_0 : okd cX2_runWithout lmX2_runWithout_0 = true := by decide +kernel
theorem dX2_runWithout_0 : decode cX2_runWithout 0 = .ok (.aload_n 0, 1) := okd_at mX2_runWithout_0 0 rfl
theorem dX2_runWithout_1 : decode cX2_runWithout 1 = .ok (.invokevirtual 45, 3) := okd_at mX2_runWithout_0 1 rfl
theorem dX2_runWithout_4 : decode cX2_runWithout 4 = .ok (.iconst 0, 1) := okd_at mX2_runWithout_0 2 rfl
theorem dX2_runWithout_5 : decode cX2_runWithout 5 = .ok (.istore_n 2, 1) := okd_at mX2_runWithout_0 3 rfl
theorem dX2_runWithout_6 : decode cX2_runWithout 6 = .ok (.iload_n 2, 1) := okd_at mX2_runWithout_0 4 rfl
theorem dX2_runWithout_7 : decode cX2_runWithout 7 = .ok (.aload_n 0, 1) := okd_at mX2_runWithout_0 5 rfl
theorem dX2_runWithout_8 : decode cX2_runWithout 8 = .ok (.getfield 33, 3) := okd_at mX2_runWithout_0 6 rfl
theorem dX2_runWithout_11 : decode cX2_runWithout 11 = .ok (.getfield 48, 3) := okd_at mX2_runWithout_0 7 rfl
theorem dX2_runWithout_14 : decode cX2_runWithout 14 = .ok (.if_icmp .ge 24, 3) := okd_at mX2_runWithout_0 8 rfl
theorem dX2_runWithout_17 : decode cX2_runWithout 17 = .ok (.iload_n 2, 1) := okd_at mX2_runWithout_0 9 rfl
theorem dX2_runWithout_18 : decode cX2_runWithout 18 = .ok (.iload_n 1, 1) := okd_at mX2_runWithout_0 10 rfl
theorem dX2_runWithout_19 : decode cX2_runWithout 19 = .ok (.if_icmp .eq 13, 3) := okd_at mX2_runWithout_0 11 rfl
theorem dX2_runWithout_22 : decode cX2_runWithout 22 = .ok (.aload_n 0, 1) := okd_at mX2_runWithout_0 12 rfl
theorem dX2_runWithout_23 : decode cX2_runWithout 23 = .ok (.iload_n 2, 1) := okd_at mX2_runWithout_0 13 rfl
theorem dX2_runWithout_24 : decode cX2_runWithout 24 = .ok (.aload_n 0, 1) := okd_at mX2_runWithout_0 14 rfl
theorem dX2_runWithout_25 : decode cX2_runWithout 25 = .ok (.iload_n 2, 1) := okd_at mX2_runWithout_0 15 rfl
theorem dX2_runWithout_26 : decode cX2_runWithout 26 = .ok (.invokevirtual 54, 3) := okd_at mX2_runWithout_0 16 rfl
theorem dX2_runWithout_29 : decode cX2_runWithout 29 = .ok (.invokevirtual 58, 3) := okd_at mX2_runWithout_0 17 rfl
theorem dX2_runWithout_32 : decode cX2_runWithout 32 = .ok (.iinc 2 1, 3) := okd_at mX2_runWithout_0 18 rfl
theorem dX2_runWithout_35 : decode cX2_runWithout 35 = .ok (.goto (-29), 3) := okd_at mX2_runWithout_0 19 rfl
theorem dX2_runWithout_38 : decode cX2_runWithout 38 = .ok (.aload_n 0, 1) := okd_at mX2_runWithout_0 20 rfl
theorem dX2_runWithout_39 : decode cX2_runWithout 39 = .ok (.invokevirtual 62, 3) := okd_at mX2_runWithout_0 21 rfl
theorem dX2_runWithout_42 : decode cX2_runWithout 42 = .ok (.return_, 1) := okd_at mX2_runWithout_0 22 rfl
def lmX2_says_0 : List (Nat × Instr × Nat) := [(0, .iload_n 3, 1), (1, .ifCond .lt 7, 3), (4, .iconst 1, 1), (5, .goto 4, 3), (8, .iconst 0, 1), (9, .istore 5, 2), (11, .aload_n 0, 1), (12, .getfield 26, 3), (15, .iconst 0, 1), (16, .aload_n 0, 1), (17, .getfield 29, 3), (20, .getfield 129, 3), (23, .iload_n 2, 1), (24, .invokestatic 74, 3), (27, .invokestatic 96, 3), (30, .aload_n 0, 1), (31, .getfield 26, 3), (34, .iconst 1, 1), (35, .aload_n 0, 1), (36, .getfield 29, 3), (39, .getfield 132, 3), (42, .iload_n 2, 1), (43, .invokestatic 74, 3), (46, .invokestatic 96, 3), (49, .aload_n 0, 1), (50, .getfield 26, 3), (53, .iconst 2, 1), (54, .iload 4, 2), (56, .invokestatic 96, 3), (59, .aload_n 0, 1), (60, .getfield 26, 3), (63, .iconst 3, 1), (64, .iload 5, 2), (66, .ifCond .eq 17, 3), (69, .aload_n 0, 1), (70, .getfield 33, 3), (73, .getfield 123, 3), (76, .iload_n 3, 1), (77, .invokestatic 74, 3), (80, .goto 4, 3), (83, .iconst 0, 1), (84, .invokestatic 96, 3), (87, .aload_n 0, 1), (88, .getfield 26, 3), (91, .iconst 4, 1), (92, .iload 5, 2), (94, .ifCond .eq 14, 3), (97, .aload_n 0, 1), (98, .getfield 33, 3), (101, .iload_n 3, 1), (102, .invokevirtual 141, 3), (105, .goto 4, 3), (108, .iconst 0, 1), (109, .invokestatic 96, 3), (112, .aload_n 0, 1), (113, .getfield 26, 3), (116, .iconst 5, 1), (117, .iload 5, 2), (119, .ifCond .eq 7, 3), (122, .iload_n 3, 1)]
theorem mX2_says_0 : okd cX2_says lmX2_says_0 = true := by decide +kernel
theorem dX2_says_0 : decode cX2_says 0 = .ok (.iload_n 3, 1) := okd_at mX2_says_0 0 rfl
theorem dX2_says_1 : decode cX2_says 1 = .ok (.ifCond .lt 7, 3) := okd_at mX2_says_0 1 rfl
theorem dX2_says_4 : decode cX2_says 4 = .ok (.iconst 1, 1) := okd_at mX2_says_0 2 rfl
theorem dX2_says_5 : decode cX2_says 5 = .ok (.goto 4, 3) := okd_at mX2_says_0 3 rfl
theorem dX2_says_8 : decode cX2_says 8 = .ok (.iconst 0, 1) := okd_at mX2_says_0 4 rfl
theorem dX2_says_9 : decode cX2_says 9 = .ok (.istore 5, 2) := okd_at mX2_says_0 5 rfl
theorem dX2_says_11 : decode cX2_says 11 = .ok (.aload_n 0, 1) := okd_at mX2_says_0 6 rfl
theorem dX2_says_12 : decode cX2_says 12 = .ok (.getfield 26, 3) := okd_at mX2_says_0 7 rfl
theorem dX2_says_15 : decode cX2_says 15 = .ok (.iconst 0, 1) := okd_at mX2_says_0 8 rfl
theorem dX2_says_16 : decode cX2_says 16 = .ok (.aload_n 0, 1) := okd_at mX2_says_0 9 rfl
theorem dX2_says_17 : decode cX2_says 17 = .ok (.getfield 29, 3) := okd_at mX2_says_0 10 rfl
theorem dX2_says_20 : decode cX2_says 20 = .ok (.getfield 129, 3) := okd_at mX2_says_0 11 rfl
theorem dX2_says_23 : decode cX2_says 23 = .ok (.iload_n 2, 1) := okd_at mX2_says_0 12 rfl
theorem dX2_says_24 : decode cX2_says 24 = .ok (.invokestatic 74, 3) := okd_at mX2_says_0 13 rfl
theorem dX2_says_27 : decode cX2_says 27 = .ok (.invokestatic 96, 3) := okd_at mX2_says_0 14 rfl
theorem dX2_says_30 : decode cX2_says 30 = .ok (.aload_n 0, 1) := okd_at mX2_says_0 15 rfl
theorem dX2_says_31 : decode cX2_says 31 = .ok (.getfield 26, 3) := okd_at mX2_says_0 16 rfl
theorem dX2_says_34 : decode cX2_says 34 = .ok (.iconst 1, 1) := okd_at mX2_says_0 17 rfl
theorem dX2_says_35 : decode cX2_says 35 = .ok (.aload_n 0, 1) := okd_at mX2_says_0 18 rfl
theorem dX2_says_36 : decode cX2_says 36 = .ok (.getfield 29, 3) := okd_at mX2_says_0 19 rfl
theorem dX2_says_39 : decode cX2_says 39 = .ok (.getfield 132, 3) := okd_at mX2_says_0 20 rfl
theorem dX2_says_42 : decode cX2_says 42 = .ok (.iload_n 2, 1) := okd_at mX2_says_0 21 rfl
theorem dX2_says_43 : decode cX2_says 43 = .ok (.invokestatic 74, 3) := okd_at mX2_says_0 22 rfl
theorem dX2_says_46 : decode cX2_says 46 = .ok (.invokestatic 96, 3) := okd_at mX2_says_0 23 rfl
theorem dX2_says_49 : decode cX2_says 49 = .ok (.aload_n 0, 1) := okd_at mX2_says_0 24 rfl
theorem dX2_says_50 : decode cX2_says 50 = .ok (.getfield 26, 3) := okd_at mX2_says_0 25 rfl
theorem dX2_says_53 : decode cX2_says 53 = .ok (.iconst 2, 1) := okd_at mX2_says_0 26 rfl
theorem dX2_says_54 : decode cX2_says 54 = .ok (.iload 4, 2) := okd_at mX2_says_0 27 rfl
theorem dX2_says_56 : decode cX2_says 56 = .ok (.invokestatic 96, 3) := okd_at mX2_says_0 28 rfl
theorem dX2_says_59 : decode cX2_says 59 = .ok (.aload_n 0, 1) := okd_at mX2_says_0 29 rfl
theorem dX2_says_60 : decode cX2_says 60 = .ok (.getfield 26, 3) := okd_at mX2_says_0 30 rfl
theorem dX2_says_63 : decode cX2_says 63 = .ok (.iconst 3, 1) := okd_at mX2_says_0 31 rfl
theorem dX2_says_64 : decode cX2_says 64 = .ok (.iload 5, 2) := okd_at mX2_says_0 32 rfl
theorem dX2_says_66 : decode cX2_says 66 = .ok (.ifCond .eq 17, 3) := okd_at mX2_says_0 33 rfl
theorem dX2_says_69 : decode cX2_says 69 = .ok (.aload_n 0, 1) := okd_at mX2_says_0 34 rfl
theorem dX2_says_70 : decode cX2_says 70 = .ok (.getfield 33, 3) := okd_at mX2_says_0 35 rfl
theorem dX2_says_73 : decode cX2_says 73 = .ok (.getfield 123, 3) := okd_at mX2_says_0 36 rfl
theorem dX2_says_76 : decode cX2_says 76 = .ok (.iload_n 3, 1) := okd_at mX2_says_0 37 rfl
theorem dX2_says_77 : decode cX2_says 77 = .ok (.invokestatic 74, 3) := okd_at mX2_says_0 38 rfl
theorem dX2_says_80 : decode cX2_says 80 = .ok (.goto 4, 3) := okd_at mX2_says_0 39 rfl
theorem dX2_says_83 : decode cX2_says 83 = .ok (.iconst 0, 1) := okd_at mX2_says_0 40 rfl
theorem dX2_says_84 : decode cX2_says 84 = .ok (.invokestatic 96, 3) := okd_at mX2_says_0 41 rfl
theorem dX2_says_87 : decode cX2_says 87 = .ok (.aload_n 0, 1) := okd_at mX2_says_0 42 rfl
theorem dX2_says_88 : decode cX2_says 88 = .ok (.getfield 26, 3) := okd_at mX2_says_0 43 rfl
theorem dX2_says_91 : decode cX2_says 91 = .ok (.iconst 4, 1) := okd_at mX2_says_0 44 rfl
theorem dX2_says_92 : decode cX2_says 92 = .ok (.iload 5, 2) := okd_at mX2_says_0 45 rfl
theorem dX2_says_94 : decode cX2_says 94 = .ok (.ifCond .eq 14, 3) := okd_at mX2_says_0 46 rfl
theorem dX2_says_97 : decode cX2_says 97 = .ok (.aload_n 0, 1) := okd_at mX2_says_0 47 rfl
theorem dX2_says_98 : decode cX2_says 98 = .ok (.getfield 33, 3) := okd_at mX2_says_0 48 rfl
theorem dX2_says_101 : decode cX2_says 101 = .ok (.iload_n 3, 1) := okd_at mX2_says_0 49 rfl
theorem dX2_says_102 : decode cX2_says 102 = .ok (.invokevirtual 141, 3) := okd_at mX2_says_0 50 rfl
theorem dX2_says_105 : decode cX2_says 105 = .ok (.goto 4, 3) := okd_at mX2_says_0 51 rfl
theorem dX2_says_108 : decode cX2_says 108 = .ok (.iconst 0, 1) := okd_at mX2_says_0 52 rfl
theorem dX2_says_109 : decode cX2_says 109 = .ok (.invokestatic 96, 3) := okd_at mX2_says_0 53 rfl
theorem dX2_says_112 : decode cX2_says 112 = .ok (.aload_n 0, 1) := okd_at mX2_says_0 54 rfl
theorem dX2_says_113 : decode cX2_says 113 = .ok (.getfield 26, 3) := okd_at mX2_says_0 55 rfl
theorem dX2_says_116 : decode cX2_says 116 = .ok (.iconst 5, 1) := okd_at mX2_says_0 56 rfl
theorem dX2_says_117 : decode cX2_says 117 = .ok (.iload 5, 2) := okd_at mX2_says_0 57 rfl
theorem dX2_says_119 : decode cX2_says 119 = .ok (.ifCond .eq 7, 3) := okd_at mX2_says_0 58 rfl
theorem dX2_says_122 : decode cX2_says 122 = .ok (.iload_n 3, 1) := okd_at mX2_says_0 59 rfl
def lmX2_says_1 : List (Nat × Instr × Nat) := [(123, .goto 4, 3), (126, .iconst 0, 1), (127, .invokestatic 96, 3), (130, .aload_n 0, 1), (131, .getfield 37, 3), (134, .invokevirtual 144, 3), (137, .astore 6, 2), (139, .aload 6, 2), (141, .ifnonnull 7, 3), (144, .iconst 0, 1), (145, .goto 13, 3), (148, .aload 6, 2), (150, .iload_n 1, 1), (151, .aload_n 0, 1), (152, .getfield 26, 3), (155, .invokevirtual 150, 3), (158, .ireturn, 1)]
theorem mX2_says_1 : okd cX2_says lmX2_says_1 = true := by decide +kernel
theorem dX2_says_123 : decode cX2_says 123 = .ok (.goto 4, 3) := okd_at mX2_says_1 0 rfl
theorem dX2_says_126 : decode cX2_says 126 = .ok (.iconst 0, 1) := okd_at mX2_says_1 1 rfl
theorem dX2_says_127 : decode cX2_says 127 = .ok (.invokestatic 96, 3) := okd_at mX2_says_1 2 rfl
theorem dX2_says_130 : decode cX2_says 130 = .ok (.aload_n 0, 1) := okd_at mX2_says_1 3 rfl
theorem dX2_says_131 : decode cX2_says 131 = .ok (.getfield 37, 3) := okd_at mX2_says_1 4 rfl
theorem dX2_says_134 : decode cX2_says 134 = .ok (.invokevirtual 144, 3) := okd_at mX2_says_1 5 rfl
theorem dX2_says_137 : decode cX2_says 137 = .ok (.astore 6, 2) := okd_at mX2_says_1 6 rfl
theorem dX2_says_139 : decode cX2_says 139 = .ok (.aload 6, 2) := okd_at mX2_says_1 7 rfl
theorem dX2_says_141 : decode cX2_says 141 = .ok (.ifnonnull 7, 3) := okd_at mX2_says_1 8 rfl
theorem dX2_says_144 : decode cX2_says 144 = .ok (.iconst 0, 1) := okd_at mX2_says_1 9 rfl
theorem dX2_says_145 : decode cX2_says 145 = .ok (.goto 13, 3) := okd_at mX2_says_1 10 rfl
theorem dX2_says_148 : decode cX2_says 148 = .ok (.aload 6, 2) := okd_at mX2_says_1 11 rfl
theorem dX2_says_150 : decode cX2_says 150 = .ok (.iload_n 1, 1) := okd_at mX2_says_1 12 rfl
theorem dX2_says_151 : decode cX2_says 151 = .ok (.aload_n 0, 1) := okd_at mX2_says_1 13 rfl
theorem dX2_says_152 : decode cX2_says 152 = .ok (.getfield 26, 3) := okd_at mX2_says_1 14 rfl
theorem dX2_says_155 : decode cX2_says 155 = .ok (.invokevirtual 150, 3) := okd_at mX2_says_1 15 rfl
theorem dX2_says_158 : decode cX2_says 158 = .ok (.ireturn, 1) := okd_at mX2_says_1 16 rfl
def lmX2_scoreOf_0 : List (Nat × Instr × Nat) := [(0, .aload_n 0, 1), (1, .getfield 33, 3), (4, .getfield 71, 3), (7, .iload_n 2, 1), (8, .invokestatic 74, 3), (11, .istore 4, 2), (13, .aload_n 0, 1), (14, .getfield 33, 3), (17, .getfield 123, 3), (20, .iload_n 2, 1), (21, .invokestatic 74, 3), (24, .istore 5, 2), (26, .bipush 99, 2), (28, .iload_n 3, 1), (29, .aload_n 0, 1), (30, .getfield 29, 3), (33, .getfield 126, 3), (36, .iload_n 1, 1), (37, .invokestatic 74, 3), (40, .iadd, 1), (41, .invokestatic 86, 3), (44, .istore 6, 2), (46, .iload 4, 2), (48, .aload_n 0, 1), (49, .getfield 29, 3), (52, .getfield 129, 3), (55, .iload_n 1, 1), (56, .invokestatic 74, 3), (59, .aload_n 0, 1), (60, .getfield 29, 3), (63, .getfield 132, 3), (66, .iload_n 1, 1), (67, .invokestatic 74, 3), (70, .iload 5, 2), (72, .invokestatic 135, 3), (75, .iload 4, 2), (77, .iload 6, 2), (79, .iload 5, 2), (81, .invokestatic 138, 3), (84, .iadd, 1), (85, .ireturn, 1)]
theorem mX2_scoreOf_0 : okd cX2_scoreOf lmX2_scoreOf_0 = true := by decide +kernel
theorem dX2_scoreOf_0 : decode cX2_scoreOf 0 = .ok (.aload_n 0, 1) := okd_at mX2_scoreOf_0 0 rfl
theorem dX2_scoreOf_1 : decode cX2_scoreOf 1 = .ok (.getfield 33, 3) := okd_at mX2_scoreOf_0 1 rfl
theorem dX2_scoreOf_4 : decode cX2_scoreOf 4 = .ok (.getfield 71, 3) := okd_at mX2_scoreOf_0 2 rfl
theorem dX2_scoreOf_7 : decode cX2_scoreOf 7 = .ok (.iload_n 2, 1) := okd_at mX2_scoreOf_0 3 rfl
theorem dX2_scoreOf_8 : decode cX2_scoreOf 8 = .ok (.invokestatic 74, 3) := okd_at mX2_scoreOf_0 4 rfl
theorem dX2_scoreOf_11 : decode cX2_scoreOf 11 = .ok (.istore 4, 2) := okd_at mX2_scoreOf_0 5 rfl
theorem dX2_scoreOf_13 : decode cX2_scoreOf 13 = .ok (.aload_n 0, 1) := okd_at mX2_scoreOf_0 6 rfl
theorem dX2_scoreOf_14 : decode cX2_scoreOf 14 = .ok (.getfield 33, 3) := okd_at mX2_scoreOf_0 7 rfl
theorem dX2_scoreOf_17 : decode cX2_scoreOf 17 = .ok (.getfield 123, 3) := okd_at mX2_scoreOf_0 8 rfl
theorem dX2_scoreOf_20 : decode cX2_scoreOf 20 = .ok (.iload_n 2, 1) := okd_at mX2_scoreOf_0 9 rfl
theorem dX2_scoreOf_21 : decode cX2_scoreOf 21 = .ok (.invokestatic 74, 3) := okd_at mX2_scoreOf_0 10 rfl
theorem dX2_scoreOf_24 : decode cX2_scoreOf 24 = .ok (.istore 5, 2) := okd_at mX2_scoreOf_0 11 rfl
theorem dX2_scoreOf_26 : decode cX2_scoreOf 26 = .ok (.bipush 99, 2) := okd_at mX2_scoreOf_0 12 rfl
theorem dX2_scoreOf_28 : decode cX2_scoreOf 28 = .ok (.iload_n 3, 1) := okd_at mX2_scoreOf_0 13 rfl
theorem dX2_scoreOf_29 : decode cX2_scoreOf 29 = .ok (.aload_n 0, 1) := okd_at mX2_scoreOf_0 14 rfl
theorem dX2_scoreOf_30 : decode cX2_scoreOf 30 = .ok (.getfield 29, 3) := okd_at mX2_scoreOf_0 15 rfl
theorem dX2_scoreOf_33 : decode cX2_scoreOf 33 = .ok (.getfield 126, 3) := okd_at mX2_scoreOf_0 16 rfl
theorem dX2_scoreOf_36 : decode cX2_scoreOf 36 = .ok (.iload_n 1, 1) := okd_at mX2_scoreOf_0 17 rfl
theorem dX2_scoreOf_37 : decode cX2_scoreOf 37 = .ok (.invokestatic 74, 3) := okd_at mX2_scoreOf_0 18 rfl
theorem dX2_scoreOf_40 : decode cX2_scoreOf 40 = .ok (.iadd, 1) := okd_at mX2_scoreOf_0 19 rfl
theorem dX2_scoreOf_41 : decode cX2_scoreOf 41 = .ok (.invokestatic 86, 3) := okd_at mX2_scoreOf_0 20 rfl
theorem dX2_scoreOf_44 : decode cX2_scoreOf 44 = .ok (.istore 6, 2) := okd_at mX2_scoreOf_0 21 rfl
theorem dX2_scoreOf_46 : decode cX2_scoreOf 46 = .ok (.iload 4, 2) := okd_at mX2_scoreOf_0 22 rfl
theorem dX2_scoreOf_48 : decode cX2_scoreOf 48 = .ok (.aload_n 0, 1) := okd_at mX2_scoreOf_0 23 rfl
theorem dX2_scoreOf_49 : decode cX2_scoreOf 49 = .ok (.getfield 29, 3) := okd_at mX2_scoreOf_0 24 rfl
theorem dX2_scoreOf_52 : decode cX2_scoreOf 52 = .ok (.getfield 129, 3) := okd_at mX2_scoreOf_0 25 rfl
theorem dX2_scoreOf_55 : decode cX2_scoreOf 55 = .ok (.iload_n 1, 1) := okd_at mX2_scoreOf_0 26 rfl
theorem dX2_scoreOf_56 : decode cX2_scoreOf 56 = .ok (.invokestatic 74, 3) := okd_at mX2_scoreOf_0 27 rfl
theorem dX2_scoreOf_59 : decode cX2_scoreOf 59 = .ok (.aload_n 0, 1) := okd_at mX2_scoreOf_0 28 rfl
theorem dX2_scoreOf_60 : decode cX2_scoreOf 60 = .ok (.getfield 29, 3) := okd_at mX2_scoreOf_0 29 rfl
theorem dX2_scoreOf_63 : decode cX2_scoreOf 63 = .ok (.getfield 132, 3) := okd_at mX2_scoreOf_0 30 rfl
theorem dX2_scoreOf_66 : decode cX2_scoreOf 66 = .ok (.iload_n 1, 1) := okd_at mX2_scoreOf_0 31 rfl
theorem dX2_scoreOf_67 : decode cX2_scoreOf 67 = .ok (.invokestatic 74, 3) := okd_at mX2_scoreOf_0 32 rfl
theorem dX2_scoreOf_70 : decode cX2_scoreOf 70 = .ok (.iload 5, 2) := okd_at mX2_scoreOf_0 33 rfl
theorem dX2_scoreOf_72 : decode cX2_scoreOf 72 = .ok (.invokestatic 135, 3) := okd_at mX2_scoreOf_0 34 rfl
theorem dX2_scoreOf_75 : decode cX2_scoreOf 75 = .ok (.iload 4, 2) := okd_at mX2_scoreOf_0 35 rfl
theorem dX2_scoreOf_77 : decode cX2_scoreOf 77 = .ok (.iload 6, 2) := okd_at mX2_scoreOf_0 36 rfl
theorem dX2_scoreOf_79 : decode cX2_scoreOf 79 = .ok (.iload 5, 2) := okd_at mX2_scoreOf_0 37 rfl
theorem dX2_scoreOf_81 : decode cX2_scoreOf 81 = .ok (.invokestatic 138, 3) := okd_at mX2_scoreOf_0 38 rfl
theorem dX2_scoreOf_84 : decode cX2_scoreOf 84 = .ok (.iadd, 1) := okd_at mX2_scoreOf_0 39 rfl
theorem dX2_scoreOf_85 : decode cX2_scoreOf 85 = .ok (.ireturn, 1) := okd_at mX2_scoreOf_0 40 rfl
def lmX3_doesIn_0 : List (Nat × Instr × Nat) := [(0, .iload_n 0, 1), (1, .tableswitch 74 1 5 #[35, 41, 45, 54, 60], 35), (36, .iload_n 1, 1), (37, .iload_n 2, 1), (38, .invokestatic 13, 3), (41, .ireturn, 1), (42, .iload_n 2, 1), (43, .iload_n 3, 1), (44, .iadd, 1), (45, .ireturn, 1), (46, .bipush 99, 2), (48, .iload_n 1, 1), (49, .iload_n 2, 1), (50, .invokestatic 13, 3), (53, .isub, 1), (54, .ireturn, 1), (55, .iload_n 2, 1), (56, .iload_n 3, 1), (57, .iadd, 1), (58, .iload_n 1, 1), (59, .isub, 1), (60, .ireturn, 1), (61, .bipush 7, 2), (63, .iload_n 1, 1), (64, .imul, 1), (65, .iconst 3, 1), (66, .iload_n 2, 1), (67, .imul, 1), (68, .iadd, 1), (69, .iload_n 3, 1), (70, .iadd, 1), (71, .bipush 31, 2), (73, .irem, 1), (74, .ireturn, 1), (75, .iload_n 1, 1), (76, .ireturn, 1)]
theorem mX3_doesIn_0 : okd cX3_doesIn lmX3_doesIn_0 = true := by decide +kernel
theorem dX3_doesIn_0 : decode cX3_doesIn 0 = .ok (.iload_n 0, 1) := okd_at mX3_doesIn_0 0 rfl
theorem dX3_doesIn_1 : decode cX3_doesIn 1 = .ok (.tableswitch 74 1 5 #[35, 41, 45, 54, 60], 35) := okd_at mX3_doesIn_0 1 rfl
theorem dX3_doesIn_36 : decode cX3_doesIn 36 = .ok (.iload_n 1, 1) := okd_at mX3_doesIn_0 2 rfl
theorem dX3_doesIn_37 : decode cX3_doesIn 37 = .ok (.iload_n 2, 1) := okd_at mX3_doesIn_0 3 rfl
theorem dX3_doesIn_38 : decode cX3_doesIn 38 = .ok (.invokestatic 13, 3) := okd_at mX3_doesIn_0 4 rfl
theorem dX3_doesIn_41 : decode cX3_doesIn 41 = .ok (.ireturn, 1) := okd_at mX3_doesIn_0 5 rfl
theorem dX3_doesIn_42 : decode cX3_doesIn 42 = .ok (.iload_n 2, 1) := okd_at mX3_doesIn_0 6 rfl
theorem dX3_doesIn_43 : decode cX3_doesIn 43 = .ok (.iload_n 3, 1) := okd_at mX3_doesIn_0 7 rfl
theorem dX3_doesIn_44 : decode cX3_doesIn 44 = .ok (.iadd, 1) := okd_at mX3_doesIn_0 8 rfl
theorem dX3_doesIn_45 : decode cX3_doesIn 45 = .ok (.ireturn, 1) := okd_at mX3_doesIn_0 9 rfl
theorem dX3_doesIn_46 : decode cX3_doesIn 46 = .ok (.bipush 99, 2) := okd_at mX3_doesIn_0 10 rfl
theorem dX3_doesIn_48 : decode cX3_doesIn 48 = .ok (.iload_n 1, 1) := okd_at mX3_doesIn_0 11 rfl
theorem dX3_doesIn_49 : decode cX3_doesIn 49 = .ok (.iload_n 2, 1) := okd_at mX3_doesIn_0 12 rfl
theorem dX3_doesIn_50 : decode cX3_doesIn 50 = .ok (.invokestatic 13, 3) := okd_at mX3_doesIn_0 13 rfl
theorem dX3_doesIn_53 : decode cX3_doesIn 53 = .ok (.isub, 1) := okd_at mX3_doesIn_0 14 rfl
theorem dX3_doesIn_54 : decode cX3_doesIn 54 = .ok (.ireturn, 1) := okd_at mX3_doesIn_0 15 rfl
theorem dX3_doesIn_55 : decode cX3_doesIn 55 = .ok (.iload_n 2, 1) := okd_at mX3_doesIn_0 16 rfl
theorem dX3_doesIn_56 : decode cX3_doesIn 56 = .ok (.iload_n 3, 1) := okd_at mX3_doesIn_0 17 rfl
theorem dX3_doesIn_57 : decode cX3_doesIn 57 = .ok (.iadd, 1) := okd_at mX3_doesIn_0 18 rfl
theorem dX3_doesIn_58 : decode cX3_doesIn 58 = .ok (.iload_n 1, 1) := okd_at mX3_doesIn_0 19 rfl
theorem dX3_doesIn_59 : decode cX3_doesIn 59 = .ok (.isub, 1) := okd_at mX3_doesIn_0 20 rfl
theorem dX3_doesIn_60 : decode cX3_doesIn 60 = .ok (.ireturn, 1) := okd_at mX3_doesIn_0 21 rfl
theorem dX3_doesIn_61 : decode cX3_doesIn 61 = .ok (.bipush 7, 2) := okd_at mX3_doesIn_0 22 rfl
theorem dX3_doesIn_63 : decode cX3_doesIn 63 = .ok (.iload_n 1, 1) := okd_at mX3_doesIn_0 23 rfl
theorem dX3_doesIn_64 : decode cX3_doesIn 64 = .ok (.imul, 1) := okd_at mX3_doesIn_0 24 rfl
theorem dX3_doesIn_65 : decode cX3_doesIn 65 = .ok (.iconst 3, 1) := okd_at mX3_doesIn_0 25 rfl
theorem dX3_doesIn_66 : decode cX3_doesIn 66 = .ok (.iload_n 2, 1) := okd_at mX3_doesIn_0 26 rfl
theorem dX3_doesIn_67 : decode cX3_doesIn 67 = .ok (.imul, 1) := okd_at mX3_doesIn_0 27 rfl
theorem dX3_doesIn_68 : decode cX3_doesIn 68 = .ok (.iadd, 1) := okd_at mX3_doesIn_0 28 rfl
theorem dX3_doesIn_69 : decode cX3_doesIn 69 = .ok (.iload_n 3, 1) := okd_at mX3_doesIn_0 29 rfl
theorem dX3_doesIn_70 : decode cX3_doesIn 70 = .ok (.iadd, 1) := okd_at mX3_doesIn_0 30 rfl
theorem dX3_doesIn_71 : decode cX3_doesIn 71 = .ok (.bipush 31, 2) := okd_at mX3_doesIn_0 31 rfl
theorem dX3_doesIn_73 : decode cX3_doesIn 73 = .ok (.irem, 1) := okd_at mX3_doesIn_0 32 rfl
theorem dX3_doesIn_74 : decode cX3_doesIn 74 = .ok (.ireturn, 1) := okd_at mX3_doesIn_0 33 rfl
theorem dX3_doesIn_75 : decode cX3_doesIn 75 = .ok (.iload_n 1, 1) := okd_at mX3_doesIn_0 34 rfl
theorem dX3_doesIn_76 : decode cX3_doesIn 76 = .ok (.ireturn, 1) := okd_at mX3_doesIn_0 35 rfl
def lmX3_inSack_0 : List (Nat × Instr × Nat) := [(0, .iload_n 0, 1), (1, .iconst 2, 1), (2, .idiv, 1), (3, .iload_n 1, 1), (4, .iadd, 1), (5, .ireturn, 1)]
theorem mX3_inSack_0 : okd cX3_inSack lmX3_inSack_0 = true := by decide +kernel
theorem dX3_inSack_0 : decode cX3_inSack 0 = .ok (.iload_n 0, 1) := okd_at mX3_inSack_0 0 rfl
theorem dX3_inSack_1 : decode cX3_inSack 1 = .ok (.iconst 2, 1) := okd_at mX3_inSack_0 1 rfl
theorem dX3_inSack_2 : decode cX3_inSack 2 = .ok (.idiv, 1) := okd_at mX3_inSack_0 2 rfl
theorem dX3_inSack_3 : decode cX3_inSack 3 = .ok (.iload_n 1, 1) := okd_at mX3_inSack_0 3 rfl
theorem dX3_inSack_4 : decode cX3_inSack 4 = .ok (.iadd, 1) := okd_at mX3_inSack_0 4 rfl
theorem dX3_inSack_5 : decode cX3_inSack 5 = .ok (.ireturn, 1) := okd_at mX3_inSack_0 5 rfl
def lmX3_isOne_0 : List (Nat × Instr × Nat) := [(0, .iload_n 0, 1), (1, .istore_n 2, 1), (2, .iconst 0, 1), (3, .istore_n 3, 1), (4, .iload_n 3, 1), (5, .iconst 5, 1), (6, .if_icmp .gt 38, 3), (9, .iload_n 2, 1), (10, .ifCond .lt 34, 3), (13, .iload_n 2, 1), (14, .iload_n 1, 1), (15, .if_icmp .ne 5, 3), (18, .iconst 1, 1), (19, .ireturn, 1), (20, .iload_n 2, 1), (21, .getstatic 9, 3), (24, .arraylength, 1), (25, .if_icmp .ge 11, 3), (28, .getstatic 9, 3), (31, .iload_n 2, 1), (32, .iaload, 1), (33, .goto 4, 3), (36, .iconst (-1), 1), (37, .istore_n 2, 1), (38, .iinc 3 1, 3), (41, .goto (-37), 3), (44, .iconst 0, 1), (45, .ireturn, 1)]
theorem mX3_isOne_0 : okd cX3_isOne lmX3_isOne_0 = true := by decide +kernel
theorem dX3_isOne_0 : decode cX3_isOne 0 = .ok (.iload_n 0, 1) := okd_at mX3_isOne_0 0 rfl
theorem dX3_isOne_1 : decode cX3_isOne 1 = .ok (.istore_n 2, 1) := okd_at mX3_isOne_0 1 rfl
theorem dX3_isOne_2 : decode cX3_isOne 2 = .ok (.iconst 0, 1) := okd_at mX3_isOne_0 2 rfl
theorem dX3_isOne_3 : decode cX3_isOne 3 = .ok (.istore_n 3, 1) := okd_at mX3_isOne_0 3 rfl
theorem dX3_isOne_4 : decode cX3_isOne 4 = .ok (.iload_n 3, 1) := okd_at mX3_isOne_0 4 rfl
theorem dX3_isOne_5 : decode cX3_isOne 5 = .ok (.iconst 5, 1) := okd_at mX3_isOne_0 5 rfl
theorem dX3_isOne_6 : decode cX3_isOne 6 = .ok (.if_icmp .gt 38, 3) := okd_at mX3_isOne_0 6 rfl
theorem dX3_isOne_9 : decode cX3_isOne 9 = .ok (.iload_n 2, 1) := okd_at mX3_isOne_0 7 rfl
theorem dX3_isOne_10 : decode cX3_isOne 10 = .ok (.ifCond .lt 34, 3) := okd_at mX3_isOne_0 8 rfl
theorem dX3_isOne_13 : decode cX3_isOne 13 = .ok (.iload_n 2, 1) := okd_at mX3_isOne_0 9 rfl
theorem dX3_isOne_14 : decode cX3_isOne 14 = .ok (.iload_n 1, 1) := okd_at mX3_isOne_0 10 rfl
theorem dX3_isOne_15 : decode cX3_isOne 15 = .ok (.if_icmp .ne 5, 3) := okd_at mX3_isOne_0 11 rfl
theorem dX3_isOne_18 : decode cX3_isOne 18 = .ok (.iconst 1, 1) := okd_at mX3_isOne_0 12 rfl
theorem dX3_isOne_19 : decode cX3_isOne 19 = .ok (.ireturn, 1) := okd_at mX3_isOne_0 13 rfl
theorem dX3_isOne_20 : decode cX3_isOne 20 = .ok (.iload_n 2, 1) := okd_at mX3_isOne_0 14 rfl
theorem dX3_isOne_21 : decode cX3_isOne 21 = .ok (.getstatic 9, 3) := okd_at mX3_isOne_0 15 rfl
theorem dX3_isOne_24 : decode cX3_isOne 24 = .ok (.arraylength, 1) := okd_at mX3_isOne_0 16 rfl
theorem dX3_isOne_25 : decode cX3_isOne 25 = .ok (.if_icmp .ge 11, 3) := okd_at mX3_isOne_0 17 rfl
theorem dX3_isOne_28 : decode cX3_isOne 28 = .ok (.getstatic 9, 3) := okd_at mX3_isOne_0 18 rfl
theorem dX3_isOne_31 : decode cX3_isOne 31 = .ok (.iload_n 2, 1) := okd_at mX3_isOne_0 19 rfl
theorem dX3_isOne_32 : decode cX3_isOne 32 = .ok (.iaload, 1) := okd_at mX3_isOne_0 20 rfl
theorem dX3_isOne_33 : decode cX3_isOne 33 = .ok (.goto 4, 3) := okd_at mX3_isOne_0 21 rfl
theorem dX3_isOne_36 : decode cX3_isOne 36 = .ok (.iconst (-1), 1) := okd_at mX3_isOne_0 22 rfl
theorem dX3_isOne_37 : decode cX3_isOne 37 = .ok (.istore_n 2, 1) := okd_at mX3_isOne_0 23 rfl
theorem dX3_isOne_38 : decode cX3_isOne 38 = .ok (.iinc 3 1, 3) := okd_at mX3_isOne_0 24 rfl
theorem dX3_isOne_41 : decode cX3_isOne 41 = .ok (.goto (-37), 3) := okd_at mX3_isOne_0 25 rfl
theorem dX3_isOne_44 : decode cX3_isOne 44 = .ok (.iconst 0, 1) := okd_at mX3_isOne_0 26 rfl
theorem dX3_isOne_45 : decode cX3_isOne 45 = .ok (.ireturn, 1) := okd_at mX3_isOne_0 27 rfl
def lmX3_ribbonsIn_0 : List (Nat × Instr × Nat) := [(0, .iload_n 0, 1), (1, .iconst 2, 1), (2, .invokestatic 17, 3), (5, .ifCond .eq 10, 3), (8, .iload_n 2, 1), (9, .iconst 3, 1), (10, .if_icmp .ge 5, 3), (13, .iconst 1, 1), (14, .ireturn, 1), (15, .iload_n 0, 1), (16, .iconst 5, 1), (17, .if_icmp .ne 9, 3), (20, .iload_n 2, 1), (21, .iconst 2, 1), (22, .idiv, 1), (23, .goto 4, 3), (26, .iload_n 1, 1), (27, .ireturn, 1)]
theorem mX3_ribbonsIn_0 : okd cX3_ribbonsIn lmX3_ribbonsIn_0 = true := by decide +kernel
theorem dX3_ribbonsIn_0 : decode cX3_ribbonsIn 0 = .ok (.iload_n 0, 1) := okd_at mX3_ribbonsIn_0 0 rfl
theorem dX3_ribbonsIn_1 : decode cX3_ribbonsIn 1 = .ok (.iconst 2, 1) := okd_at mX3_ribbonsIn_0 1 rfl
theorem dX3_ribbonsIn_2 : decode cX3_ribbonsIn 2 = .ok (.invokestatic 17, 3) := okd_at mX3_ribbonsIn_0 2 rfl
theorem dX3_ribbonsIn_5 : decode cX3_ribbonsIn 5 = .ok (.ifCond .eq 10, 3) := okd_at mX3_ribbonsIn_0 3 rfl
theorem dX3_ribbonsIn_8 : decode cX3_ribbonsIn 8 = .ok (.iload_n 2, 1) := okd_at mX3_ribbonsIn_0 4 rfl
theorem dX3_ribbonsIn_9 : decode cX3_ribbonsIn 9 = .ok (.iconst 3, 1) := okd_at mX3_ribbonsIn_0 5 rfl
theorem dX3_ribbonsIn_10 : decode cX3_ribbonsIn 10 = .ok (.if_icmp .ge 5, 3) := okd_at mX3_ribbonsIn_0 6 rfl
theorem dX3_ribbonsIn_13 : decode cX3_ribbonsIn 13 = .ok (.iconst 1, 1) := okd_at mX3_ribbonsIn_0 7 rfl
theorem dX3_ribbonsIn_14 : decode cX3_ribbonsIn 14 = .ok (.ireturn, 1) := okd_at mX3_ribbonsIn_0 8 rfl
theorem dX3_ribbonsIn_15 : decode cX3_ribbonsIn 15 = .ok (.iload_n 0, 1) := okd_at mX3_ribbonsIn_0 9 rfl
theorem dX3_ribbonsIn_16 : decode cX3_ribbonsIn 16 = .ok (.iconst 5, 1) := okd_at mX3_ribbonsIn_0 10 rfl
theorem dX3_ribbonsIn_17 : decode cX3_ribbonsIn 17 = .ok (.if_icmp .ne 9, 3) := okd_at mX3_ribbonsIn_0 11 rfl
theorem dX3_ribbonsIn_20 : decode cX3_ribbonsIn 20 = .ok (.iload_n 2, 1) := okd_at mX3_ribbonsIn_0 12 rfl
theorem dX3_ribbonsIn_21 : decode cX3_ribbonsIn 21 = .ok (.iconst 2, 1) := okd_at mX3_ribbonsIn_0 13 rfl
theorem dX3_ribbonsIn_22 : decode cX3_ribbonsIn 22 = .ok (.idiv, 1) := okd_at mX3_ribbonsIn_0 14 rfl
theorem dX3_ribbonsIn_23 : decode cX3_ribbonsIn 23 = .ok (.goto 4, 3) := okd_at mX3_ribbonsIn_0 15 rfl
theorem dX3_ribbonsIn_26 : decode cX3_ribbonsIn 26 = .ok (.iload_n 1, 1) := okd_at mX3_ribbonsIn_0 16 rfl
theorem dX3_ribbonsIn_27 : decode cX3_ribbonsIn 27 = .ok (.ireturn, 1) := okd_at mX3_ribbonsIn_0 17 rfl
def lmX3_yardsCountIn_0 : List (Nat × Instr × Nat) := [(0, .iload_n 0, 1), (1, .lookupswitch 36 #[(3, 27), (4, 33)], 27), (28, .iload_n 1, 1), (29, .iload_n 2, 1), (30, .imul, 1), (31, .iconst 2, 1), (32, .idiv, 1), (33, .ireturn, 1), (34, .iload_n 1, 1), (35, .ineg, 1), (36, .ireturn, 1), (37, .iload_n 1, 1), (38, .ireturn, 1)]
theorem mX3_yardsCountIn_0 : okd cX3_yardsCountIn lmX3_yardsCountIn_0 = true := by decide +kernel
theorem dX3_yardsCountIn_0 : decode cX3_yardsCountIn 0 = .ok (.iload_n 0, 1) := okd_at mX3_yardsCountIn_0 0 rfl
theorem dX3_yardsCountIn_1 : decode cX3_yardsCountIn 1 = .ok (.lookupswitch 36 #[(3, 27), (4, 33)], 27) := okd_at mX3_yardsCountIn_0 1 rfl
theorem dX3_yardsCountIn_28 : decode cX3_yardsCountIn 28 = .ok (.iload_n 1, 1) := okd_at mX3_yardsCountIn_0 2 rfl
theorem dX3_yardsCountIn_29 : decode cX3_yardsCountIn 29 = .ok (.iload_n 2, 1) := okd_at mX3_yardsCountIn_0 3 rfl
theorem dX3_yardsCountIn_30 : decode cX3_yardsCountIn 30 = .ok (.imul, 1) := okd_at mX3_yardsCountIn_0 4 rfl
theorem dX3_yardsCountIn_31 : decode cX3_yardsCountIn 31 = .ok (.iconst 2, 1) := okd_at mX3_yardsCountIn_0 5 rfl
theorem dX3_yardsCountIn_32 : decode cX3_yardsCountIn 32 = .ok (.idiv, 1) := okd_at mX3_yardsCountIn_0 6 rfl
theorem dX3_yardsCountIn_33 : decode cX3_yardsCountIn 33 = .ok (.ireturn, 1) := okd_at mX3_yardsCountIn_0 7 rfl
theorem dX3_yardsCountIn_34 : decode cX3_yardsCountIn 34 = .ok (.iload_n 1, 1) := okd_at mX3_yardsCountIn_0 8 rfl
theorem dX3_yardsCountIn_35 : decode cX3_yardsCountIn 35 = .ok (.ineg, 1) := okd_at mX3_yardsCountIn_0 9 rfl
theorem dX3_yardsCountIn_36 : decode cX3_yardsCountIn 36 = .ok (.ireturn, 1) := okd_at mX3_yardsCountIn_0 10 rfl
theorem dX3_yardsCountIn_37 : decode cX3_yardsCountIn 37 = .ok (.iload_n 1, 1) := okd_at mX3_yardsCountIn_0 11 rfl
theorem dX3_yardsCountIn_38 : decode cX3_yardsCountIn 38 = .ok (.ireturn, 1) := okd_at mX3_yardsCountIn_0 12 rfl
def lmX4_digits_0 : List (Nat × Instr × Nat) := [(0, .iconst 0, 1), (1, .istore_n 1, 1), (2, .iconst 0, 1), (3, .istore_n 2, 1), (4, .iload_n 2, 1), (5, .aload_n 0, 1), (6, .getfield 23, 3), (9, .getfield 67, 3), (12, .if_icmp .ge 25, 3), (15, .iload_n 1, 1), (16, .bipush 10, 2), (18, .imul, 1), (19, .aload_n 0, 1), (20, .getfield 9, 3), (23, .iload_n 2, 1), (24, .invokestatic 72, 3), (27, .iadd, 1), (28, .iconst 1, 1), (29, .iadd, 1), (30, .istore_n 1, 1), (31, .iinc 2 1, 3), (34, .goto (-30), 3), (37, .iload_n 1, 1), (38, .ireturn, 1)]
theorem mX4_digits_0 : okd cX4_digits lmX4_digits_0 = true := by decide +kernel
theorem dX4_digits_0 : decode cX4_digits 0 = .ok (.iconst 0, 1) := okd_at mX4_digits_0 0 rfl
theorem dX4_digits_1 : decode cX4_digits 1 = .ok (.istore_n 1, 1) := okd_at mX4_digits_0 1 rfl
theorem dX4_digits_2 : decode cX4_digits 2 = .ok (.iconst 0, 1) := okd_at mX4_digits_0 2 rfl
theorem dX4_digits_3 : decode cX4_digits 3 = .ok (.istore_n 2, 1) := okd_at mX4_digits_0 3 rfl
theorem dX4_digits_4 : decode cX4_digits 4 = .ok (.iload_n 2, 1) := okd_at mX4_digits_0 4 rfl
theorem dX4_digits_5 : decode cX4_digits 5 = .ok (.aload_n 0, 1) := okd_at mX4_digits_0 5 rfl
theorem dX4_digits_6 : decode cX4_digits 6 = .ok (.getfield 23, 3) := okd_at mX4_digits_0 6 rfl
theorem dX4_digits_9 : decode cX4_digits 9 = .ok (.getfield 67, 3) := okd_at mX4_digits_0 7 rfl
theorem dX4_digits_12 : decode cX4_digits 12 = .ok (.if_icmp .ge 25, 3) := okd_at mX4_digits_0 8 rfl
theorem dX4_digits_15 : decode cX4_digits 15 = .ok (.iload_n 1, 1) := okd_at mX4_digits_0 9 rfl
theorem dX4_digits_16 : decode cX4_digits 16 = .ok (.bipush 10, 2) := okd_at mX4_digits_0 10 rfl
theorem dX4_digits_18 : decode cX4_digits 18 = .ok (.imul, 1) := okd_at mX4_digits_0 11 rfl
theorem dX4_digits_19 : decode cX4_digits 19 = .ok (.aload_n 0, 1) := okd_at mX4_digits_0 12 rfl
theorem dX4_digits_20 : decode cX4_digits 20 = .ok (.getfield 9, 3) := okd_at mX4_digits_0 13 rfl
theorem dX4_digits_23 : decode cX4_digits 23 = .ok (.iload_n 2, 1) := okd_at mX4_digits_0 14 rfl
theorem dX4_digits_24 : decode cX4_digits 24 = .ok (.invokestatic 72, 3) := okd_at mX4_digits_0 15 rfl
theorem dX4_digits_27 : decode cX4_digits 27 = .ok (.iadd, 1) := okd_at mX4_digits_0 16 rfl
theorem dX4_digits_28 : decode cX4_digits 28 = .ok (.iconst 1, 1) := okd_at mX4_digits_0 17 rfl
theorem dX4_digits_29 : decode cX4_digits 29 = .ok (.iadd, 1) := okd_at mX4_digits_0 18 rfl
theorem dX4_digits_30 : decode cX4_digits 30 = .ok (.istore_n 1, 1) := okd_at mX4_digits_0 19 rfl
theorem dX4_digits_31 : decode cX4_digits 31 = .ok (.iinc 2 1, 3) := okd_at mX4_digits_0 20 rfl
theorem dX4_digits_34 : decode cX4_digits 34 = .ok (.goto (-30), 3) := okd_at mX4_digits_0 21 rfl
theorem dX4_digits_37 : decode cX4_digits 37 = .ok (.iload_n 1, 1) := okd_at mX4_digits_0 22 rfl
theorem dX4_digits_38 : decode cX4_digits 38 = .ok (.ireturn, 1) := okd_at mX4_digits_0 23 rfl
def lmX4_goOn_0 : List (Nat × Instr × Nat) := [(0, .aload_n 0, 1), (1, .getfield 23, 3), (4, .getfield 67, 3), (7, .iconst 2, 1), (8, .isub, 1), (9, .istore_n 1, 1), (10, .iconst 0, 1), (11, .istore_n 2, 1), (12, .iload_n 2, 1), (13, .bipush 6, 2), (15, .if_icmp .ge 37, 3), (18, .iload_n 1, 1), (19, .ifCond .lt 33, 3), (22, .aload_n 0, 1), (23, .getfield 9, 3), (26, .iload_n 1, 1), (27, .invokestatic 72, 3), (30, .aload_n 0, 1), (31, .getfield 9, 3), (34, .iload_n 1, 1), (35, .iconst 1, 1), (36, .iadd, 1), (37, .invokestatic 72, 3), (40, .if_icmp .le 12, 3), (43, .iinc 1 (-1), 3), (46, .iinc 2 1, 3), (49, .goto (-37), 3), (52, .iload_n 1, 1), (53, .ifCond .ge 5, 3), (56, .iconst (-1), 1), (57, .ireturn, 1), (58, .aload_n 0, 1), (59, .getfield 23, 3), (62, .getfield 67, 3), (65, .iconst 1, 1), (66, .isub, 1), (67, .istore_n 2, 1), (68, .iconst 0, 1), (69, .istore_n 3, 1), (70, .iload_n 3, 1), (71, .bipush 6, 2), (73, .if_icmp .ge 31, 3), (76, .aload_n 0, 1), (77, .getfield 9, 3), (80, .iload_n 2, 1), (81, .invokestatic 72, 3), (84, .aload_n 0, 1), (85, .getfield 9, 3), (88, .iload_n 1, 1), (89, .invokestatic 72, 3), (92, .if_icmp .ge 12, 3), (95, .iinc 2 (-1), 3), (98, .iinc 3 1, 3), (101, .goto (-31), 3), (104, .aload_n 0, 1), (105, .iload_n 1, 1), (106, .iload_n 2, 1), (107, .invokevirtual 91, 3), (110, .iload_n 1, 1), (111, .iconst 1, 1)]
theorem mX4_goOn_0 : okd cX4_goOn lmX4_goOn_0 = true := by decide +kernel
theorem dX4_goOn_0 : decode cX4_goOn 0 = .ok (.aload_n 0, 1) := okd_at mX4_goOn_0 0 rfl
theorem dX4_goOn_1 : decode cX4_goOn 1 = .ok (.getfield 23, 3) := okd_at mX4_goOn_0 1 rfl
theorem dX4_goOn_4 : decode cX4_goOn 4 = .ok (.getfield 67, 3) := okd_at mX4_goOn_0 2 rfl
theorem dX4_goOn_7 : decode cX4_goOn 7 = .ok (.iconst 2, 1) := okd_at mX4_goOn_0 3 rfl
theorem dX4_goOn_8 : decode cX4_goOn 8 = .ok (.isub, 1) := okd_at mX4_goOn_0 4 rfl
theorem dX4_goOn_9 : decode cX4_goOn 9 = .ok (.istore_n 1, 1) := okd_at mX4_goOn_0 5 rfl
theorem dX4_goOn_10 : decode cX4_goOn 10 = .ok (.iconst 0, 1) := okd_at mX4_goOn_0 6 rfl
theorem dX4_goOn_11 : decode cX4_goOn 11 = .ok (.istore_n 2, 1) := okd_at mX4_goOn_0 7 rfl
theorem dX4_goOn_12 : decode cX4_goOn 12 = .ok (.iload_n 2, 1) := okd_at mX4_goOn_0 8 rfl
theorem dX4_goOn_13 : decode cX4_goOn 13 = .ok (.bipush 6, 2) := okd_at mX4_goOn_0 9 rfl
theorem dX4_goOn_15 : decode cX4_goOn 15 = .ok (.if_icmp .ge 37, 3) := okd_at mX4_goOn_0 10 rfl
theorem dX4_goOn_18 : decode cX4_goOn 18 = .ok (.iload_n 1, 1) := okd_at mX4_goOn_0 11 rfl
theorem dX4_goOn_19 : decode cX4_goOn 19 = .ok (.ifCond .lt 33, 3) := okd_at mX4_goOn_0 12 rfl
theorem dX4_goOn_22 : decode cX4_goOn 22 = .ok (.aload_n 0, 1) := okd_at mX4_goOn_0 13 rfl
theorem dX4_goOn_23 : decode cX4_goOn 23 = .ok (.getfield 9, 3) := okd_at mX4_goOn_0 14 rfl
theorem dX4_goOn_26 : decode cX4_goOn 26 = .ok (.iload_n 1, 1) := okd_at mX4_goOn_0 15 rfl
theorem dX4_goOn_27 : decode cX4_goOn 27 = .ok (.invokestatic 72, 3) := okd_at mX4_goOn_0 16 rfl
theorem dX4_goOn_30 : decode cX4_goOn 30 = .ok (.aload_n 0, 1) := okd_at mX4_goOn_0 17 rfl
theorem dX4_goOn_31 : decode cX4_goOn 31 = .ok (.getfield 9, 3) := okd_at mX4_goOn_0 18 rfl
theorem dX4_goOn_34 : decode cX4_goOn 34 = .ok (.iload_n 1, 1) := okd_at mX4_goOn_0 19 rfl
theorem dX4_goOn_35 : decode cX4_goOn 35 = .ok (.iconst 1, 1) := okd_at mX4_goOn_0 20 rfl
theorem dX4_goOn_36 : decode cX4_goOn 36 = .ok (.iadd, 1) := okd_at mX4_goOn_0 21 rfl
theorem dX4_goOn_37 : decode cX4_goOn 37 = .ok (.invokestatic 72, 3) := okd_at mX4_goOn_0 22 rfl
theorem dX4_goOn_40 : decode cX4_goOn 40 = .ok (.if_icmp .le 12, 3) := okd_at mX4_goOn_0 23 rfl
theorem dX4_goOn_43 : decode cX4_goOn 43 = .ok (.iinc 1 (-1), 3) := okd_at mX4_goOn_0 24 rfl
theorem dX4_goOn_46 : decode cX4_goOn 46 = .ok (.iinc 2 1, 3) := okd_at mX4_goOn_0 25 rfl
theorem dX4_goOn_49 : decode cX4_goOn 49 = .ok (.goto (-37), 3) := okd_at mX4_goOn_0 26 rfl
theorem dX4_goOn_52 : decode cX4_goOn 52 = .ok (.iload_n 1, 1) := okd_at mX4_goOn_0 27 rfl
theorem dX4_goOn_53 : decode cX4_goOn 53 = .ok (.ifCond .ge 5, 3) := okd_at mX4_goOn_0 28 rfl
theorem dX4_goOn_56 : decode cX4_goOn 56 = .ok (.iconst (-1), 1) := okd_at mX4_goOn_0 29 rfl
theorem dX4_goOn_57 : decode cX4_goOn 57 = .ok (.ireturn, 1) := okd_at mX4_goOn_0 30 rfl
theorem dX4_goOn_58 : decode cX4_goOn 58 = .ok (.aload_n 0, 1) := okd_at mX4_goOn_0 31 rfl
theorem dX4_goOn_59 : decode cX4_goOn 59 = .ok (.getfield 23, 3) := okd_at mX4_goOn_0 32 rfl
theorem dX4_goOn_62 : decode cX4_goOn 62 = .ok (.getfield 67, 3) := okd_at mX4_goOn_0 33 rfl
theorem dX4_goOn_65 : decode cX4_goOn 65 = .ok (.iconst 1, 1) := okd_at mX4_goOn_0 34 rfl
theorem dX4_goOn_66 : decode cX4_goOn 66 = .ok (.isub, 1) := okd_at mX4_goOn_0 35 rfl
theorem dX4_goOn_67 : decode cX4_goOn 67 = .ok (.istore_n 2, 1) := okd_at mX4_goOn_0 36 rfl
theorem dX4_goOn_68 : decode cX4_goOn 68 = .ok (.iconst 0, 1) := okd_at mX4_goOn_0 37 rfl
theorem dX4_goOn_69 : decode cX4_goOn 69 = .ok (.istore_n 3, 1) := okd_at mX4_goOn_0 38 rfl
theorem dX4_goOn_70 : decode cX4_goOn 70 = .ok (.iload_n 3, 1) := okd_at mX4_goOn_0 39 rfl
theorem dX4_goOn_71 : decode cX4_goOn 71 = .ok (.bipush 6, 2) := okd_at mX4_goOn_0 40 rfl
theorem dX4_goOn_73 : decode cX4_goOn 73 = .ok (.if_icmp .ge 31, 3) := okd_at mX4_goOn_0 41 rfl
theorem dX4_goOn_76 : decode cX4_goOn 76 = .ok (.aload_n 0, 1) := okd_at mX4_goOn_0 42 rfl
theorem dX4_goOn_77 : decode cX4_goOn 77 = .ok (.getfield 9, 3) := okd_at mX4_goOn_0 43 rfl
theorem dX4_goOn_80 : decode cX4_goOn 80 = .ok (.iload_n 2, 1) := okd_at mX4_goOn_0 44 rfl
theorem dX4_goOn_81 : decode cX4_goOn 81 = .ok (.invokestatic 72, 3) := okd_at mX4_goOn_0 45 rfl
theorem dX4_goOn_84 : decode cX4_goOn 84 = .ok (.aload_n 0, 1) := okd_at mX4_goOn_0 46 rfl
theorem dX4_goOn_85 : decode cX4_goOn 85 = .ok (.getfield 9, 3) := okd_at mX4_goOn_0 47 rfl
theorem dX4_goOn_88 : decode cX4_goOn 88 = .ok (.iload_n 1, 1) := okd_at mX4_goOn_0 48 rfl
theorem dX4_goOn_89 : decode cX4_goOn 89 = .ok (.invokestatic 72, 3) := okd_at mX4_goOn_0 49 rfl
theorem dX4_goOn_92 : decode cX4_goOn 92 = .ok (.if_icmp .ge 12, 3) := okd_at mX4_goOn_0 50 rfl
theorem dX4_goOn_95 : decode cX4_goOn 95 = .ok (.iinc 2 (-1), 3) := okd_at mX4_goOn_0 51 rfl
theorem dX4_goOn_98 : decode cX4_goOn 98 = .ok (.iinc 3 1, 3) := okd_at mX4_goOn_0 52 rfl
theorem dX4_goOn_101 : decode cX4_goOn 101 = .ok (.goto (-31), 3) := okd_at mX4_goOn_0 53 rfl
theorem dX4_goOn_104 : decode cX4_goOn 104 = .ok (.aload_n 0, 1) := okd_at mX4_goOn_0 54 rfl
theorem dX4_goOn_105 : decode cX4_goOn 105 = .ok (.iload_n 1, 1) := okd_at mX4_goOn_0 55 rfl
theorem dX4_goOn_106 : decode cX4_goOn 106 = .ok (.iload_n 2, 1) := okd_at mX4_goOn_0 56 rfl
theorem dX4_goOn_107 : decode cX4_goOn 107 = .ok (.invokevirtual 91, 3) := okd_at mX4_goOn_0 57 rfl
theorem dX4_goOn_110 : decode cX4_goOn 110 = .ok (.iload_n 1, 1) := okd_at mX4_goOn_0 58 rfl
theorem dX4_goOn_111 : decode cX4_goOn 111 = .ok (.iconst 1, 1) := okd_at mX4_goOn_0 59 rfl
def lmX4_goOn_1 : List (Nat × Instr × Nat) := [(112, .iadd, 1), (113, .istore_n 3, 1), (114, .aload_n 0, 1), (115, .getfield 23, 3), (118, .getfield 67, 3), (121, .iconst 1, 1), (122, .isub, 1), (123, .istore 4, 2), (125, .iload_n 3, 1), (126, .iload 4, 2), (128, .if_icmp .ge 19, 3), (131, .aload_n 0, 1), (132, .iload_n 3, 1), (133, .iload 4, 2), (135, .invokevirtual 91, 3), (138, .iinc 3 1, 3), (141, .iinc 4 (-1), 3), (144, .goto (-19), 3), (147, .iload_n 1, 1), (148, .ireturn, 1)]
theorem mX4_goOn_1 : okd cX4_goOn lmX4_goOn_1 = true := by decide +kernel
theorem dX4_goOn_112 : decode cX4_goOn 112 = .ok (.iadd, 1) := okd_at mX4_goOn_1 0 rfl
theorem dX4_goOn_113 : decode cX4_goOn 113 = .ok (.istore_n 3, 1) := okd_at mX4_goOn_1 1 rfl
theorem dX4_goOn_114 : decode cX4_goOn 114 = .ok (.aload_n 0, 1) := okd_at mX4_goOn_1 2 rfl
theorem dX4_goOn_115 : decode cX4_goOn 115 = .ok (.getfield 23, 3) := okd_at mX4_goOn_1 3 rfl
theorem dX4_goOn_118 : decode cX4_goOn 118 = .ok (.getfield 67, 3) := okd_at mX4_goOn_1 4 rfl
theorem dX4_goOn_121 : decode cX4_goOn 121 = .ok (.iconst 1, 1) := okd_at mX4_goOn_1 5 rfl
theorem dX4_goOn_122 : decode cX4_goOn 122 = .ok (.isub, 1) := okd_at mX4_goOn_1 6 rfl
theorem dX4_goOn_123 : decode cX4_goOn 123 = .ok (.istore 4, 2) := okd_at mX4_goOn_1 7 rfl
theorem dX4_goOn_125 : decode cX4_goOn 125 = .ok (.iload_n 3, 1) := okd_at mX4_goOn_1 8 rfl
theorem dX4_goOn_126 : decode cX4_goOn 126 = .ok (.iload 4, 2) := okd_at mX4_goOn_1 9 rfl
theorem dX4_goOn_128 : decode cX4_goOn 128 = .ok (.if_icmp .ge 19, 3) := okd_at mX4_goOn_1 10 rfl
theorem dX4_goOn_131 : decode cX4_goOn 131 = .ok (.aload_n 0, 1) := okd_at mX4_goOn_1 11 rfl
theorem dX4_goOn_132 : decode cX4_goOn 132 = .ok (.iload_n 3, 1) := okd_at mX4_goOn_1 12 rfl
theorem dX4_goOn_133 : decode cX4_goOn 133 = .ok (.iload 4, 2) := okd_at mX4_goOn_1 13 rfl
theorem dX4_goOn_135 : decode cX4_goOn 135 = .ok (.invokevirtual 91, 3) := okd_at mX4_goOn_1 14 rfl
theorem dX4_goOn_138 : decode cX4_goOn 138 = .ok (.iinc 3 1, 3) := okd_at mX4_goOn_1 15 rfl
theorem dX4_goOn_141 : decode cX4_goOn 141 = .ok (.iinc 4 (-1), 3) := okd_at mX4_goOn_1 16 rfl
theorem dX4_goOn_144 : decode cX4_goOn 144 = .ok (.goto (-19), 3) := okd_at mX4_goOn_1 17 rfl
theorem dX4_goOn_147 : decode cX4_goOn 147 = .ok (.iload_n 1, 1) := okd_at mX4_goOn_1 18 rfl
theorem dX4_goOn_148 : decode cX4_goOn 148 = .ok (.ireturn, 1) := okd_at mX4_goOn_1 19 rfl
def lmX4_keepAhead_0 : List (Nat × Instr × Nat) := [(0, .iload_n 1, 1), (1, .ifCond .lt 43, 3), (4, .iload_n 1, 1), (5, .aload_n 0, 1), (6, .getfield 17, 3), (9, .arraylength, 1), (10, .if_icmp .ge 34, 3), (13, .aload_n 0, 1), (14, .getfield 27, 3), (17, .getfield 56, 3), (20, .aload_n 0, 1), (21, .getfield 17, 3), (24, .iload_n 1, 1), (25, .aaload, 1), (26, .invokestatic 59, 3), (29, .aload_n 0, 1), (30, .getfield 20, 3), (33, .iload_n 1, 1), (34, .aload_n 0, 1), (35, .getfield 27, 3), (38, .getfield 63, 3), (41, .invokestatic 87, 3), (44, .return_, 1)]
theorem mX4_keepAhead_0 : okd cX4_keepAhead lmX4_keepAhead_0 = true := by decide +kernel
theorem dX4_keepAhead_0 : decode cX4_keepAhead 0 = .ok (.iload_n 1, 1) := okd_at mX4_keepAhead_0 0 rfl
theorem dX4_keepAhead_1 : decode cX4_keepAhead 1 = .ok (.ifCond .lt 43, 3) := okd_at mX4_keepAhead_0 1 rfl
theorem dX4_keepAhead_4 : decode cX4_keepAhead 4 = .ok (.iload_n 1, 1) := okd_at mX4_keepAhead_0 2 rfl
theorem dX4_keepAhead_5 : decode cX4_keepAhead 5 = .ok (.aload_n 0, 1) := okd_at mX4_keepAhead_0 3 rfl
theorem dX4_keepAhead_6 : decode cX4_keepAhead 6 = .ok (.getfield 17, 3) := okd_at mX4_keepAhead_0 4 rfl
theorem dX4_keepAhead_9 : decode cX4_keepAhead 9 = .ok (.arraylength, 1) := okd_at mX4_keepAhead_0 5 rfl
theorem dX4_keepAhead_10 : decode cX4_keepAhead 10 = .ok (.if_icmp .ge 34, 3) := okd_at mX4_keepAhead_0 6 rfl
theorem dX4_keepAhead_13 : decode cX4_keepAhead 13 = .ok (.aload_n 0, 1) := okd_at mX4_keepAhead_0 7 rfl
theorem dX4_keepAhead_14 : decode cX4_keepAhead 14 = .ok (.getfield 27, 3) := okd_at mX4_keepAhead_0 8 rfl
theorem dX4_keepAhead_17 : decode cX4_keepAhead 17 = .ok (.getfield 56, 3) := okd_at mX4_keepAhead_0 9 rfl
theorem dX4_keepAhead_20 : decode cX4_keepAhead 20 = .ok (.aload_n 0, 1) := okd_at mX4_keepAhead_0 10 rfl
theorem dX4_keepAhead_21 : decode cX4_keepAhead 21 = .ok (.getfield 17, 3) := okd_at mX4_keepAhead_0 11 rfl
theorem dX4_keepAhead_24 : decode cX4_keepAhead 24 = .ok (.iload_n 1, 1) := okd_at mX4_keepAhead_0 12 rfl
theorem dX4_keepAhead_25 : decode cX4_keepAhead 25 = .ok (.aaload, 1) := okd_at mX4_keepAhead_0 13 rfl
theorem dX4_keepAhead_26 : decode cX4_keepAhead 26 = .ok (.invokestatic 59, 3) := okd_at mX4_keepAhead_0 14 rfl
theorem dX4_keepAhead_29 : decode cX4_keepAhead 29 = .ok (.aload_n 0, 1) := okd_at mX4_keepAhead_0 15 rfl
theorem dX4_keepAhead_30 : decode cX4_keepAhead 30 = .ok (.getfield 20, 3) := okd_at mX4_keepAhead_0 16 rfl
theorem dX4_keepAhead_33 : decode cX4_keepAhead 33 = .ok (.iload_n 1, 1) := okd_at mX4_keepAhead_0 17 rfl
theorem dX4_keepAhead_34 : decode cX4_keepAhead 34 = .ok (.aload_n 0, 1) := okd_at mX4_keepAhead_0 18 rfl
theorem dX4_keepAhead_35 : decode cX4_keepAhead 35 = .ok (.getfield 27, 3) := okd_at mX4_keepAhead_0 19 rfl
theorem dX4_keepAhead_38 : decode cX4_keepAhead 38 = .ok (.getfield 63, 3) := okd_at mX4_keepAhead_0 20 rfl
theorem dX4_keepAhead_41 : decode cX4_keepAhead 41 = .ok (.invokestatic 87, 3) := okd_at mX4_keepAhead_0 21 rfl
theorem dX4_keepAhead_44 : decode cX4_keepAhead 44 = .ok (.return_, 1) := okd_at mX4_keepAhead_0 22 rfl
def lmX4_runFrom_0 : List (Nat × Instr × Nat) := [(0, .iload_n 1, 1), (1, .ifCond .lt 50, 3), (4, .iload_n 1, 1), (5, .aload_n 0, 1), (6, .getfield 17, 3), (9, .arraylength, 1), (10, .if_icmp .ge 41, 3), (13, .iload_n 1, 1), (14, .aload_n 0, 1), (15, .getfield 20, 3), (18, .arraylength, 1), (19, .if_icmp .ge 32, 3), (22, .aload_n 0, 1), (23, .getfield 17, 3), (26, .iload_n 1, 1), (27, .aaload, 1), (28, .aload_n 0, 1), (29, .getfield 27, 3), (32, .getfield 56, 3), (35, .invokestatic 59, 3), (38, .aload_n 0, 1), (39, .getfield 27, 3), (42, .aload_n 0, 1), (43, .getfield 20, 3), (46, .iload_n 1, 1), (47, .iaload, 1), (48, .putfield 63, 3), (51, .iload_n 1, 1), (52, .istore_n 2, 1), (53, .iload_n 2, 1), (54, .aload_n 0, 1), (55, .getfield 23, 3), (58, .getfield 67, 3), (61, .if_icmp .ge 39, 3), (64, .aload_n 0, 1), (65, .iload_n 2, 1), (66, .invokevirtual 36, 3), (69, .aload_n 0, 1), (70, .getfield 9, 3), (73, .iload_n 2, 1), (74, .invokestatic 72, 3), (77, .istore_n 3, 1), (78, .aload_n 0, 1), (79, .getfield 27, 3), (82, .iload_n 3, 1), (83, .aload_n 0, 1), (84, .getfield 27, 3), (87, .iload_n 3, 1), (88, .invokevirtual 76, 3), (91, .invokevirtual 80, 3), (94, .iinc 2 1, 3), (97, .goto (-44), 3), (100, .aload_n 0, 1), (101, .getfield 27, 3), (104, .invokevirtual 84, 3), (107, .return_, 1)]
theorem mX4_runFrom_0 : okd cX4_runFrom lmX4_runFrom_0 = true := by decide +kernel
theorem dX4_runFrom_0 : decode cX4_runFrom 0 = .ok (.iload_n 1, 1) := okd_at mX4_runFrom_0 0 rfl
theorem dX4_runFrom_1 : decode cX4_runFrom 1 = .ok (.ifCond .lt 50, 3) := okd_at mX4_runFrom_0 1 rfl
theorem dX4_runFrom_4 : decode cX4_runFrom 4 = .ok (.iload_n 1, 1) := okd_at mX4_runFrom_0 2 rfl
theorem dX4_runFrom_5 : decode cX4_runFrom 5 = .ok (.aload_n 0, 1) := okd_at mX4_runFrom_0 3 rfl
theorem dX4_runFrom_6 : decode cX4_runFrom 6 = .ok (.getfield 17, 3) := okd_at mX4_runFrom_0 4 rfl
theorem dX4_runFrom_9 : decode cX4_runFrom 9 = .ok (.arraylength, 1) := okd_at mX4_runFrom_0 5 rfl
theorem dX4_runFrom_10 : decode cX4_runFrom 10 = .ok (.if_icmp .ge 41, 3) := okd_at mX4_runFrom_0 6 rfl
theorem dX4_runFrom_13 : decode cX4_runFrom 13 = .ok (.iload_n 1, 1) := okd_at mX4_runFrom_0 7 rfl
theorem dX4_runFrom_14 : decode cX4_runFrom 14 = .ok (.aload_n 0, 1) := okd_at mX4_runFrom_0 8 rfl
theorem dX4_runFrom_15 : decode cX4_runFrom 15 = .ok (.getfield 20, 3) := okd_at mX4_runFrom_0 9 rfl
theorem dX4_runFrom_18 : decode cX4_runFrom 18 = .ok (.arraylength, 1) := okd_at mX4_runFrom_0 10 rfl
theorem dX4_runFrom_19 : decode cX4_runFrom 19 = .ok (.if_icmp .ge 32, 3) := okd_at mX4_runFrom_0 11 rfl
theorem dX4_runFrom_22 : decode cX4_runFrom 22 = .ok (.aload_n 0, 1) := okd_at mX4_runFrom_0 12 rfl
theorem dX4_runFrom_23 : decode cX4_runFrom 23 = .ok (.getfield 17, 3) := okd_at mX4_runFrom_0 13 rfl
theorem dX4_runFrom_26 : decode cX4_runFrom 26 = .ok (.iload_n 1, 1) := okd_at mX4_runFrom_0 14 rfl
theorem dX4_runFrom_27 : decode cX4_runFrom 27 = .ok (.aaload, 1) := okd_at mX4_runFrom_0 15 rfl
theorem dX4_runFrom_28 : decode cX4_runFrom 28 = .ok (.aload_n 0, 1) := okd_at mX4_runFrom_0 16 rfl
theorem dX4_runFrom_29 : decode cX4_runFrom 29 = .ok (.getfield 27, 3) := okd_at mX4_runFrom_0 17 rfl
theorem dX4_runFrom_32 : decode cX4_runFrom 32 = .ok (.getfield 56, 3) := okd_at mX4_runFrom_0 18 rfl
theorem dX4_runFrom_35 : decode cX4_runFrom 35 = .ok (.invokestatic 59, 3) := okd_at mX4_runFrom_0 19 rfl
theorem dX4_runFrom_38 : decode cX4_runFrom 38 = .ok (.aload_n 0, 1) := okd_at mX4_runFrom_0 20 rfl
theorem dX4_runFrom_39 : decode cX4_runFrom 39 = .ok (.getfield 27, 3) := okd_at mX4_runFrom_0 21 rfl
theorem dX4_runFrom_42 : decode cX4_runFrom 42 = .ok (.aload_n 0, 1) := okd_at mX4_runFrom_0 22 rfl
theorem dX4_runFrom_43 : decode cX4_runFrom 43 = .ok (.getfield 20, 3) := okd_at mX4_runFrom_0 23 rfl
theorem dX4_runFrom_46 : decode cX4_runFrom 46 = .ok (.iload_n 1, 1) := okd_at mX4_runFrom_0 24 rfl
theorem dX4_runFrom_47 : decode cX4_runFrom 47 = .ok (.iaload, 1) := okd_at mX4_runFrom_0 25 rfl
theorem dX4_runFrom_48 : decode cX4_runFrom 48 = .ok (.putfield 63, 3) := okd_at mX4_runFrom_0 26 rfl
theorem dX4_runFrom_51 : decode cX4_runFrom 51 = .ok (.iload_n 1, 1) := okd_at mX4_runFrom_0 27 rfl
theorem dX4_runFrom_52 : decode cX4_runFrom 52 = .ok (.istore_n 2, 1) := okd_at mX4_runFrom_0 28 rfl
theorem dX4_runFrom_53 : decode cX4_runFrom 53 = .ok (.iload_n 2, 1) := okd_at mX4_runFrom_0 29 rfl
theorem dX4_runFrom_54 : decode cX4_runFrom 54 = .ok (.aload_n 0, 1) := okd_at mX4_runFrom_0 30 rfl
theorem dX4_runFrom_55 : decode cX4_runFrom 55 = .ok (.getfield 23, 3) := okd_at mX4_runFrom_0 31 rfl
theorem dX4_runFrom_58 : decode cX4_runFrom 58 = .ok (.getfield 67, 3) := okd_at mX4_runFrom_0 32 rfl
theorem dX4_runFrom_61 : decode cX4_runFrom 61 = .ok (.if_icmp .ge 39, 3) := okd_at mX4_runFrom_0 33 rfl
theorem dX4_runFrom_64 : decode cX4_runFrom 64 = .ok (.aload_n 0, 1) := okd_at mX4_runFrom_0 34 rfl
theorem dX4_runFrom_65 : decode cX4_runFrom 65 = .ok (.iload_n 2, 1) := okd_at mX4_runFrom_0 35 rfl
theorem dX4_runFrom_66 : decode cX4_runFrom 66 = .ok (.invokevirtual 36, 3) := okd_at mX4_runFrom_0 36 rfl
theorem dX4_runFrom_69 : decode cX4_runFrom 69 = .ok (.aload_n 0, 1) := okd_at mX4_runFrom_0 37 rfl
theorem dX4_runFrom_70 : decode cX4_runFrom 70 = .ok (.getfield 9, 3) := okd_at mX4_runFrom_0 38 rfl
theorem dX4_runFrom_73 : decode cX4_runFrom 73 = .ok (.iload_n 2, 1) := okd_at mX4_runFrom_0 39 rfl
theorem dX4_runFrom_74 : decode cX4_runFrom 74 = .ok (.invokestatic 72, 3) := okd_at mX4_runFrom_0 40 rfl
theorem dX4_runFrom_77 : decode cX4_runFrom 77 = .ok (.istore_n 3, 1) := okd_at mX4_runFrom_0 41 rfl
theorem dX4_runFrom_78 : decode cX4_runFrom 78 = .ok (.aload_n 0, 1) := okd_at mX4_runFrom_0 42 rfl
theorem dX4_runFrom_79 : decode cX4_runFrom 79 = .ok (.getfield 27, 3) := okd_at mX4_runFrom_0 43 rfl
theorem dX4_runFrom_82 : decode cX4_runFrom 82 = .ok (.iload_n 3, 1) := okd_at mX4_runFrom_0 44 rfl
theorem dX4_runFrom_83 : decode cX4_runFrom 83 = .ok (.aload_n 0, 1) := okd_at mX4_runFrom_0 45 rfl
theorem dX4_runFrom_84 : decode cX4_runFrom 84 = .ok (.getfield 27, 3) := okd_at mX4_runFrom_0 46 rfl
theorem dX4_runFrom_87 : decode cX4_runFrom 87 = .ok (.iload_n 3, 1) := okd_at mX4_runFrom_0 47 rfl
theorem dX4_runFrom_88 : decode cX4_runFrom 88 = .ok (.invokevirtual 76, 3) := okd_at mX4_runFrom_0 48 rfl
theorem dX4_runFrom_91 : decode cX4_runFrom 91 = .ok (.invokevirtual 80, 3) := okd_at mX4_runFrom_0 49 rfl
theorem dX4_runFrom_94 : decode cX4_runFrom 94 = .ok (.iinc 2 1, 3) := okd_at mX4_runFrom_0 50 rfl
theorem dX4_runFrom_97 : decode cX4_runFrom 97 = .ok (.goto (-44), 3) := okd_at mX4_runFrom_0 51 rfl
theorem dX4_runFrom_100 : decode cX4_runFrom 100 = .ok (.aload_n 0, 1) := okd_at mX4_runFrom_0 52 rfl
theorem dX4_runFrom_101 : decode cX4_runFrom 101 = .ok (.getfield 27, 3) := okd_at mX4_runFrom_0 53 rfl
theorem dX4_runFrom_104 : decode cX4_runFrom 104 = .ok (.invokevirtual 84, 3) := okd_at mX4_runFrom_0 54 rfl
theorem dX4_runFrom_107 : decode cX4_runFrom 107 = .ok (.return_, 1) := okd_at mX4_runFrom_0 55 rfl
def lmX4_swap_0 : List (Nat × Instr × Nat) := [(0, .aload_n 0, 1), (1, .getfield 9, 3), (4, .iload_n 2, 1), (5, .aload_n 0, 1), (6, .getfield 9, 3), (9, .iload_n 1, 1), (10, .aload_n 0, 1), (11, .getfield 9, 3), (14, .iload_n 2, 1), (15, .invokestatic 72, 3), (18, .invokestatic 94, 3), (21, .invokestatic 87, 3), (24, .return_, 1)]
theorem mX4_swap_0 : okd cX4_swap lmX4_swap_0 = true := by decide +kernel
theorem dX4_swap_0 : decode cX4_swap 0 = .ok (.aload_n 0, 1) := okd_at mX4_swap_0 0 rfl
theorem dX4_swap_1 : decode cX4_swap 1 = .ok (.getfield 9, 3) := okd_at mX4_swap_0 1 rfl
theorem dX4_swap_4 : decode cX4_swap 4 = .ok (.iload_n 2, 1) := okd_at mX4_swap_0 2 rfl
theorem dX4_swap_5 : decode cX4_swap 5 = .ok (.aload_n 0, 1) := okd_at mX4_swap_0 3 rfl
theorem dX4_swap_6 : decode cX4_swap 6 = .ok (.getfield 9, 3) := okd_at mX4_swap_0 4 rfl
theorem dX4_swap_9 : decode cX4_swap 9 = .ok (.iload_n 1, 1) := okd_at mX4_swap_0 5 rfl
theorem dX4_swap_10 : decode cX4_swap 10 = .ok (.aload_n 0, 1) := okd_at mX4_swap_0 6 rfl
theorem dX4_swap_11 : decode cX4_swap 11 = .ok (.getfield 9, 3) := okd_at mX4_swap_0 7 rfl
theorem dX4_swap_14 : decode cX4_swap 14 = .ok (.iload_n 2, 1) := okd_at mX4_swap_0 8 rfl
theorem dX4_swap_15 : decode cX4_swap 15 = .ok (.invokestatic 72, 3) := okd_at mX4_swap_0 9 rfl
theorem dX4_swap_18 : decode cX4_swap 18 = .ok (.invokestatic 94, 3) := okd_at mX4_swap_0 10 rfl
theorem dX4_swap_21 : decode cX4_swap 21 = .ok (.invokestatic 87, 3) := okd_at mX4_swap_0 11 rfl
theorem dX4_swap_24 : decode cX4_swap 24 = .ok (.return_, 1) := okd_at mX4_swap_0 12 rfl
def lmX4_weighAll_0 : List (Nat × Instr × Nat) := [(0, .iconst 0, 1), (1, .istore_n 2, 1), (2, .iload_n 2, 1), (3, .aload_n 0, 1), (4, .getfield 9, 3), (7, .arraylength, 1), (8, .if_icmp .ge 16, 3), (11, .aload_n 0, 1), (12, .getfield 9, 3), (15, .iload_n 2, 1), (16, .iload_n 2, 1), (17, .iastore, 1), (18, .iinc 2 1, 3), (21, .goto (-19), 3), (24, .aload_n 0, 1), (25, .getfield 27, 3), (28, .invokevirtual 31, 3), (31, .aload_n 0, 1), (32, .iconst 0, 1), (33, .invokevirtual 36, 3), (36, .iconst 0, 1), (37, .istore_n 2, 1), (38, .iconst 0, 1), (39, .istore_n 3, 1), (40, .iload_n 3, 1), (41, .sipush 720, 3), (44, .if_icmp .ge 35, 3), (47, .iload_n 2, 1), (48, .ifCond .lt 31, 3), (51, .aload_n 0, 1), (52, .iload_n 2, 1), (53, .invokevirtual 40, 3), (56, .aload_n 1, 1), (57, .aload_n 0, 1), (58, .invokevirtual 43, 3), (61, .aload_n 0, 1), (62, .getfield 27, 3), (65, .invokevirtual 47, 3), (68, .aload_n 0, 1), (69, .invokevirtual 53, 3), (72, .istore_n 2, 1), (73, .iinc 3 1, 3), (76, .goto (-36), 3), (79, .return_, 1)]
theorem mX4_weighAll_0 : okd cX4_weighAll lmX4_weighAll_0 = true := by decide +kernel
theorem dX4_weighAll_0 : decode cX4_weighAll 0 = .ok (.iconst 0, 1) := okd_at mX4_weighAll_0 0 rfl
theorem dX4_weighAll_1 : decode cX4_weighAll 1 = .ok (.istore_n 2, 1) := okd_at mX4_weighAll_0 1 rfl
theorem dX4_weighAll_2 : decode cX4_weighAll 2 = .ok (.iload_n 2, 1) := okd_at mX4_weighAll_0 2 rfl
theorem dX4_weighAll_3 : decode cX4_weighAll 3 = .ok (.aload_n 0, 1) := okd_at mX4_weighAll_0 3 rfl
theorem dX4_weighAll_4 : decode cX4_weighAll 4 = .ok (.getfield 9, 3) := okd_at mX4_weighAll_0 4 rfl
theorem dX4_weighAll_7 : decode cX4_weighAll 7 = .ok (.arraylength, 1) := okd_at mX4_weighAll_0 5 rfl
theorem dX4_weighAll_8 : decode cX4_weighAll 8 = .ok (.if_icmp .ge 16, 3) := okd_at mX4_weighAll_0 6 rfl
theorem dX4_weighAll_11 : decode cX4_weighAll 11 = .ok (.aload_n 0, 1) := okd_at mX4_weighAll_0 7 rfl
theorem dX4_weighAll_12 : decode cX4_weighAll 12 = .ok (.getfield 9, 3) := okd_at mX4_weighAll_0 8 rfl
theorem dX4_weighAll_15 : decode cX4_weighAll 15 = .ok (.iload_n 2, 1) := okd_at mX4_weighAll_0 9 rfl
theorem dX4_weighAll_16 : decode cX4_weighAll 16 = .ok (.iload_n 2, 1) := okd_at mX4_weighAll_0 10 rfl
theorem dX4_weighAll_17 : decode cX4_weighAll 17 = .ok (.iastore, 1) := okd_at mX4_weighAll_0 11 rfl
theorem dX4_weighAll_18 : decode cX4_weighAll 18 = .ok (.iinc 2 1, 3) := okd_at mX4_weighAll_0 12 rfl
theorem dX4_weighAll_21 : decode cX4_weighAll 21 = .ok (.goto (-19), 3) := okd_at mX4_weighAll_0 13 rfl
theorem dX4_weighAll_24 : decode cX4_weighAll 24 = .ok (.aload_n 0, 1) := okd_at mX4_weighAll_0 14 rfl
theorem dX4_weighAll_25 : decode cX4_weighAll 25 = .ok (.getfield 27, 3) := okd_at mX4_weighAll_0 15 rfl
theorem dX4_weighAll_28 : decode cX4_weighAll 28 = .ok (.invokevirtual 31, 3) := okd_at mX4_weighAll_0 16 rfl
theorem dX4_weighAll_31 : decode cX4_weighAll 31 = .ok (.aload_n 0, 1) := okd_at mX4_weighAll_0 17 rfl
theorem dX4_weighAll_32 : decode cX4_weighAll 32 = .ok (.iconst 0, 1) := okd_at mX4_weighAll_0 18 rfl
theorem dX4_weighAll_33 : decode cX4_weighAll 33 = .ok (.invokevirtual 36, 3) := okd_at mX4_weighAll_0 19 rfl
theorem dX4_weighAll_36 : decode cX4_weighAll 36 = .ok (.iconst 0, 1) := okd_at mX4_weighAll_0 20 rfl
theorem dX4_weighAll_37 : decode cX4_weighAll 37 = .ok (.istore_n 2, 1) := okd_at mX4_weighAll_0 21 rfl
theorem dX4_weighAll_38 : decode cX4_weighAll 38 = .ok (.iconst 0, 1) := okd_at mX4_weighAll_0 22 rfl
theorem dX4_weighAll_39 : decode cX4_weighAll 39 = .ok (.istore_n 3, 1) := okd_at mX4_weighAll_0 23 rfl
theorem dX4_weighAll_40 : decode cX4_weighAll 40 = .ok (.iload_n 3, 1) := okd_at mX4_weighAll_0 24 rfl
theorem dX4_weighAll_41 : decode cX4_weighAll 41 = .ok (.sipush 720, 3) := okd_at mX4_weighAll_0 25 rfl
theorem dX4_weighAll_44 : decode cX4_weighAll 44 = .ok (.if_icmp .ge 35, 3) := okd_at mX4_weighAll_0 26 rfl
theorem dX4_weighAll_47 : decode cX4_weighAll 47 = .ok (.iload_n 2, 1) := okd_at mX4_weighAll_0 27 rfl
theorem dX4_weighAll_48 : decode cX4_weighAll 48 = .ok (.ifCond .lt 31, 3) := okd_at mX4_weighAll_0 28 rfl
theorem dX4_weighAll_51 : decode cX4_weighAll 51 = .ok (.aload_n 0, 1) := okd_at mX4_weighAll_0 29 rfl
theorem dX4_weighAll_52 : decode cX4_weighAll 52 = .ok (.iload_n 2, 1) := okd_at mX4_weighAll_0 30 rfl
theorem dX4_weighAll_53 : decode cX4_weighAll 53 = .ok (.invokevirtual 40, 3) := okd_at mX4_weighAll_0 31 rfl
theorem dX4_weighAll_56 : decode cX4_weighAll 56 = .ok (.aload_n 1, 1) := okd_at mX4_weighAll_0 32 rfl
theorem dX4_weighAll_57 : decode cX4_weighAll 57 = .ok (.aload_n 0, 1) := okd_at mX4_weighAll_0 33 rfl
theorem dX4_weighAll_58 : decode cX4_weighAll 58 = .ok (.invokevirtual 43, 3) := okd_at mX4_weighAll_0 34 rfl
theorem dX4_weighAll_61 : decode cX4_weighAll 61 = .ok (.aload_n 0, 1) := okd_at mX4_weighAll_0 35 rfl
theorem dX4_weighAll_62 : decode cX4_weighAll 62 = .ok (.getfield 27, 3) := okd_at mX4_weighAll_0 36 rfl
theorem dX4_weighAll_65 : decode cX4_weighAll 65 = .ok (.invokevirtual 47, 3) := okd_at mX4_weighAll_0 37 rfl
theorem dX4_weighAll_68 : decode cX4_weighAll 68 = .ok (.aload_n 0, 1) := okd_at mX4_weighAll_0 38 rfl
theorem dX4_weighAll_69 : decode cX4_weighAll 69 = .ok (.invokevirtual 53, 3) := okd_at mX4_weighAll_0 39 rfl
theorem dX4_weighAll_72 : decode cX4_weighAll 72 = .ok (.istore_n 2, 1) := okd_at mX4_weighAll_0 40 rfl
theorem dX4_weighAll_73 : decode cX4_weighAll 73 = .ok (.iinc 3 1, 3) := okd_at mX4_weighAll_0 41 rfl
theorem dX4_weighAll_76 : decode cX4_weighAll 76 = .ok (.goto (-36), 3) := okd_at mX4_weighAll_0 42 rfl
theorem dX4_weighAll_79 : decode cX4_weighAll 79 = .ok (.return_, 1) := okd_at mX4_weighAll_0 43 rfl
def lmX5_add_0 : List (Nat × Instr × Nat) := [(0, .aload_n 0, 1), (1, .getfield 24, 3), (4, .bipush 6, 2), (6, .if_icmp .lt 6, 3), (9, .bipush (-4), 2), (11, .ireturn, 1), (12, .aload_n 0, 1), (13, .getfield 9, 3), (16, .aload_n 0, 1), (17, .getfield 24, 3), (20, .iload_n 1, 1), (21, .invokestatic 28, 3), (24, .aload_n 0, 1), (25, .getfield 15, 3), (28, .aload_n 0, 1), (29, .getfield 24, 3), (32, .iload_n 2, 1), (33, .invokestatic 28, 3), (36, .aload_n 0, 1), (37, .getfield 18, 3), (40, .aload_n 0, 1), (41, .getfield 24, 3), (44, .iload_n 3, 1), (45, .invokestatic 28, 3), (48, .aload_n 0, 1), (49, .getfield 21, 3), (52, .aload_n 0, 1), (53, .getfield 24, 3), (56, .iconst 1, 1), (57, .invokestatic 28, 3), (60, .aload_n 0, 1), (61, .dup, 1), (62, .getfield 24, 3), (65, .dup_x1, 1), (66, .iconst 1, 1), (67, .iadd, 1), (68, .putfield 24, 3), (71, .ireturn, 1)]
theorem mX5_add_0 : okd cX5_add lmX5_add_0 = true := by decide +kernel
theorem dX5_add_0 : decode cX5_add 0 = .ok (.aload_n 0, 1) := okd_at mX5_add_0 0 rfl
theorem dX5_add_1 : decode cX5_add 1 = .ok (.getfield 24, 3) := okd_at mX5_add_0 1 rfl
theorem dX5_add_4 : decode cX5_add 4 = .ok (.bipush 6, 2) := okd_at mX5_add_0 2 rfl
theorem dX5_add_6 : decode cX5_add 6 = .ok (.if_icmp .lt 6, 3) := okd_at mX5_add_0 3 rfl
theorem dX5_add_9 : decode cX5_add 9 = .ok (.bipush (-4), 2) := okd_at mX5_add_0 4 rfl
theorem dX5_add_11 : decode cX5_add 11 = .ok (.ireturn, 1) := okd_at mX5_add_0 5 rfl
theorem dX5_add_12 : decode cX5_add 12 = .ok (.aload_n 0, 1) := okd_at mX5_add_0 6 rfl
theorem dX5_add_13 : decode cX5_add 13 = .ok (.getfield 9, 3) := okd_at mX5_add_0 7 rfl
theorem dX5_add_16 : decode cX5_add 16 = .ok (.aload_n 0, 1) := okd_at mX5_add_0 8 rfl
theorem dX5_add_17 : decode cX5_add 17 = .ok (.getfield 24, 3) := okd_at mX5_add_0 9 rfl
theorem dX5_add_20 : decode cX5_add 20 = .ok (.iload_n 1, 1) := okd_at mX5_add_0 10 rfl
theorem dX5_add_21 : decode cX5_add 21 = .ok (.invokestatic 28, 3) := okd_at mX5_add_0 11 rfl
theorem dX5_add_24 : decode cX5_add 24 = .ok (.aload_n 0, 1) := okd_at mX5_add_0 12 rfl
theorem dX5_add_25 : decode cX5_add 25 = .ok (.getfield 15, 3) := okd_at mX5_add_0 13 rfl
theorem dX5_add_28 : decode cX5_add 28 = .ok (.aload_n 0, 1) := okd_at mX5_add_0 14 rfl
theorem dX5_add_29 : decode cX5_add 29 = .ok (.getfield 24, 3) := okd_at mX5_add_0 15 rfl
theorem dX5_add_32 : decode cX5_add 32 = .ok (.iload_n 2, 1) := okd_at mX5_add_0 16 rfl
theorem dX5_add_33 : decode cX5_add 33 = .ok (.invokestatic 28, 3) := okd_at mX5_add_0 17 rfl
theorem dX5_add_36 : decode cX5_add 36 = .ok (.aload_n 0, 1) := okd_at mX5_add_0 18 rfl
theorem dX5_add_37 : decode cX5_add 37 = .ok (.getfield 18, 3) := okd_at mX5_add_0 19 rfl
theorem dX5_add_40 : decode cX5_add 40 = .ok (.aload_n 0, 1) := okd_at mX5_add_0 20 rfl
theorem dX5_add_41 : decode cX5_add 41 = .ok (.getfield 24, 3) := okd_at mX5_add_0 21 rfl
theorem dX5_add_44 : decode cX5_add 44 = .ok (.iload_n 3, 1) := okd_at mX5_add_0 22 rfl
theorem dX5_add_45 : decode cX5_add 45 = .ok (.invokestatic 28, 3) := okd_at mX5_add_0 23 rfl
theorem dX5_add_48 : decode cX5_add 48 = .ok (.aload_n 0, 1) := okd_at mX5_add_0 24 rfl
theorem dX5_add_49 : decode cX5_add 49 = .ok (.getfield 21, 3) := okd_at mX5_add_0 25 rfl
theorem dX5_add_52 : decode cX5_add 52 = .ok (.aload_n 0, 1) := okd_at mX5_add_0 26 rfl
theorem dX5_add_53 : decode cX5_add 53 = .ok (.getfield 24, 3) := okd_at mX5_add_0 27 rfl
theorem dX5_add_56 : decode cX5_add 56 = .ok (.iconst 1, 1) := okd_at mX5_add_0 28 rfl
theorem dX5_add_57 : decode cX5_add 57 = .ok (.invokestatic 28, 3) := okd_at mX5_add_0 29 rfl
theorem dX5_add_60 : decode cX5_add 60 = .ok (.aload_n 0, 1) := okd_at mX5_add_0 30 rfl
theorem dX5_add_61 : decode cX5_add 61 = .ok (.dup, 1) := okd_at mX5_add_0 31 rfl
theorem dX5_add_62 : decode cX5_add 62 = .ok (.getfield 24, 3) := okd_at mX5_add_0 32 rfl
theorem dX5_add_65 : decode cX5_add 65 = .ok (.dup_x1, 1) := okd_at mX5_add_0 33 rfl
theorem dX5_add_66 : decode cX5_add 66 = .ok (.iconst 1, 1) := okd_at mX5_add_0 34 rfl
theorem dX5_add_67 : decode cX5_add 67 = .ok (.iadd, 1) := okd_at mX5_add_0 35 rfl
theorem dX5_add_68 : decode cX5_add 68 = .ok (.putfield 24, 3) := okd_at mX5_add_0 36 rfl
theorem dX5_add_71 : decode cX5_add 71 = .ok (.ireturn, 1) := okd_at mX5_add_0 37 rfl
def lmX5_become_0 : List (Nat × Instr × Nat) := [(0, .aload_n 1, 1), (1, .getfield 18, 3), (4, .aload_n 0, 1), (5, .getfield 18, 3), (8, .invokestatic 42, 3), (11, .aload_n 1, 1), (12, .getfield 21, 3), (15, .aload_n 0, 1), (16, .getfield 21, 3), (19, .invokestatic 42, 3), (22, .aload_n 0, 1), (23, .aload_n 1, 1), (24, .getfield 24, 3), (27, .putfield 24, 3), (30, .return_, 1)]
theorem mX5_become_0 : okd cX5_become lmX5_become_0 = true := by decide +kernel
theorem dX5_become_0 : decode cX5_become 0 = .ok (.aload_n 1, 1) := okd_at mX5_become_0 0 rfl
theorem dX5_become_1 : decode cX5_become 1 = .ok (.getfield 18, 3) := okd_at mX5_become_0 1 rfl
theorem dX5_become_4 : decode cX5_become 4 = .ok (.aload_n 0, 1) := okd_at mX5_become_0 2 rfl
theorem dX5_become_5 : decode cX5_become 5 = .ok (.getfield 18, 3) := okd_at mX5_become_0 3 rfl
theorem dX5_become_8 : decode cX5_become 8 = .ok (.invokestatic 42, 3) := okd_at mX5_become_0 4 rfl
theorem dX5_become_11 : decode cX5_become 11 = .ok (.aload_n 1, 1) := okd_at mX5_become_0 5 rfl
theorem dX5_become_12 : decode cX5_become 12 = .ok (.getfield 21, 3) := okd_at mX5_become_0 6 rfl
theorem dX5_become_15 : decode cX5_become 15 = .ok (.aload_n 0, 1) := okd_at mX5_become_0 7 rfl
theorem dX5_become_16 : decode cX5_become 16 = .ok (.getfield 21, 3) := okd_at mX5_become_0 8 rfl
theorem dX5_become_19 : decode cX5_become 19 = .ok (.invokestatic 42, 3) := okd_at mX5_become_0 9 rfl
theorem dX5_become_22 : decode cX5_become 22 = .ok (.aload_n 0, 1) := okd_at mX5_become_0 10 rfl
theorem dX5_become_23 : decode cX5_become 23 = .ok (.aload_n 1, 1) := okd_at mX5_become_0 11 rfl
theorem dX5_become_24 : decode cX5_become 24 = .ok (.getfield 24, 3) := okd_at mX5_become_0 12 rfl
theorem dX5_become_27 : decode cX5_become 27 = .ok (.putfield 24, 3) := okd_at mX5_become_0 13 rfl
theorem dX5_become_30 : decode cX5_become 30 = .ok (.return_, 1) := okd_at mX5_become_0 14 rfl
def lmX5_howManyRun_0 : List (Nat × Instr × Nat) := [(0, .aload_n 0, 1), (1, .getfield 18, 3), (4, .iload_n 1, 1), (5, .invokestatic 32, 3), (8, .invokestatic 36, 3), (11, .ireturn, 1)]
theorem mX5_howManyRun_0 : okd cX5_howManyRun lmX5_howManyRun_0 = true := by decide +kernel
theorem dX5_howManyRun_0 : decode cX5_howManyRun 0 = .ok (.aload_n 0, 1) := okd_at mX5_howManyRun_0 0 rfl
theorem dX5_howManyRun_1 : decode cX5_howManyRun 1 = .ok (.getfield 18, 3) := okd_at mX5_howManyRun_0 1 rfl
theorem dX5_howManyRun_4 : decode cX5_howManyRun 4 = .ok (.iload_n 1, 1) := okd_at mX5_howManyRun_0 2 rfl
theorem dX5_howManyRun_5 : decode cX5_howManyRun 5 = .ok (.invokestatic 32, 3) := okd_at mX5_howManyRun_0 3 rfl
theorem dX5_howManyRun_8 : decode cX5_howManyRun 8 = .ok (.invokestatic 36, 3) := okd_at mX5_howManyRun_0 4 rfl
theorem dX5_howManyRun_11 : decode cX5_howManyRun 11 = .ok (.ireturn, 1) := okd_at mX5_howManyRun_0 5 rfl
def lmX5_row_0 : List (Nat × Instr × Nat) := [(0, .iload_n 1, 1), (1, .ifCond .ne 10, 3), (4, .aload_n 0, 1), (5, .getfield 9, 3), (8, .goto 31, 3), (11, .iload_n 1, 1), (12, .iconst 1, 1), (13, .if_icmp .ne 10, 3), (16, .aload_n 0, 1), (17, .getfield 15, 3), (20, .goto 19, 3), (23, .iload_n 1, 1), (24, .iconst 2, 1), (25, .if_icmp .ne 10, 3), (28, .aload_n 0, 1), (29, .getfield 18, 3), (32, .goto 7, 3), (35, .aload_n 0, 1), (36, .getfield 21, 3), (39, .areturn, 1)]
theorem mX5_row_0 : okd cX5_row lmX5_row_0 = true := by decide +kernel
theorem dX5_row_0 : decode cX5_row 0 = .ok (.iload_n 1, 1) := okd_at mX5_row_0 0 rfl
theorem dX5_row_1 : decode cX5_row 1 = .ok (.ifCond .ne 10, 3) := okd_at mX5_row_0 1 rfl
theorem dX5_row_4 : decode cX5_row 4 = .ok (.aload_n 0, 1) := okd_at mX5_row_0 2 rfl
theorem dX5_row_5 : decode cX5_row 5 = .ok (.getfield 9, 3) := okd_at mX5_row_0 3 rfl
theorem dX5_row_8 : decode cX5_row 8 = .ok (.goto 31, 3) := okd_at mX5_row_0 4 rfl
theorem dX5_row_11 : decode cX5_row 11 = .ok (.iload_n 1, 1) := okd_at mX5_row_0 5 rfl
theorem dX5_row_12 : decode cX5_row 12 = .ok (.iconst 1, 1) := okd_at mX5_row_0 6 rfl
theorem dX5_row_13 : decode cX5_row 13 = .ok (.if_icmp .ne 10, 3) := okd_at mX5_row_0 7 rfl
theorem dX5_row_16 : decode cX5_row 16 = .ok (.aload_n 0, 1) := okd_at mX5_row_0 8 rfl
theorem dX5_row_17 : decode cX5_row 17 = .ok (.getfield 15, 3) := okd_at mX5_row_0 9 rfl
theorem dX5_row_20 : decode cX5_row 20 = .ok (.goto 19, 3) := okd_at mX5_row_0 10 rfl
theorem dX5_row_23 : decode cX5_row 23 = .ok (.iload_n 1, 1) := okd_at mX5_row_0 11 rfl
theorem dX5_row_24 : decode cX5_row 24 = .ok (.iconst 2, 1) := okd_at mX5_row_0 12 rfl
theorem dX5_row_25 : decode cX5_row 25 = .ok (.if_icmp .ne 10, 3) := okd_at mX5_row_0 13 rfl
theorem dX5_row_28 : decode cX5_row 28 = .ok (.aload_n 0, 1) := okd_at mX5_row_0 14 rfl
theorem dX5_row_29 : decode cX5_row 29 = .ok (.getfield 18, 3) := okd_at mX5_row_0 15 rfl
theorem dX5_row_32 : decode cX5_row 32 = .ok (.goto 7, 3) := okd_at mX5_row_0 16 rfl
theorem dX5_row_35 : decode cX5_row 35 = .ok (.aload_n 0, 1) := okd_at mX5_row_0 17 rfl
theorem dX5_row_36 : decode cX5_row 36 = .ok (.getfield 21, 3) := okd_at mX5_row_0 18 rfl
theorem dX5_row_39 : decode cX5_row 39 = .ok (.areturn, 1) := okd_at mX5_row_0 19 rfl
def lmX6_expect_0 : List (Nat × Instr × Nat) := [(0, .aload_n 0, 1), (1, .getfield 33, 3), (4, .iload_n 1, 1), (5, .if_icmp .ne 10, 3), (8, .aload_n 0, 1), (9, .invokevirtual 59, 3), (12, .goto 7, 3), (15, .aload_n 0, 1), (16, .invokevirtual 93, 3), (19, .return_, 1)]
theorem mX6_expect_0 : okd cX6_expect lmX6_expect_0 = true := by decide +kernel
theorem dX6_expect_0 : decode cX6_expect 0 = .ok (.aload_n 0, 1) := okd_at mX6_expect_0 0 rfl
theorem dX6_expect_1 : decode cX6_expect 1 = .ok (.getfield 33, 3) := okd_at mX6_expect_0 1 rfl
theorem dX6_expect_4 : decode cX6_expect 4 = .ok (.iload_n 1, 1) := okd_at mX6_expect_0 2 rfl
theorem dX6_expect_5 : decode cX6_expect 5 = .ok (.if_icmp .ne 10, 3) := okd_at mX6_expect_0 3 rfl
theorem dX6_expect_8 : decode cX6_expect 8 = .ok (.aload_n 0, 1) := okd_at mX6_expect_0 4 rfl
theorem dX6_expect_9 : decode cX6_expect 9 = .ok (.invokevirtual 59, 3) := okd_at mX6_expect_0 5 rfl
theorem dX6_expect_12 : decode cX6_expect 12 = .ok (.goto 7, 3) := okd_at mX6_expect_0 6 rfl
theorem dX6_expect_15 : decode cX6_expect 15 = .ok (.aload_n 0, 1) := okd_at mX6_expect_0 7 rfl
theorem dX6_expect_16 : decode cX6_expect 16 = .ok (.invokevirtual 93, 3) := okd_at mX6_expect_0 8 rfl
theorem dX6_expect_19 : decode cX6_expect 19 = .ok (.return_, 1) := okd_at mX6_expect_0 9 rfl
def lmX6_fail_0 : List (Nat × Instr × Nat) := [(0, .aload_n 0, 1), (1, .getfield 38, 3), (4, .ifCond .ge 18, 3), (7, .aload_n 0, 1), (8, .aload_n 0, 1), (9, .getfield 9, 3), (12, .aload_n 0, 1), (13, .getfield 25, 3), (16, .invokevirtual 96, 3), (19, .putfield 38, 3), (22, .aload_n 0, 1), (23, .iconst 0, 1), (24, .putfield 33, 3), (27, .return_, 1)]
theorem mX6_fail_0 : okd cX6_fail lmX6_fail_0 = true := by decide +kernel
theorem dX6_fail_0 : decode cX6_fail 0 = .ok (.aload_n 0, 1) := okd_at mX6_fail_0 0 rfl
theorem dX6_fail_1 : decode cX6_fail 1 = .ok (.getfield 38, 3) := okd_at mX6_fail_0 1 rfl
theorem dX6_fail_4 : decode cX6_fail 4 = .ok (.ifCond .ge 18, 3) := okd_at mX6_fail_0 2 rfl
theorem dX6_fail_7 : decode cX6_fail 7 = .ok (.aload_n 0, 1) := okd_at mX6_fail_0 3 rfl
theorem dX6_fail_8 : decode cX6_fail 8 = .ok (.aload_n 0, 1) := okd_at mX6_fail_0 4 rfl
theorem dX6_fail_9 : decode cX6_fail 9 = .ok (.getfield 9, 3) := okd_at mX6_fail_0 5 rfl
theorem dX6_fail_12 : decode cX6_fail 12 = .ok (.aload_n 0, 1) := okd_at mX6_fail_0 6 rfl
theorem dX6_fail_13 : decode cX6_fail 13 = .ok (.getfield 25, 3) := okd_at mX6_fail_0 7 rfl
theorem dX6_fail_16 : decode cX6_fail 16 = .ok (.invokevirtual 96, 3) := okd_at mX6_fail_0 8 rfl
theorem dX6_fail_19 : decode cX6_fail 19 = .ok (.putfield 38, 3) := okd_at mX6_fail_0 9 rfl
theorem dX6_fail_22 : decode cX6_fail 22 = .ok (.aload_n 0, 1) := okd_at mX6_fail_0 10 rfl
theorem dX6_fail_23 : decode cX6_fail 23 = .ok (.iconst 0, 1) := okd_at mX6_fail_0 11 rfl
theorem dX6_fail_24 : decode cX6_fail 24 = .ok (.putfield 33, 3) := okd_at mX6_fail_0 12 rfl
theorem dX6_fail_27 : decode cX6_fail 27 = .ok (.return_, 1) := okd_at mX6_fail_0 13 rfl
def lmX6_opens_0 : List (Nat × Instr × Nat) := [(0, .aload_n 0, 1), (1, .getfield 35, 3), (4, .iconst 5, 1), (5, .if_icmp .lt 9, 3), (8, .aload_n 0, 1), (9, .invokevirtual 93, 3), (12, .iconst 0, 1), (13, .ireturn, 1), (14, .aload_n 0, 1), (15, .dup, 1), (16, .getfield 35, 3), (19, .iconst 1, 1), (20, .iadd, 1), (21, .putfield 35, 3), (24, .iconst 1, 1), (25, .ireturn, 1)]
theorem mX6_opens_0 : okd cX6_opens lmX6_opens_0 = true := by decide +kernel
theorem dX6_opens_0 : decode cX6_opens 0 = .ok (.aload_n 0, 1) := okd_at mX6_opens_0 0 rfl
theorem dX6_opens_1 : decode cX6_opens 1 = .ok (.getfield 35, 3) := okd_at mX6_opens_0 1 rfl
theorem dX6_opens_4 : decode cX6_opens 4 = .ok (.iconst 5, 1) := okd_at mX6_opens_0 2 rfl
theorem dX6_opens_5 : decode cX6_opens 5 = .ok (.if_icmp .lt 9, 3) := okd_at mX6_opens_0 3 rfl
theorem dX6_opens_8 : decode cX6_opens 8 = .ok (.aload_n 0, 1) := okd_at mX6_opens_0 4 rfl
theorem dX6_opens_9 : decode cX6_opens 9 = .ok (.invokevirtual 93, 3) := okd_at mX6_opens_0 5 rfl
theorem dX6_opens_12 : decode cX6_opens 12 = .ok (.iconst 0, 1) := okd_at mX6_opens_0 6 rfl
theorem dX6_opens_13 : decode cX6_opens 13 = .ok (.ireturn, 1) := okd_at mX6_opens_0 7 rfl
theorem dX6_opens_14 : decode cX6_opens 14 = .ok (.aload_n 0, 1) := okd_at mX6_opens_0 8 rfl
theorem dX6_opens_15 : decode cX6_opens 15 = .ok (.dup, 1) := okd_at mX6_opens_0 9 rfl
theorem dX6_opens_16 : decode cX6_opens 16 = .ok (.getfield 35, 3) := okd_at mX6_opens_0 10 rfl
theorem dX6_opens_19 : decode cX6_opens 19 = .ok (.iconst 1, 1) := okd_at mX6_opens_0 11 rfl
theorem dX6_opens_20 : decode cX6_opens 20 = .ok (.iadd, 1) := okd_at mX6_opens_0 12 rfl
theorem dX6_opens_21 : decode cX6_opens 21 = .ok (.putfield 35, 3) := okd_at mX6_opens_0 13 rfl
theorem dX6_opens_24 : decode cX6_opens 24 = .ok (.iconst 1, 1) := okd_at mX6_opens_0 14 rfl
theorem dX6_opens_25 : decode cX6_opens 25 = .ok (.ireturn, 1) := okd_at mX6_opens_0 15 rfl
def lmX6_readAnd_0 : List (Nat × Instr × Nat) := [(0, .aload_n 0, 1), (1, .aload_n 1, 1), (2, .invokevirtual 65, 3), (5, .iconst 0, 1), (6, .istore_n 2, 1), (7, .iload_n 2, 1), (8, .sipush 160, 3), (11, .if_icmp .ge 33, 3), (14, .aload_n 0, 1), (15, .getfield 33, 3), (18, .bipush 6, 2), (20, .if_icmp .ne 24, 3), (23, .aload_n 0, 1), (24, .invokevirtual 59, 3), (27, .aload_n 0, 1), (28, .aload_n 1, 1), (29, .invokevirtual 65, 3), (32, .aload_n 1, 1), (33, .bipush (-14), 2), (35, .invokevirtual 62, 3), (38, .iinc 2 1, 3), (41, .goto (-34), 3), (44, .return_, 1)]
theorem mX6_readAnd_0 : okd cX6_readAnd lmX6_readAnd_0 = true := by decide +kernel
theorem dX6_readAnd_0 : decode cX6_readAnd 0 = .ok (.aload_n 0, 1) := okd_at mX6_readAnd_0 0 rfl
theorem dX6_readAnd_1 : decode cX6_readAnd 1 = .ok (.aload_n 1, 1) := okd_at mX6_readAnd_0 1 rfl
theorem dX6_readAnd_2 : decode cX6_readAnd 2 = .ok (.invokevirtual 65, 3) := okd_at mX6_readAnd_0 2 rfl
theorem dX6_readAnd_5 : decode cX6_readAnd 5 = .ok (.iconst 0, 1) := okd_at mX6_readAnd_0 3 rfl
theorem dX6_readAnd_6 : decode cX6_readAnd 6 = .ok (.istore_n 2, 1) := okd_at mX6_readAnd_0 4 rfl
theorem dX6_readAnd_7 : decode cX6_readAnd 7 = .ok (.iload_n 2, 1) := okd_at mX6_readAnd_0 5 rfl
theorem dX6_readAnd_8 : decode cX6_readAnd 8 = .ok (.sipush 160, 3) := okd_at mX6_readAnd_0 6 rfl
theorem dX6_readAnd_11 : decode cX6_readAnd 11 = .ok (.if_icmp .ge 33, 3) := okd_at mX6_readAnd_0 7 rfl
theorem dX6_readAnd_14 : decode cX6_readAnd 14 = .ok (.aload_n 0, 1) := okd_at mX6_readAnd_0 8 rfl
theorem dX6_readAnd_15 : decode cX6_readAnd 15 = .ok (.getfield 33, 3) := okd_at mX6_readAnd_0 9 rfl
theorem dX6_readAnd_18 : decode cX6_readAnd 18 = .ok (.bipush 6, 2) := okd_at mX6_readAnd_0 10 rfl
theorem dX6_readAnd_20 : decode cX6_readAnd 20 = .ok (.if_icmp .ne 24, 3) := okd_at mX6_readAnd_0 11 rfl
theorem dX6_readAnd_23 : decode cX6_readAnd 23 = .ok (.aload_n 0, 1) := okd_at mX6_readAnd_0 12 rfl
theorem dX6_readAnd_24 : decode cX6_readAnd 24 = .ok (.invokevirtual 59, 3) := okd_at mX6_readAnd_0 13 rfl
theorem dX6_readAnd_27 : decode cX6_readAnd 27 = .ok (.aload_n 0, 1) := okd_at mX6_readAnd_0 14 rfl
theorem dX6_readAnd_28 : decode cX6_readAnd 28 = .ok (.aload_n 1, 1) := okd_at mX6_readAnd_0 15 rfl
theorem dX6_readAnd_29 : decode cX6_readAnd 29 = .ok (.invokevirtual 65, 3) := okd_at mX6_readAnd_0 16 rfl
theorem dX6_readAnd_32 : decode cX6_readAnd 32 = .ok (.aload_n 1, 1) := okd_at mX6_readAnd_0 17 rfl
theorem dX6_readAnd_33 : decode cX6_readAnd 33 = .ok (.bipush (-14), 2) := okd_at mX6_readAnd_0 18 rfl
theorem dX6_readAnd_35 : decode cX6_readAnd 35 = .ok (.invokevirtual 62, 3) := okd_at mX6_readAnd_0 19 rfl
theorem dX6_readAnd_38 : decode cX6_readAnd 38 = .ok (.iinc 2 1, 3) := okd_at mX6_readAnd_0 20 rfl
theorem dX6_readAnd_41 : decode cX6_readAnd 41 = .ok (.goto (-34), 3) := okd_at mX6_readAnd_0 21 rfl
theorem dX6_readAnd_44 : decode cX6_readAnd 44 = .ok (.return_, 1) := okd_at mX6_readAnd_0 22 rfl
def lmX6_readComparison_0 : List (Nat × Instr × Nat) := [(0, .aload_n 0, 1), (1, .aload_n 1, 1), (2, .invokevirtual 75, 3), (5, .aload_n 0, 1), (6, .getfield 33, 3), (9, .bipush 60, 2), (11, .if_icmp .eq 12, 3), (14, .aload_n 0, 1), (15, .getfield 33, 3), (18, .bipush 61, 2), (20, .if_icmp .ne 34, 3), (23, .aload_n 0, 1), (24, .getfield 33, 3), (27, .bipush 60, 2), (29, .if_icmp .ne 8, 3), (32, .bipush (-12), 2), (34, .goto 5, 3), (37, .bipush (-13), 2), (39, .istore_n 2, 1), (40, .aload_n 0, 1), (41, .invokevirtual 59, 3), (44, .aload_n 0, 1), (45, .aload_n 1, 1), (46, .invokevirtual 75, 3), (49, .aload_n 1, 1), (50, .iload_n 2, 1), (51, .invokevirtual 62, 3), (54, .return_, 1)]
theorem mX6_readComparison_0 : okd cX6_readComparison lmX6_readComparison_0 = true := by decide +kernel
theorem dX6_readComparison_0 : decode cX6_readComparison 0 = .ok (.aload_n 0, 1) := okd_at mX6_readComparison_0 0 rfl
theorem dX6_readComparison_1 : decode cX6_readComparison 1 = .ok (.aload_n 1, 1) := okd_at mX6_readComparison_0 1 rfl
theorem dX6_readComparison_2 : decode cX6_readComparison 2 = .ok (.invokevirtual 75, 3) := okd_at mX6_readComparison_0 2 rfl
theorem dX6_readComparison_5 : decode cX6_readComparison 5 = .ok (.aload_n 0, 1) := okd_at mX6_readComparison_0 3 rfl
theorem dX6_readComparison_6 : decode cX6_readComparison 6 = .ok (.getfield 33, 3) := okd_at mX6_readComparison_0 4 rfl
theorem dX6_readComparison_9 : decode cX6_readComparison 9 = .ok (.bipush 60, 2) := okd_at mX6_readComparison_0 5 rfl
theorem dX6_readComparison_11 : decode cX6_readComparison 11 = .ok (.if_icmp .eq 12, 3) := okd_at mX6_readComparison_0 6 rfl
theorem dX6_readComparison_14 : decode cX6_readComparison 14 = .ok (.aload_n 0, 1) := okd_at mX6_readComparison_0 7 rfl
theorem dX6_readComparison_15 : decode cX6_readComparison 15 = .ok (.getfield 33, 3) := okd_at mX6_readComparison_0 8 rfl
theorem dX6_readComparison_18 : decode cX6_readComparison 18 = .ok (.bipush 61, 2) := okd_at mX6_readComparison_0 9 rfl
theorem dX6_readComparison_20 : decode cX6_readComparison 20 = .ok (.if_icmp .ne 34, 3) := okd_at mX6_readComparison_0 10 rfl
theorem dX6_readComparison_23 : decode cX6_readComparison 23 = .ok (.aload_n 0, 1) := okd_at mX6_readComparison_0 11 rfl
theorem dX6_readComparison_24 : decode cX6_readComparison 24 = .ok (.getfield 33, 3) := okd_at mX6_readComparison_0 12 rfl
theorem dX6_readComparison_27 : decode cX6_readComparison 27 = .ok (.bipush 60, 2) := okd_at mX6_readComparison_0 13 rfl
theorem dX6_readComparison_29 : decode cX6_readComparison 29 = .ok (.if_icmp .ne 8, 3) := okd_at mX6_readComparison_0 14 rfl
theorem dX6_readComparison_32 : decode cX6_readComparison 32 = .ok (.bipush (-12), 2) := okd_at mX6_readComparison_0 15 rfl
theorem dX6_readComparison_34 : decode cX6_readComparison 34 = .ok (.goto 5, 3) := okd_at mX6_readComparison_0 16 rfl
theorem dX6_readComparison_37 : decode cX6_readComparison 37 = .ok (.bipush (-13), 2) := okd_at mX6_readComparison_0 17 rfl
theorem dX6_readComparison_39 : decode cX6_readComparison 39 = .ok (.istore_n 2, 1) := okd_at mX6_readComparison_0 18 rfl
theorem dX6_readComparison_40 : decode cX6_readComparison 40 = .ok (.aload_n 0, 1) := okd_at mX6_readComparison_0 19 rfl
theorem dX6_readComparison_41 : decode cX6_readComparison 41 = .ok (.invokevirtual 59, 3) := okd_at mX6_readComparison_0 20 rfl
theorem dX6_readComparison_44 : decode cX6_readComparison 44 = .ok (.aload_n 0, 1) := okd_at mX6_readComparison_0 21 rfl
theorem dX6_readComparison_45 : decode cX6_readComparison 45 = .ok (.aload_n 1, 1) := okd_at mX6_readComparison_0 22 rfl
theorem dX6_readComparison_46 : decode cX6_readComparison 46 = .ok (.invokevirtual 75, 3) := okd_at mX6_readComparison_0 23 rfl
theorem dX6_readComparison_49 : decode cX6_readComparison 49 = .ok (.aload_n 1, 1) := okd_at mX6_readComparison_0 24 rfl
theorem dX6_readComparison_50 : decode cX6_readComparison 50 = .ok (.iload_n 2, 1) := okd_at mX6_readComparison_0 25 rfl
theorem dX6_readComparison_51 : decode cX6_readComparison 51 = .ok (.invokevirtual 62, 3) := okd_at mX6_readComparison_0 26 rfl
theorem dX6_readComparison_54 : decode cX6_readComparison 54 = .ok (.return_, 1) := okd_at mX6_readComparison_0 27 rfl
def lmX6_readE_0 : List (Nat × Instr × Nat) := [(0, .aload_n 0, 1), (1, .aload_n 1, 1), (2, .invokevirtual 56, 3), (5, .iconst 0, 1), (6, .istore_n 2, 1), (7, .iload_n 2, 1), (8, .sipush 160, 3), (11, .if_icmp .ge 32, 3), (14, .aload_n 0, 1), (15, .getfield 33, 3), (18, .iconst 5, 1), (19, .if_icmp .ne 24, 3), (22, .aload_n 0, 1), (23, .invokevirtual 59, 3), (26, .aload_n 0, 1), (27, .aload_n 1, 1), (28, .invokevirtual 56, 3), (31, .aload_n 1, 1), (32, .bipush (-15), 2), (34, .invokevirtual 62, 3), (37, .iinc 2 1, 3), (40, .goto (-33), 3), (43, .return_, 1)]
theorem mX6_readE_0 : okd cX6_readE lmX6_readE_0 = true := by decide +kernel
theorem dX6_readE_0 : decode cX6_readE 0 = .ok (.aload_n 0, 1) := okd_at mX6_readE_0 0 rfl
theorem dX6_readE_1 : decode cX6_readE 1 = .ok (.aload_n 1, 1) := okd_at mX6_readE_0 1 rfl
theorem dX6_readE_2 : decode cX6_readE 2 = .ok (.invokevirtual 56, 3) := okd_at mX6_readE_0 2 rfl
theorem dX6_readE_5 : decode cX6_readE 5 = .ok (.iconst 0, 1) := okd_at mX6_readE_0 3 rfl
theorem dX6_readE_6 : decode cX6_readE 6 = .ok (.istore_n 2, 1) := okd_at mX6_readE_0 4 rfl
theorem dX6_readE_7 : decode cX6_readE 7 = .ok (.iload_n 2, 1) := okd_at mX6_readE_0 5 rfl
theorem dX6_readE_8 : decode cX6_readE 8 = .ok (.sipush 160, 3) := okd_at mX6_readE_0 6 rfl
theorem dX6_readE_11 : decode cX6_readE 11 = .ok (.if_icmp .ge 32, 3) := okd_at mX6_readE_0 7 rfl
theorem dX6_readE_14 : decode cX6_readE 14 = .ok (.aload_n 0, 1) := okd_at mX6_readE_0 8 rfl
theorem dX6_readE_15 : decode cX6_readE 15 = .ok (.getfield 33, 3) := okd_at mX6_readE_0 9 rfl
theorem dX6_readE_18 : decode cX6_readE 18 = .ok (.iconst 5, 1) := okd_at mX6_readE_0 10 rfl
theorem dX6_readE_19 : decode cX6_readE 19 = .ok (.if_icmp .ne 24, 3) := okd_at mX6_readE_0 11 rfl
theorem dX6_readE_22 : decode cX6_readE 22 = .ok (.aload_n 0, 1) := okd_at mX6_readE_0 12 rfl
theorem dX6_readE_23 : decode cX6_readE 23 = .ok (.invokevirtual 59, 3) := okd_at mX6_readE_0 13 rfl
theorem dX6_readE_26 : decode cX6_readE 26 = .ok (.aload_n 0, 1) := okd_at mX6_readE_0 14 rfl
theorem dX6_readE_27 : decode cX6_readE 27 = .ok (.aload_n 1, 1) := okd_at mX6_readE_0 15 rfl
theorem dX6_readE_28 : decode cX6_readE 28 = .ok (.invokevirtual 56, 3) := okd_at mX6_readE_0 16 rfl
theorem dX6_readE_31 : decode cX6_readE 31 = .ok (.aload_n 1, 1) := okd_at mX6_readE_0 17 rfl
theorem dX6_readE_32 : decode cX6_readE 32 = .ok (.bipush (-15), 2) := okd_at mX6_readE_0 18 rfl
theorem dX6_readE_34 : decode cX6_readE 34 = .ok (.invokevirtual 62, 3) := okd_at mX6_readE_0 19 rfl
theorem dX6_readE_37 : decode cX6_readE 37 = .ok (.iinc 2 1, 3) := okd_at mX6_readE_0 20 rfl
theorem dX6_readE_40 : decode cX6_readE 40 = .ok (.goto (-33), 3) := okd_at mX6_readE_0 21 rfl
theorem dX6_readE_43 : decode cX6_readE 43 = .ok (.return_, 1) := okd_at mX6_readE_0 22 rfl
def lmX6_readInBrackets_0 : List (Nat × Instr × Nat) := [(0, .aload_n 0, 1), (1, .invokevirtual 71, 3), (4, .ifCond .eq 28, 3), (7, .aload_n 0, 1), (8, .invokevirtual 59, 3), (11, .aload_n 0, 1), (12, .aload_n 1, 1), (13, .invokevirtual 49, 3), (16, .aload_n 0, 1), (17, .bipush 41, 2), (19, .invokevirtual 45, 3), (22, .aload_n 0, 1), (23, .dup, 1), (24, .getfield 35, 3), (27, .iconst 1, 1), (28, .isub, 1), (29, .putfield 35, 3), (32, .return_, 1)]
theorem mX6_readInBrackets_0 : okd cX6_readInBrackets lmX6_readInBrackets_0 = true := by decide +kernel
theorem dX6_readInBrackets_0 : decode cX6_readInBrackets 0 = .ok (.aload_n 0, 1) := okd_at mX6_readInBrackets_0 0 rfl
theorem dX6_readInBrackets_1 : decode cX6_readInBrackets 1 = .ok (.invokevirtual 71, 3) := okd_at mX6_readInBrackets_0 1 rfl
theorem dX6_readInBrackets_4 : decode cX6_readInBrackets 4 = .ok (.ifCond .eq 28, 3) := okd_at mX6_readInBrackets_0 2 rfl
theorem dX6_readInBrackets_7 : decode cX6_readInBrackets 7 = .ok (.aload_n 0, 1) := okd_at mX6_readInBrackets_0 3 rfl
theorem dX6_readInBrackets_8 : decode cX6_readInBrackets 8 = .ok (.invokevirtual 59, 3) := okd_at mX6_readInBrackets_0 4 rfl
theorem dX6_readInBrackets_11 : decode cX6_readInBrackets 11 = .ok (.aload_n 0, 1) := okd_at mX6_readInBrackets_0 5 rfl
theorem dX6_readInBrackets_12 : decode cX6_readInBrackets 12 = .ok (.aload_n 1, 1) := okd_at mX6_readInBrackets_0 6 rfl
theorem dX6_readInBrackets_13 : decode cX6_readInBrackets 13 = .ok (.invokevirtual 49, 3) := okd_at mX6_readInBrackets_0 7 rfl
theorem dX6_readInBrackets_16 : decode cX6_readInBrackets 16 = .ok (.aload_n 0, 1) := okd_at mX6_readInBrackets_0 8 rfl
theorem dX6_readInBrackets_17 : decode cX6_readInBrackets 17 = .ok (.bipush 41, 2) := okd_at mX6_readInBrackets_0 9 rfl
theorem dX6_readInBrackets_19 : decode cX6_readInBrackets 19 = .ok (.invokevirtual 45, 3) := okd_at mX6_readInBrackets_0 10 rfl
theorem dX6_readInBrackets_22 : decode cX6_readInBrackets 22 = .ok (.aload_n 0, 1) := okd_at mX6_readInBrackets_0 11 rfl
theorem dX6_readInBrackets_23 : decode cX6_readInBrackets 23 = .ok (.dup, 1) := okd_at mX6_readInBrackets_0 12 rfl
theorem dX6_readInBrackets_24 : decode cX6_readInBrackets 24 = .ok (.getfield 35, 3) := okd_at mX6_readInBrackets_0 13 rfl
theorem dX6_readInBrackets_27 : decode cX6_readInBrackets 27 = .ok (.iconst 1, 1) := okd_at mX6_readInBrackets_0 14 rfl
theorem dX6_readInBrackets_28 : decode cX6_readInBrackets 28 = .ok (.isub, 1) := okd_at mX6_readInBrackets_0 15 rfl
theorem dX6_readInBrackets_29 : decode cX6_readInBrackets 29 = .ok (.putfield 35, 3) := okd_at mX6_readInBrackets_0 16 rfl
theorem dX6_readInBrackets_32 : decode cX6_readInBrackets 32 = .ok (.return_, 1) := okd_at mX6_readInBrackets_0 17 rfl
def lmX6_readInto_0 : List (Nat × Instr × Nat) := [(0, .aload_n 1, 1), (1, .invokevirtual 15, 3), (4, .aload_n 0, 1), (5, .getfield 9, 3), (8, .invokevirtual 20, 3), (11, .aload_n 0, 1), (12, .iconst 0, 1), (13, .putfield 25, 3), (16, .aload_n 0, 1), (17, .aload_n 0, 1), (18, .getfield 9, 3), (21, .iconst 0, 1), (22, .invokevirtual 29, 3), (25, .putfield 33, 3), (28, .aload_n 0, 1), (29, .iconst 0, 1), (30, .putfield 35, 3), (33, .aload_n 0, 1), (34, .iconst (-1), 1), (35, .putfield 38, 3), (38, .aload_n 0, 1), (39, .aload_n 1, 1), (40, .iconst 2, 1), (41, .iconst 0, 1), (42, .invokevirtual 41, 3), (45, .aload_n 0, 1), (46, .aload_n 1, 1), (47, .iconst 3, 1), (48, .iconst 1, 1), (49, .invokevirtual 41, 3), (52, .aload_n 0, 1), (53, .aload_n 1, 1), (54, .iconst 4, 1), (55, .iconst 2, 1), (56, .invokevirtual 41, 3), (59, .aload_n 0, 1), (60, .iconst 1, 1), (61, .invokevirtual 45, 3), (64, .aload_n 0, 1), (65, .getfield 38, 3), (68, .ireturn, 1)]
theorem mX6_readInto_0 : okd cX6_readInto lmX6_readInto_0 = true := by decide +kernel
theorem dX6_readInto_0 : decode cX6_readInto 0 = .ok (.aload_n 1, 1) := okd_at mX6_readInto_0 0 rfl
theorem dX6_readInto_1 : decode cX6_readInto 1 = .ok (.invokevirtual 15, 3) := okd_at mX6_readInto_0 1 rfl
theorem dX6_readInto_4 : decode cX6_readInto 4 = .ok (.aload_n 0, 1) := okd_at mX6_readInto_0 2 rfl
theorem dX6_readInto_5 : decode cX6_readInto 5 = .ok (.getfield 9, 3) := okd_at mX6_readInto_0 3 rfl
theorem dX6_readInto_8 : decode cX6_readInto 8 = .ok (.invokevirtual 20, 3) := okd_at mX6_readInto_0 4 rfl
theorem dX6_readInto_11 : decode cX6_readInto 11 = .ok (.aload_n 0, 1) := okd_at mX6_readInto_0 5 rfl
theorem dX6_readInto_12 : decode cX6_readInto 12 = .ok (.iconst 0, 1) := okd_at mX6_readInto_0 6 rfl
theorem dX6_readInto_13 : decode cX6_readInto 13 = .ok (.putfield 25, 3) := okd_at mX6_readInto_0 7 rfl
theorem dX6_readInto_16 : decode cX6_readInto 16 = .ok (.aload_n 0, 1) := okd_at mX6_readInto_0 8 rfl
theorem dX6_readInto_17 : decode cX6_readInto 17 = .ok (.aload_n 0, 1) := okd_at mX6_readInto_0 9 rfl
theorem dX6_readInto_18 : decode cX6_readInto 18 = .ok (.getfield 9, 3) := okd_at mX6_readInto_0 10 rfl
theorem dX6_readInto_21 : decode cX6_readInto 21 = .ok (.iconst 0, 1) := okd_at mX6_readInto_0 11 rfl
theorem dX6_readInto_22 : decode cX6_readInto 22 = .ok (.invokevirtual 29, 3) := okd_at mX6_readInto_0 12 rfl
theorem dX6_readInto_25 : decode cX6_readInto 25 = .ok (.putfield 33, 3) := okd_at mX6_readInto_0 13 rfl
theorem dX6_readInto_28 : decode cX6_readInto 28 = .ok (.aload_n 0, 1) := okd_at mX6_readInto_0 14 rfl
theorem dX6_readInto_29 : decode cX6_readInto 29 = .ok (.iconst 0, 1) := okd_at mX6_readInto_0 15 rfl
theorem dX6_readInto_30 : decode cX6_readInto 30 = .ok (.putfield 35, 3) := okd_at mX6_readInto_0 16 rfl
theorem dX6_readInto_33 : decode cX6_readInto 33 = .ok (.aload_n 0, 1) := okd_at mX6_readInto_0 17 rfl
theorem dX6_readInto_34 : decode cX6_readInto 34 = .ok (.iconst (-1), 1) := okd_at mX6_readInto_0 18 rfl
theorem dX6_readInto_35 : decode cX6_readInto 35 = .ok (.putfield 38, 3) := okd_at mX6_readInto_0 19 rfl
theorem dX6_readInto_38 : decode cX6_readInto 38 = .ok (.aload_n 0, 1) := okd_at mX6_readInto_0 20 rfl
theorem dX6_readInto_39 : decode cX6_readInto 39 = .ok (.aload_n 1, 1) := okd_at mX6_readInto_0 21 rfl
theorem dX6_readInto_40 : decode cX6_readInto 40 = .ok (.iconst 2, 1) := okd_at mX6_readInto_0 22 rfl
theorem dX6_readInto_41 : decode cX6_readInto 41 = .ok (.iconst 0, 1) := okd_at mX6_readInto_0 23 rfl
theorem dX6_readInto_42 : decode cX6_readInto 42 = .ok (.invokevirtual 41, 3) := okd_at mX6_readInto_0 24 rfl
theorem dX6_readInto_45 : decode cX6_readInto 45 = .ok (.aload_n 0, 1) := okd_at mX6_readInto_0 25 rfl
theorem dX6_readInto_46 : decode cX6_readInto 46 = .ok (.aload_n 1, 1) := okd_at mX6_readInto_0 26 rfl
theorem dX6_readInto_47 : decode cX6_readInto 47 = .ok (.iconst 3, 1) := okd_at mX6_readInto_0 27 rfl
theorem dX6_readInto_48 : decode cX6_readInto 48 = .ok (.iconst 1, 1) := okd_at mX6_readInto_0 28 rfl
theorem dX6_readInto_49 : decode cX6_readInto 49 = .ok (.invokevirtual 41, 3) := okd_at mX6_readInto_0 29 rfl
theorem dX6_readInto_52 : decode cX6_readInto 52 = .ok (.aload_n 0, 1) := okd_at mX6_readInto_0 30 rfl
theorem dX6_readInto_53 : decode cX6_readInto 53 = .ok (.aload_n 1, 1) := okd_at mX6_readInto_0 31 rfl
theorem dX6_readInto_54 : decode cX6_readInto 54 = .ok (.iconst 4, 1) := okd_at mX6_readInto_0 32 rfl
theorem dX6_readInto_55 : decode cX6_readInto 55 = .ok (.iconst 2, 1) := okd_at mX6_readInto_0 33 rfl
theorem dX6_readInto_56 : decode cX6_readInto 56 = .ok (.invokevirtual 41, 3) := okd_at mX6_readInto_0 34 rfl
theorem dX6_readInto_59 : decode cX6_readInto 59 = .ok (.aload_n 0, 1) := okd_at mX6_readInto_0 35 rfl
theorem dX6_readInto_60 : decode cX6_readInto 60 = .ok (.iconst 1, 1) := okd_at mX6_readInto_0 36 rfl
theorem dX6_readInto_61 : decode cX6_readInto 61 = .ok (.invokevirtual 45, 3) := okd_at mX6_readInto_0 37 rfl
theorem dX6_readInto_64 : decode cX6_readInto 64 = .ok (.aload_n 0, 1) := okd_at mX6_readInto_0 38 rfl
theorem dX6_readInto_65 : decode cX6_readInto 65 = .ok (.getfield 38, 3) := okd_at mX6_readInto_0 39 rfl
theorem dX6_readInto_68 : decode cX6_readInto 68 = .ok (.ireturn, 1) := okd_at mX6_readInto_0 40 rfl
def lmX6_readNegated_0 : List (Nat × Instr × Nat) := [(0, .aload_n 0, 1), (1, .invokevirtual 71, 3), (4, .ifCond .eq 28, 3), (7, .aload_n 0, 1), (8, .invokevirtual 59, 3), (11, .aload_n 0, 1), (12, .aload_n 1, 1), (13, .invokevirtual 81, 3), (16, .aload_n 0, 1), (17, .dup, 1), (18, .getfield 35, 3), (21, .iconst 1, 1), (22, .isub, 1), (23, .putfield 35, 3), (26, .aload_n 1, 1), (27, .bipush (-7), 2), (29, .invokevirtual 62, 3), (32, .return_, 1)]
theorem mX6_readNegated_0 : okd cX6_readNegated lmX6_readNegated_0 = true := by decide +kernel
theorem dX6_readNegated_0 : decode cX6_readNegated 0 = .ok (.aload_n 0, 1) := okd_at mX6_readNegated_0 0 rfl
theorem dX6_readNegated_1 : decode cX6_readNegated 1 = .ok (.invokevirtual 71, 3) := okd_at mX6_readNegated_0 1 rfl
theorem dX6_readNegated_4 : decode cX6_readNegated 4 = .ok (.ifCond .eq 28, 3) := okd_at mX6_readNegated_0 2 rfl
theorem dX6_readNegated_7 : decode cX6_readNegated 7 = .ok (.aload_n 0, 1) := okd_at mX6_readNegated_0 3 rfl
theorem dX6_readNegated_8 : decode cX6_readNegated 8 = .ok (.invokevirtual 59, 3) := okd_at mX6_readNegated_0 4 rfl
theorem dX6_readNegated_11 : decode cX6_readNegated 11 = .ok (.aload_n 0, 1) := okd_at mX6_readNegated_0 5 rfl
theorem dX6_readNegated_12 : decode cX6_readNegated 12 = .ok (.aload_n 1, 1) := okd_at mX6_readNegated_0 6 rfl
theorem dX6_readNegated_13 : decode cX6_readNegated 13 = .ok (.invokevirtual 81, 3) := okd_at mX6_readNegated_0 7 rfl
theorem dX6_readNegated_16 : decode cX6_readNegated 16 = .ok (.aload_n 0, 1) := okd_at mX6_readNegated_0 8 rfl
theorem dX6_readNegated_17 : decode cX6_readNegated 17 = .ok (.dup, 1) := okd_at mX6_readNegated_0 9 rfl
theorem dX6_readNegated_18 : decode cX6_readNegated 18 = .ok (.getfield 35, 3) := okd_at mX6_readNegated_0 10 rfl
theorem dX6_readNegated_21 : decode cX6_readNegated 21 = .ok (.iconst 1, 1) := okd_at mX6_readNegated_0 11 rfl
theorem dX6_readNegated_22 : decode cX6_readNegated 22 = .ok (.isub, 1) := okd_at mX6_readNegated_0 12 rfl
theorem dX6_readNegated_23 : decode cX6_readNegated 23 = .ok (.putfield 35, 3) := okd_at mX6_readNegated_0 13 rfl
theorem dX6_readNegated_26 : decode cX6_readNegated 26 = .ok (.aload_n 1, 1) := okd_at mX6_readNegated_0 14 rfl
theorem dX6_readNegated_27 : decode cX6_readNegated 27 = .ok (.bipush (-7), 2) := okd_at mX6_readNegated_0 15 rfl
theorem dX6_readNegated_29 : decode cX6_readNegated 29 = .ok (.invokevirtual 62, 3) := okd_at mX6_readNegated_0 16 rfl
theorem dX6_readNegated_32 : decode cX6_readNegated 32 = .ok (.return_, 1) := okd_at mX6_readNegated_0 17 rfl
def lmX6_readNot_0 : List (Nat × Instr × Nat) := [(0, .aload_n 0, 1), (1, .getfield 33, 3), (4, .bipush 7, 2), (6, .if_icmp .eq 11, 3), (9, .aload_n 0, 1), (10, .aload_n 1, 1), (11, .invokevirtual 68, 3), (14, .goto 35, 3), (17, .aload_n 0, 1), (18, .invokevirtual 71, 3), (21, .ifCond .eq 28, 3), (24, .aload_n 0, 1), (25, .invokevirtual 59, 3), (28, .aload_n 0, 1), (29, .aload_n 1, 1), (30, .invokevirtual 65, 3), (33, .aload_n 0, 1), (34, .dup, 1), (35, .getfield 35, 3), (38, .iconst 1, 1), (39, .isub, 1), (40, .putfield 35, 3), (43, .aload_n 1, 1), (44, .bipush (-8), 2), (46, .invokevirtual 62, 3), (49, .return_, 1)]
theorem mX6_readNot_0 : okd cX6_readNot lmX6_readNot_0 = true := by decide +kernel
theorem dX6_readNot_0 : decode cX6_readNot 0 = .ok (.aload_n 0, 1) := okd_at mX6_readNot_0 0 rfl
theorem dX6_readNot_1 : decode cX6_readNot 1 = .ok (.getfield 33, 3) := okd_at mX6_readNot_0 1 rfl
theorem dX6_readNot_4 : decode cX6_readNot 4 = .ok (.bipush 7, 2) := okd_at mX6_readNot_0 2 rfl
theorem dX6_readNot_6 : decode cX6_readNot 6 = .ok (.if_icmp .eq 11, 3) := okd_at mX6_readNot_0 3 rfl
theorem dX6_readNot_9 : decode cX6_readNot 9 = .ok (.aload_n 0, 1) := okd_at mX6_readNot_0 4 rfl
theorem dX6_readNot_10 : decode cX6_readNot 10 = .ok (.aload_n 1, 1) := okd_at mX6_readNot_0 5 rfl
theorem dX6_readNot_11 : decode cX6_readNot 11 = .ok (.invokevirtual 68, 3) := okd_at mX6_readNot_0 6 rfl
theorem dX6_readNot_14 : decode cX6_readNot 14 = .ok (.goto 35, 3) := okd_at mX6_readNot_0 7 rfl
theorem dX6_readNot_17 : decode cX6_readNot 17 = .ok (.aload_n 0, 1) := okd_at mX6_readNot_0 8 rfl
theorem dX6_readNot_18 : decode cX6_readNot 18 = .ok (.invokevirtual 71, 3) := okd_at mX6_readNot_0 9 rfl
theorem dX6_readNot_21 : decode cX6_readNot 21 = .ok (.ifCond .eq 28, 3) := okd_at mX6_readNot_0 10 rfl
theorem dX6_readNot_24 : decode cX6_readNot 24 = .ok (.aload_n 0, 1) := okd_at mX6_readNot_0 11 rfl
theorem dX6_readNot_25 : decode cX6_readNot 25 = .ok (.invokevirtual 59, 3) := okd_at mX6_readNot_0 12 rfl
theorem dX6_readNot_28 : decode cX6_readNot 28 = .ok (.aload_n 0, 1) := okd_at mX6_readNot_0 13 rfl
theorem dX6_readNot_29 : decode cX6_readNot 29 = .ok (.aload_n 1, 1) := okd_at mX6_readNot_0 14 rfl
theorem dX6_readNot_30 : decode cX6_readNot 30 = .ok (.invokevirtual 65, 3) := okd_at mX6_readNot_0 15 rfl
theorem dX6_readNot_33 : decode cX6_readNot 33 = .ok (.aload_n 0, 1) := okd_at mX6_readNot_0 16 rfl
theorem dX6_readNot_34 : decode cX6_readNot 34 = .ok (.dup, 1) := okd_at mX6_readNot_0 17 rfl
theorem dX6_readNot_35 : decode cX6_readNot 35 = .ok (.getfield 35, 3) := okd_at mX6_readNot_0 18 rfl
theorem dX6_readNot_38 : decode cX6_readNot 38 = .ok (.iconst 1, 1) := okd_at mX6_readNot_0 19 rfl
theorem dX6_readNot_39 : decode cX6_readNot 39 = .ok (.isub, 1) := okd_at mX6_readNot_0 20 rfl
theorem dX6_readNot_40 : decode cX6_readNot 40 = .ok (.putfield 35, 3) := okd_at mX6_readNot_0 21 rfl
theorem dX6_readNot_43 : decode cX6_readNot 43 = .ok (.aload_n 1, 1) := okd_at mX6_readNot_0 22 rfl
theorem dX6_readNot_44 : decode cX6_readNot 44 = .ok (.bipush (-8), 2) := okd_at mX6_readNot_0 23 rfl
theorem dX6_readNot_46 : decode cX6_readNot 46 = .ok (.invokevirtual 62, 3) := okd_at mX6_readNot_0 24 rfl
theorem dX6_readNot_49 : decode cX6_readNot 49 = .ok (.return_, 1) := okd_at mX6_readNot_0 25 rfl
def lmX6_readOne_0 : List (Nat × Instr × Nat) := [(0, .aload_n 0, 1), (1, .getfield 33, 3), (4, .sipush 512, 3), (7, .if_icmp .lt 22, 3), (10, .aload_n 1, 1), (11, .aload_n 0, 1), (12, .getfield 33, 3), (15, .sipush 512, 3), (18, .isub, 1), (19, .invokevirtual 62, 3), (22, .aload_n 0, 1), (23, .invokevirtual 59, 3), (26, .goto 70, 3), (29, .aload_n 0, 1), (30, .getfield 33, 3), (33, .sipush 256, 3), (36, .if_icmp .lt 22, 3), (39, .aload_n 1, 1), (40, .aload_n 0, 1), (41, .getfield 33, 3), (44, .sipush 256, 3), (47, .isub, 1), (48, .invokevirtual 84, 3), (51, .aload_n 0, 1), (52, .invokevirtual 59, 3), (55, .goto 41, 3), (58, .aload_n 0, 1), (59, .getfield 33, 3), (62, .bipush 45, 2), (64, .if_icmp .ne 11, 3), (67, .aload_n 0, 1), (68, .aload_n 1, 1), (69, .invokevirtual 87, 3), (72, .goto 24, 3), (75, .aload_n 0, 1), (76, .getfield 33, 3), (79, .bipush 40, 2), (81, .if_icmp .ne 11, 3), (84, .aload_n 0, 1), (85, .aload_n 1, 1), (86, .invokevirtual 90, 3), (89, .goto 7, 3), (92, .aload_n 0, 1), (93, .invokevirtual 93, 3), (96, .return_, 1)]
theorem mX6_readOne_0 : okd cX6_readOne lmX6_readOne_0 = true := by decide +kernel
theorem dX6_readOne_0 : decode cX6_readOne 0 = .ok (.aload_n 0, 1) := okd_at mX6_readOne_0 0 rfl
theorem dX6_readOne_1 : decode cX6_readOne 1 = .ok (.getfield 33, 3) := okd_at mX6_readOne_0 1 rfl
theorem dX6_readOne_4 : decode cX6_readOne 4 = .ok (.sipush 512, 3) := okd_at mX6_readOne_0 2 rfl
theorem dX6_readOne_7 : decode cX6_readOne 7 = .ok (.if_icmp .lt 22, 3) := okd_at mX6_readOne_0 3 rfl
theorem dX6_readOne_10 : decode cX6_readOne 10 = .ok (.aload_n 1, 1) := okd_at mX6_readOne_0 4 rfl
theorem dX6_readOne_11 : decode cX6_readOne 11 = .ok (.aload_n 0, 1) := okd_at mX6_readOne_0 5 rfl
theorem dX6_readOne_12 : decode cX6_readOne 12 = .ok (.getfield 33, 3) := okd_at mX6_readOne_0 6 rfl
theorem dX6_readOne_15 : decode cX6_readOne 15 = .ok (.sipush 512, 3) := okd_at mX6_readOne_0 7 rfl
theorem dX6_readOne_18 : decode cX6_readOne 18 = .ok (.isub, 1) := okd_at mX6_readOne_0 8 rfl
theorem dX6_readOne_19 : decode cX6_readOne 19 = .ok (.invokevirtual 62, 3) := okd_at mX6_readOne_0 9 rfl
theorem dX6_readOne_22 : decode cX6_readOne 22 = .ok (.aload_n 0, 1) := okd_at mX6_readOne_0 10 rfl
theorem dX6_readOne_23 : decode cX6_readOne 23 = .ok (.invokevirtual 59, 3) := okd_at mX6_readOne_0 11 rfl
theorem dX6_readOne_26 : decode cX6_readOne 26 = .ok (.goto 70, 3) := okd_at mX6_readOne_0 12 rfl
theorem dX6_readOne_29 : decode cX6_readOne 29 = .ok (.aload_n 0, 1) := okd_at mX6_readOne_0 13 rfl
theorem dX6_readOne_30 : decode cX6_readOne 30 = .ok (.getfield 33, 3) := okd_at mX6_readOne_0 14 rfl
theorem dX6_readOne_33 : decode cX6_readOne 33 = .ok (.sipush 256, 3) := okd_at mX6_readOne_0 15 rfl
theorem dX6_readOne_36 : decode cX6_readOne 36 = .ok (.if_icmp .lt 22, 3) := okd_at mX6_readOne_0 16 rfl
theorem dX6_readOne_39 : decode cX6_readOne 39 = .ok (.aload_n 1, 1) := okd_at mX6_readOne_0 17 rfl
theorem dX6_readOne_40 : decode cX6_readOne 40 = .ok (.aload_n 0, 1) := okd_at mX6_readOne_0 18 rfl
theorem dX6_readOne_41 : decode cX6_readOne 41 = .ok (.getfield 33, 3) := okd_at mX6_readOne_0 19 rfl
theorem dX6_readOne_44 : decode cX6_readOne 44 = .ok (.sipush 256, 3) := okd_at mX6_readOne_0 20 rfl
theorem dX6_readOne_47 : decode cX6_readOne 47 = .ok (.isub, 1) := okd_at mX6_readOne_0 21 rfl
theorem dX6_readOne_48 : decode cX6_readOne 48 = .ok (.invokevirtual 84, 3) := okd_at mX6_readOne_0 22 rfl
theorem dX6_readOne_51 : decode cX6_readOne 51 = .ok (.aload_n 0, 1) := okd_at mX6_readOne_0 23 rfl
theorem dX6_readOne_52 : decode cX6_readOne 52 = .ok (.invokevirtual 59, 3) := okd_at mX6_readOne_0 24 rfl
theorem dX6_readOne_55 : decode cX6_readOne 55 = .ok (.goto 41, 3) := okd_at mX6_readOne_0 25 rfl
theorem dX6_readOne_58 : decode cX6_readOne 58 = .ok (.aload_n 0, 1) := okd_at mX6_readOne_0 26 rfl
theorem dX6_readOne_59 : decode cX6_readOne 59 = .ok (.getfield 33, 3) := okd_at mX6_readOne_0 27 rfl
theorem dX6_readOne_62 : decode cX6_readOne 62 = .ok (.bipush 45, 2) := okd_at mX6_readOne_0 28 rfl
theorem dX6_readOne_64 : decode cX6_readOne 64 = .ok (.if_icmp .ne 11, 3) := okd_at mX6_readOne_0 29 rfl
theorem dX6_readOne_67 : decode cX6_readOne 67 = .ok (.aload_n 0, 1) := okd_at mX6_readOne_0 30 rfl
theorem dX6_readOne_68 : decode cX6_readOne 68 = .ok (.aload_n 1, 1) := okd_at mX6_readOne_0 31 rfl
theorem dX6_readOne_69 : decode cX6_readOne 69 = .ok (.invokevirtual 87, 3) := okd_at mX6_readOne_0 32 rfl
theorem dX6_readOne_72 : decode cX6_readOne 72 = .ok (.goto 24, 3) := okd_at mX6_readOne_0 33 rfl
theorem dX6_readOne_75 : decode cX6_readOne 75 = .ok (.aload_n 0, 1) := okd_at mX6_readOne_0 34 rfl
theorem dX6_readOne_76 : decode cX6_readOne 76 = .ok (.getfield 33, 3) := okd_at mX6_readOne_0 35 rfl
theorem dX6_readOne_79 : decode cX6_readOne 79 = .ok (.bipush 40, 2) := okd_at mX6_readOne_0 36 rfl
theorem dX6_readOne_81 : decode cX6_readOne 81 = .ok (.if_icmp .ne 11, 3) := okd_at mX6_readOne_0 37 rfl
theorem dX6_readOne_84 : decode cX6_readOne 84 = .ok (.aload_n 0, 1) := okd_at mX6_readOne_0 38 rfl
theorem dX6_readOne_85 : decode cX6_readOne 85 = .ok (.aload_n 1, 1) := okd_at mX6_readOne_0 39 rfl
theorem dX6_readOne_86 : decode cX6_readOne 86 = .ok (.invokevirtual 90, 3) := okd_at mX6_readOne_0 40 rfl
theorem dX6_readOne_89 : decode cX6_readOne 89 = .ok (.goto 7, 3) := okd_at mX6_readOne_0 41 rfl
theorem dX6_readOne_92 : decode cX6_readOne 92 = .ok (.aload_n 0, 1) := okd_at mX6_readOne_0 42 rfl
theorem dX6_readOne_93 : decode cX6_readOne 93 = .ok (.invokevirtual 93, 3) := okd_at mX6_readOne_0 43 rfl
theorem dX6_readOne_96 : decode cX6_readOne 96 = .ok (.return_, 1) := okd_at mX6_readOne_0 44 rfl
def lmX6_readPart_0 : List (Nat × Instr × Nat) := [(0, .aload_n 0, 1), (1, .iload_n 2, 1), (2, .invokevirtual 45, 3), (5, .aload_n 0, 1), (6, .aload_n 1, 1), (7, .invokevirtual 49, 3), (10, .aload_n 0, 1), (11, .bipush 59, 2), (13, .invokevirtual 45, 3), (16, .aload_n 1, 1), (17, .iload_n 3, 1), (18, .invokevirtual 53, 3), (21, .return_, 1)]
theorem mX6_readPart_0 : okd cX6_readPart lmX6_readPart_0 = true := by decide +kernel
theorem dX6_readPart_0 : decode cX6_readPart 0 = .ok (.aload_n 0, 1) := okd_at mX6_readPart_0 0 rfl
theorem dX6_readPart_1 : decode cX6_readPart 1 = .ok (.iload_n 2, 1) := okd_at mX6_readPart_0 1 rfl
theorem dX6_readPart_2 : decode cX6_readPart 2 = .ok (.invokevirtual 45, 3) := okd_at mX6_readPart_0 2 rfl
theorem dX6_readPart_5 : decode cX6_readPart 5 = .ok (.aload_n 0, 1) := okd_at mX6_readPart_0 3 rfl
theorem dX6_readPart_6 : decode cX6_readPart 6 = .ok (.aload_n 1, 1) := okd_at mX6_readPart_0 4 rfl
theorem dX6_readPart_7 : decode cX6_readPart 7 = .ok (.invokevirtual 49, 3) := okd_at mX6_readPart_0 5 rfl
theorem dX6_readPart_10 : decode cX6_readPart 10 = .ok (.aload_n 0, 1) := okd_at mX6_readPart_0 6 rfl
theorem dX6_readPart_11 : decode cX6_readPart 11 = .ok (.bipush 59, 2) := okd_at mX6_readPart_0 7 rfl
theorem dX6_readPart_13 : decode cX6_readPart 13 = .ok (.invokevirtual 45, 3) := okd_at mX6_readPart_0 8 rfl
theorem dX6_readPart_16 : decode cX6_readPart 16 = .ok (.aload_n 1, 1) := okd_at mX6_readPart_0 9 rfl
theorem dX6_readPart_17 : decode cX6_readPart 17 = .ok (.iload_n 3, 1) := okd_at mX6_readPart_0 10 rfl
theorem dX6_readPart_18 : decode cX6_readPart 18 = .ok (.invokevirtual 53, 3) := okd_at mX6_readPart_0 11 rfl
theorem dX6_readPart_21 : decode cX6_readPart 21 = .ok (.return_, 1) := okd_at mX6_readPart_0 12 rfl
def lmX6_readSum_0 : List (Nat × Instr × Nat) := [(0, .aload_n 0, 1), (1, .aload_n 1, 1), (2, .invokevirtual 78, 3), (5, .iconst 0, 1), (6, .istore_n 2, 1), (7, .iload_n 2, 1), (8, .sipush 160, 3), (11, .if_icmp .ge 58, 3), (14, .aload_n 0, 1), (15, .getfield 33, 3), (18, .bipush 43, 2), (20, .if_icmp .eq 12, 3), (23, .aload_n 0, 1), (24, .getfield 33, 3), (27, .bipush 45, 2), (29, .if_icmp .ne 40, 3), (32, .aload_n 0, 1), (33, .getfield 33, 3), (36, .bipush 43, 2), (38, .if_icmp .ne 8, 3), (41, .bipush (-10), 2), (43, .goto 5, 3), (46, .bipush (-11), 2), (48, .istore_n 3, 1), (49, .aload_n 0, 1), (50, .invokevirtual 59, 3), (53, .aload_n 0, 1), (54, .aload_n 1, 1), (55, .invokevirtual 78, 3), (58, .aload_n 1, 1), (59, .iload_n 3, 1), (60, .invokevirtual 62, 3), (63, .iinc 2 1, 3), (66, .goto (-59), 3), (69, .return_, 1)]
theorem mX6_readSum_0 : okd cX6_readSum lmX6_readSum_0 = true := by decide +kernel
theorem dX6_readSum_0 : decode cX6_readSum 0 = .ok (.aload_n 0, 1) := okd_at mX6_readSum_0 0 rfl
theorem dX6_readSum_1 : decode cX6_readSum 1 = .ok (.aload_n 1, 1) := okd_at mX6_readSum_0 1 rfl
theorem dX6_readSum_2 : decode cX6_readSum 2 = .ok (.invokevirtual 78, 3) := okd_at mX6_readSum_0 2 rfl
theorem dX6_readSum_5 : decode cX6_readSum 5 = .ok (.iconst 0, 1) := okd_at mX6_readSum_0 3 rfl
theorem dX6_readSum_6 : decode cX6_readSum 6 = .ok (.istore_n 2, 1) := okd_at mX6_readSum_0 4 rfl
theorem dX6_readSum_7 : decode cX6_readSum 7 = .ok (.iload_n 2, 1) := okd_at mX6_readSum_0 5 rfl
theorem dX6_readSum_8 : decode cX6_readSum 8 = .ok (.sipush 160, 3) := okd_at mX6_readSum_0 6 rfl
theorem dX6_readSum_11 : decode cX6_readSum 11 = .ok (.if_icmp .ge 58, 3) := okd_at mX6_readSum_0 7 rfl
theorem dX6_readSum_14 : decode cX6_readSum 14 = .ok (.aload_n 0, 1) := okd_at mX6_readSum_0 8 rfl
theorem dX6_readSum_15 : decode cX6_readSum 15 = .ok (.getfield 33, 3) := okd_at mX6_readSum_0 9 rfl
theorem dX6_readSum_18 : decode cX6_readSum 18 = .ok (.bipush 43, 2) := okd_at mX6_readSum_0 10 rfl
theorem dX6_readSum_20 : decode cX6_readSum 20 = .ok (.if_icmp .eq 12, 3) := okd_at mX6_readSum_0 11 rfl
theorem dX6_readSum_23 : decode cX6_readSum 23 = .ok (.aload_n 0, 1) := okd_at mX6_readSum_0 12 rfl
theorem dX6_readSum_24 : decode cX6_readSum 24 = .ok (.getfield 33, 3) := okd_at mX6_readSum_0 13 rfl
theorem dX6_readSum_27 : decode cX6_readSum 27 = .ok (.bipush 45, 2) := okd_at mX6_readSum_0 14 rfl
theorem dX6_readSum_29 : decode cX6_readSum 29 = .ok (.if_icmp .ne 40, 3) := okd_at mX6_readSum_0 15 rfl
theorem dX6_readSum_32 : decode cX6_readSum 32 = .ok (.aload_n 0, 1) := okd_at mX6_readSum_0 16 rfl
theorem dX6_readSum_33 : decode cX6_readSum 33 = .ok (.getfield 33, 3) := okd_at mX6_readSum_0 17 rfl
theorem dX6_readSum_36 : decode cX6_readSum 36 = .ok (.bipush 43, 2) := okd_at mX6_readSum_0 18 rfl
theorem dX6_readSum_38 : decode cX6_readSum 38 = .ok (.if_icmp .ne 8, 3) := okd_at mX6_readSum_0 19 rfl
theorem dX6_readSum_41 : decode cX6_readSum 41 = .ok (.bipush (-10), 2) := okd_at mX6_readSum_0 20 rfl
theorem dX6_readSum_43 : decode cX6_readSum 43 = .ok (.goto 5, 3) := okd_at mX6_readSum_0 21 rfl
theorem dX6_readSum_46 : decode cX6_readSum 46 = .ok (.bipush (-11), 2) := okd_at mX6_readSum_0 22 rfl
theorem dX6_readSum_48 : decode cX6_readSum 48 = .ok (.istore_n 3, 1) := okd_at mX6_readSum_0 23 rfl
theorem dX6_readSum_49 : decode cX6_readSum 49 = .ok (.aload_n 0, 1) := okd_at mX6_readSum_0 24 rfl
theorem dX6_readSum_50 : decode cX6_readSum 50 = .ok (.invokevirtual 59, 3) := okd_at mX6_readSum_0 25 rfl
theorem dX6_readSum_53 : decode cX6_readSum 53 = .ok (.aload_n 0, 1) := okd_at mX6_readSum_0 26 rfl
theorem dX6_readSum_54 : decode cX6_readSum 54 = .ok (.aload_n 1, 1) := okd_at mX6_readSum_0 27 rfl
theorem dX6_readSum_55 : decode cX6_readSum 55 = .ok (.invokevirtual 78, 3) := okd_at mX6_readSum_0 28 rfl
theorem dX6_readSum_58 : decode cX6_readSum 58 = .ok (.aload_n 1, 1) := okd_at mX6_readSum_0 29 rfl
theorem dX6_readSum_59 : decode cX6_readSum 59 = .ok (.iload_n 3, 1) := okd_at mX6_readSum_0 30 rfl
theorem dX6_readSum_60 : decode cX6_readSum 60 = .ok (.invokevirtual 62, 3) := okd_at mX6_readSum_0 31 rfl
theorem dX6_readSum_63 : decode cX6_readSum 63 = .ok (.iinc 2 1, 3) := okd_at mX6_readSum_0 32 rfl
theorem dX6_readSum_66 : decode cX6_readSum 66 = .ok (.goto (-59), 3) := okd_at mX6_readSum_0 33 rfl
theorem dX6_readSum_69 : decode cX6_readSum 69 = .ok (.return_, 1) := okd_at mX6_readSum_0 34 rfl
def lmX6_readTerm_0 : List (Nat × Instr × Nat) := [(0, .aload_n 0, 1), (1, .aload_n 1, 1), (2, .invokevirtual 81, 3), (5, .iconst 0, 1), (6, .istore_n 2, 1), (7, .iload_n 2, 1), (8, .sipush 160, 3), (11, .if_icmp .ge 33, 3), (14, .aload_n 0, 1), (15, .getfield 33, 3), (18, .bipush 42, 2), (20, .if_icmp .ne 24, 3), (23, .aload_n 0, 1), (24, .invokevirtual 59, 3), (27, .aload_n 0, 1), (28, .aload_n 1, 1), (29, .invokevirtual 81, 3), (32, .aload_n 1, 1), (33, .bipush (-9), 2), (35, .invokevirtual 62, 3), (38, .iinc 2 1, 3), (41, .goto (-34), 3), (44, .return_, 1)]
theorem mX6_readTerm_0 : okd cX6_readTerm lmX6_readTerm_0 = true := by decide +kernel
theorem dX6_readTerm_0 : decode cX6_readTerm 0 = .ok (.aload_n 0, 1) := okd_at mX6_readTerm_0 0 rfl
theorem dX6_readTerm_1 : decode cX6_readTerm 1 = .ok (.aload_n 1, 1) := okd_at mX6_readTerm_0 1 rfl
theorem dX6_readTerm_2 : decode cX6_readTerm 2 = .ok (.invokevirtual 81, 3) := okd_at mX6_readTerm_0 2 rfl
theorem dX6_readTerm_5 : decode cX6_readTerm 5 = .ok (.iconst 0, 1) := okd_at mX6_readTerm_0 3 rfl
theorem dX6_readTerm_6 : decode cX6_readTerm 6 = .ok (.istore_n 2, 1) := okd_at mX6_readTerm_0 4 rfl
theorem dX6_readTerm_7 : decode cX6_readTerm 7 = .ok (.iload_n 2, 1) := okd_at mX6_readTerm_0 5 rfl
theorem dX6_readTerm_8 : decode cX6_readTerm 8 = .ok (.sipush 160, 3) := okd_at mX6_readTerm_0 6 rfl
theorem dX6_readTerm_11 : decode cX6_readTerm 11 = .ok (.if_icmp .ge 33, 3) := okd_at mX6_readTerm_0 7 rfl
theorem dX6_readTerm_14 : decode cX6_readTerm 14 = .ok (.aload_n 0, 1) := okd_at mX6_readTerm_0 8 rfl
theorem dX6_readTerm_15 : decode cX6_readTerm 15 = .ok (.getfield 33, 3) := okd_at mX6_readTerm_0 9 rfl
theorem dX6_readTerm_18 : decode cX6_readTerm 18 = .ok (.bipush 42, 2) := okd_at mX6_readTerm_0 10 rfl
theorem dX6_readTerm_20 : decode cX6_readTerm 20 = .ok (.if_icmp .ne 24, 3) := okd_at mX6_readTerm_0 11 rfl
theorem dX6_readTerm_23 : decode cX6_readTerm 23 = .ok (.aload_n 0, 1) := okd_at mX6_readTerm_0 12 rfl
theorem dX6_readTerm_24 : decode cX6_readTerm 24 = .ok (.invokevirtual 59, 3) := okd_at mX6_readTerm_0 13 rfl
theorem dX6_readTerm_27 : decode cX6_readTerm 27 = .ok (.aload_n 0, 1) := okd_at mX6_readTerm_0 14 rfl
theorem dX6_readTerm_28 : decode cX6_readTerm 28 = .ok (.aload_n 1, 1) := okd_at mX6_readTerm_0 15 rfl
theorem dX6_readTerm_29 : decode cX6_readTerm 29 = .ok (.invokevirtual 81, 3) := okd_at mX6_readTerm_0 16 rfl
theorem dX6_readTerm_32 : decode cX6_readTerm 32 = .ok (.aload_n 1, 1) := okd_at mX6_readTerm_0 17 rfl
theorem dX6_readTerm_33 : decode cX6_readTerm 33 = .ok (.bipush (-9), 2) := okd_at mX6_readTerm_0 18 rfl
theorem dX6_readTerm_35 : decode cX6_readTerm 35 = .ok (.invokevirtual 62, 3) := okd_at mX6_readTerm_0 19 rfl
theorem dX6_readTerm_38 : decode cX6_readTerm 38 = .ok (.iinc 2 1, 3) := okd_at mX6_readTerm_0 20 rfl
theorem dX6_readTerm_41 : decode cX6_readTerm 41 = .ok (.goto (-34), 3) := okd_at mX6_readTerm_0 21 rfl
theorem dX6_readTerm_44 : decode cX6_readTerm 44 = .ok (.return_, 1) := okd_at mX6_readTerm_0 22 rfl
def lmX6_step_0 : List (Nat × Instr × Nat) := [(0, .aload_n 0, 1), (1, .dup, 1), (2, .getfield 25, 3), (5, .iconst 1, 1), (6, .iadd, 1), (7, .putfield 25, 3), (10, .aload_n 0, 1), (11, .aload_n 0, 1), (12, .getfield 9, 3), (15, .aload_n 0, 1), (16, .getfield 25, 3), (19, .invokevirtual 29, 3), (22, .putfield 33, 3), (25, .return_, 1)]
theorem mX6_step_0 : okd cX6_step lmX6_step_0 = true := by decide +kernel
theorem dX6_step_0 : decode cX6_step 0 = .ok (.aload_n 0, 1) := okd_at mX6_step_0 0 rfl
theorem dX6_step_1 : decode cX6_step 1 = .ok (.dup, 1) := okd_at mX6_step_0 1 rfl
theorem dX6_step_2 : decode cX6_step 2 = .ok (.getfield 25, 3) := okd_at mX6_step_0 2 rfl
theorem dX6_step_5 : decode cX6_step 5 = .ok (.iconst 1, 1) := okd_at mX6_step_0 3 rfl
theorem dX6_step_6 : decode cX6_step 6 = .ok (.iadd, 1) := okd_at mX6_step_0 4 rfl
theorem dX6_step_7 : decode cX6_step 7 = .ok (.putfield 25, 3) := okd_at mX6_step_0 5 rfl
theorem dX6_step_10 : decode cX6_step 10 = .ok (.aload_n 0, 1) := okd_at mX6_step_0 6 rfl
theorem dX6_step_11 : decode cX6_step 11 = .ok (.aload_n 0, 1) := okd_at mX6_step_0 7 rfl
theorem dX6_step_12 : decode cX6_step 12 = .ok (.getfield 9, 3) := okd_at mX6_step_0 8 rfl
theorem dX6_step_15 : decode cX6_step 15 = .ok (.aload_n 0, 1) := okd_at mX6_step_0 9 rfl
theorem dX6_step_16 : decode cX6_step 16 = .ok (.getfield 25, 3) := okd_at mX6_step_0 10 rfl
theorem dX6_step_19 : decode cX6_step 19 = .ok (.invokevirtual 29, 3) := okd_at mX6_step_0 11 rfl
theorem dX6_step_22 : decode cX6_step 22 = .ok (.putfield 33, 3) := okd_at mX6_step_0 12 rfl
theorem dX6_step_25 : decode cX6_step 25 = .ok (.return_, 1) := okd_at mX6_step_0 13 rfl
def lmX7_become_0 : List (Nat × Instr × Nat) := [(0, .aload_n 0, 1), (1, .iload_n 1, 1), (2, .putfield 15, 3), (5, .aload_n 0, 1), (6, .iload_n 2, 1), (7, .putfield 19, 3), (10, .iconst 0, 1), (11, .istore_n 3, 1), (12, .iload_n 3, 1), (13, .aload_n 0, 1), (14, .getfield 9, 3), (17, .arraylength, 1), (18, .if_icmp .ge 16, 3), (21, .aload_n 0, 1), (22, .getfield 9, 3), (25, .iload_n 3, 1), (26, .iconst 0, 1), (27, .iastore, 1), (28, .iinc 3 1, 3), (31, .goto (-19), 3), (34, .return_, 1)]
theorem mX7_become_0 : okd cX7_become lmX7_become_0 = true := by decide +kernel
theorem dX7_become_0 : decode cX7_become 0 = .ok (.aload_n 0, 1) := okd_at mX7_become_0 0 rfl
theorem dX7_become_1 : decode cX7_become 1 = .ok (.iload_n 1, 1) := okd_at mX7_become_0 1 rfl
theorem dX7_become_2 : decode cX7_become 2 = .ok (.putfield 15, 3) := okd_at mX7_become_0 2 rfl
theorem dX7_become_5 : decode cX7_become 5 = .ok (.aload_n 0, 1) := okd_at mX7_become_0 3 rfl
theorem dX7_become_6 : decode cX7_become 6 = .ok (.iload_n 2, 1) := okd_at mX7_become_0 4 rfl
theorem dX7_become_7 : decode cX7_become 7 = .ok (.putfield 19, 3) := okd_at mX7_become_0 5 rfl
theorem dX7_become_10 : decode cX7_become 10 = .ok (.iconst 0, 1) := okd_at mX7_become_0 6 rfl
theorem dX7_become_11 : decode cX7_become 11 = .ok (.istore_n 3, 1) := okd_at mX7_become_0 7 rfl
theorem dX7_become_12 : decode cX7_become 12 = .ok (.iload_n 3, 1) := okd_at mX7_become_0 8 rfl
theorem dX7_become_13 : decode cX7_become 13 = .ok (.aload_n 0, 1) := okd_at mX7_become_0 9 rfl
theorem dX7_become_14 : decode cX7_become 14 = .ok (.getfield 9, 3) := okd_at mX7_become_0 10 rfl
theorem dX7_become_17 : decode cX7_become 17 = .ok (.arraylength, 1) := okd_at mX7_become_0 11 rfl
theorem dX7_become_18 : decode cX7_become 18 = .ok (.if_icmp .ge 16, 3) := okd_at mX7_become_0 12 rfl
theorem dX7_become_21 : decode cX7_become 21 = .ok (.aload_n 0, 1) := okd_at mX7_become_0 13 rfl
theorem dX7_become_22 : decode cX7_become 22 = .ok (.getfield 9, 3) := okd_at mX7_become_0 14 rfl
theorem dX7_become_25 : decode cX7_become 25 = .ok (.iload_n 3, 1) := okd_at mX7_become_0 15 rfl
theorem dX7_become_26 : decode cX7_become 26 = .ok (.iconst 0, 1) := okd_at mX7_become_0 16 rfl
theorem dX7_become_27 : decode cX7_become 27 = .ok (.iastore, 1) := okd_at mX7_become_0 17 rfl
theorem dX7_become_28 : decode cX7_become 28 = .ok (.iinc 3 1, 3) := okd_at mX7_become_0 18 rfl
theorem dX7_become_31 : decode cX7_become 31 = .ok (.goto (-19), 3) := okd_at mX7_become_0 19 rfl
theorem dX7_become_34 : decode cX7_become 34 = .ok (.return_, 1) := okd_at mX7_become_0 20 rfl
def lmX7_isMissing_0 : List (Nat × Instr × Nat) := [(0, .aload_n 0, 1), (1, .getfield 15, 3), (4, .iconst (-1), 1), (5, .if_icmp .ne 7, 3), (8, .iconst 1, 1), (9, .goto 4, 3), (12, .iconst 0, 1), (13, .ireturn, 1)]
theorem mX7_isMissing_0 : okd cX7_isMissing lmX7_isMissing_0 = true := by decide +kernel
theorem dX7_isMissing_0 : decode cX7_isMissing 0 = .ok (.aload_n 0, 1) := okd_at mX7_isMissing_0 0 rfl
theorem dX7_isMissing_1 : decode cX7_isMissing 1 = .ok (.getfield 15, 3) := okd_at mX7_isMissing_0 1 rfl
theorem dX7_isMissing_4 : decode cX7_isMissing 4 = .ok (.iconst (-1), 1) := okd_at mX7_isMissing_0 2 rfl
theorem dX7_isMissing_5 : decode cX7_isMissing 5 = .ok (.if_icmp .ne 7, 3) := okd_at mX7_isMissing_0 3 rfl
theorem dX7_isMissing_8 : decode cX7_isMissing 8 = .ok (.iconst 1, 1) := okd_at mX7_isMissing_0 4 rfl
theorem dX7_isMissing_9 : decode cX7_isMissing 9 = .ok (.goto 4, 3) := okd_at mX7_isMissing_0 5 rfl
theorem dX7_isMissing_12 : decode cX7_isMissing 12 = .ok (.iconst 0, 1) := okd_at mX7_isMissing_0 6 rfl
theorem dX7_isMissing_13 : decode cX7_isMissing 13 = .ok (.ireturn, 1) := okd_at mX7_isMissing_0 7 rfl
def lmX7_read_0 : List (Nat × Instr × Nat) := [(0, .aload_n 0, 1), (1, .getfield 9, 3), (4, .iload_n 1, 1), (5, .invokestatic 26, 3), (8, .ireturn, 1)]
theorem mX7_read_0 : okd cX7_read lmX7_read_0 = true := by decide +kernel
theorem dX7_read_0 : decode cX7_read 0 = .ok (.aload_n 0, 1) := okd_at mX7_read_0 0 rfl
theorem dX7_read_1 : decode cX7_read 1 = .ok (.getfield 9, 3) := okd_at mX7_read_0 1 rfl
theorem dX7_read_4 : decode cX7_read 4 = .ok (.iload_n 1, 1) := okd_at mX7_read_0 2 rfl
theorem dX7_read_5 : decode cX7_read 5 = .ok (.invokestatic 26, 3) := okd_at mX7_read_0 3 rfl
theorem dX7_read_8 : decode cX7_read 8 = .ok (.ireturn, 1) := okd_at mX7_read_0 4 rfl
def lmX7_spans_0 : List (Nat × Instr × Nat) := [(0, .iload_n 2, 1), (1, .ifCond .lt 21, 3), (4, .iload_n 1, 1), (5, .ifCond .lt 17, 3), (8, .iload_n 1, 1), (9, .aload_n 0, 1), (10, .getfield 19, 3), (13, .iload_n 2, 1), (14, .isub, 1), (15, .if_icmp .gt 7, 3), (18, .iconst 1, 1), (19, .goto 4, 3), (22, .iconst 0, 1), (23, .ireturn, 1)]
theorem mX7_spans_0 : okd cX7_spans lmX7_spans_0 = true := by decide +kernel
theorem dX7_spans_0 : decode cX7_spans 0 = .ok (.iload_n 2, 1) := okd_at mX7_spans_0 0 rfl
theorem dX7_spans_1 : decode cX7_spans 1 = .ok (.ifCond .lt 21, 3) := okd_at mX7_spans_0 1 rfl
theorem dX7_spans_4 : decode cX7_spans 4 = .ok (.iload_n 1, 1) := okd_at mX7_spans_0 2 rfl
theorem dX7_spans_5 : decode cX7_spans 5 = .ok (.ifCond .lt 17, 3) := okd_at mX7_spans_0 3 rfl
theorem dX7_spans_8 : decode cX7_spans 8 = .ok (.iload_n 1, 1) := okd_at mX7_spans_0 4 rfl
theorem dX7_spans_9 : decode cX7_spans 9 = .ok (.aload_n 0, 1) := okd_at mX7_spans_0 5 rfl
theorem dX7_spans_10 : decode cX7_spans 10 = .ok (.getfield 19, 3) := okd_at mX7_spans_0 6 rfl
theorem dX7_spans_13 : decode cX7_spans 13 = .ok (.iload_n 2, 1) := okd_at mX7_spans_0 7 rfl
theorem dX7_spans_14 : decode cX7_spans 14 = .ok (.isub, 1) := okd_at mX7_spans_0 8 rfl
theorem dX7_spans_15 : decode cX7_spans 15 = .ok (.if_icmp .gt 7, 3) := okd_at mX7_spans_0 9 rfl
theorem dX7_spans_18 : decode cX7_spans 18 = .ok (.iconst 1, 1) := okd_at mX7_spans_0 10 rfl
theorem dX7_spans_19 : decode cX7_spans 19 = .ok (.goto 4, 3) := okd_at mX7_spans_0 11 rfl
theorem dX7_spans_22 : decode cX7_spans 22 = .ok (.iconst 0, 1) := okd_at mX7_spans_0 12 rfl
theorem dX7_spans_23 : decode cX7_spans 23 = .ok (.ireturn, 1) := okd_at mX7_spans_0 13 rfl
def lmX7_vanish_0 : List (Nat × Instr × Nat) := [(0, .aload_n 0, 1), (1, .iconst (-1), 1), (2, .putfield 15, 3), (5, .aload_n 0, 1), (6, .iconst 0, 1), (7, .putfield 19, 3), (10, .return_, 1)]
theorem mX7_vanish_0 : okd cX7_vanish lmX7_vanish_0 = true := by decide +kernel
theorem dX7_vanish_0 : decode cX7_vanish 0 = .ok (.aload_n 0, 1) := okd_at mX7_vanish_0 0 rfl
theorem dX7_vanish_1 : decode cX7_vanish 1 = .ok (.iconst (-1), 1) := okd_at mX7_vanish_0 1 rfl
theorem dX7_vanish_2 : decode cX7_vanish 2 = .ok (.putfield 15, 3) := okd_at mX7_vanish_0 2 rfl
theorem dX7_vanish_5 : decode cX7_vanish 5 = .ok (.aload_n 0, 1) := okd_at mX7_vanish_0 3 rfl
theorem dX7_vanish_6 : decode cX7_vanish 6 = .ok (.iconst 0, 1) := okd_at mX7_vanish_0 4 rfl
theorem dX7_vanish_7 : decode cX7_vanish 7 = .ok (.putfield 19, 3) := okd_at mX7_vanish_0 5 rfl
theorem dX7_vanish_10 : decode cX7_vanish 10 = .ok (.return_, 1) := okd_at mX7_vanish_0 6 rfl
def lmX7_write_0 : List (Nat × Instr × Nat) := [(0, .aload_n 0, 1), (1, .getfield 9, 3), (4, .iload_n 1, 1), (5, .aload_n 0, 1), (6, .getfield 15, 3), (9, .ifCond .ne 8, 3), (12, .iload_n 2, 1), (13, .i2b, 1), (14, .goto 17, 3), (17, .aload_n 0, 1), (18, .getfield 15, 3), (21, .iconst 1, 1), (22, .if_icmp .ne 8, 3), (25, .iload_n 2, 1), (26, .i2s, 1), (27, .goto 4, 3), (30, .iload_n 2, 1), (31, .invokestatic 22, 3), (34, .return_, 1)]
theorem mX7_write_0 : okd cX7_write lmX7_write_0 = true := by decide +kernel
theorem dX7_write_0 : decode cX7_write 0 = .ok (.aload_n 0, 1) := okd_at mX7_write_0 0 rfl
theorem dX7_write_1 : decode cX7_write 1 = .ok (.getfield 9, 3) := okd_at mX7_write_0 1 rfl
theorem dX7_write_4 : decode cX7_write 4 = .ok (.iload_n 1, 1) := okd_at mX7_write_0 2 rfl
theorem dX7_write_5 : decode cX7_write 5 = .ok (.aload_n 0, 1) := okd_at mX7_write_0 3 rfl
theorem dX7_write_6 : decode cX7_write 6 = .ok (.getfield 15, 3) := okd_at mX7_write_0 4 rfl
theorem dX7_write_9 : decode cX7_write 9 = .ok (.ifCond .ne 8, 3) := okd_at mX7_write_0 5 rfl
theorem dX7_write_12 : decode cX7_write 12 = .ok (.iload_n 2, 1) := okd_at mX7_write_0 6 rfl
theorem dX7_write_13 : decode cX7_write 13 = .ok (.i2b, 1) := okd_at mX7_write_0 7 rfl
theorem dX7_write_14 : decode cX7_write 14 = .ok (.goto 17, 3) := okd_at mX7_write_0 8 rfl
theorem dX7_write_17 : decode cX7_write 17 = .ok (.aload_n 0, 1) := okd_at mX7_write_0 9 rfl
theorem dX7_write_18 : decode cX7_write 18 = .ok (.getfield 15, 3) := okd_at mX7_write_0 10 rfl
theorem dX7_write_21 : decode cX7_write 21 = .ok (.iconst 1, 1) := okd_at mX7_write_0 11 rfl
theorem dX7_write_22 : decode cX7_write 22 = .ok (.if_icmp .ne 8, 3) := okd_at mX7_write_0 12 rfl
theorem dX7_write_25 : decode cX7_write 25 = .ok (.iload_n 2, 1) := okd_at mX7_write_0 13 rfl
theorem dX7_write_26 : decode cX7_write 26 = .ok (.i2s, 1) := okd_at mX7_write_0 14 rfl
theorem dX7_write_27 : decode cX7_write 27 = .ok (.goto 4, 3) := okd_at mX7_write_0 15 rfl
theorem dX7_write_30 : decode cX7_write 30 = .ok (.iload_n 2, 1) := okd_at mX7_write_0 16 rfl
theorem dX7_write_31 : decode cX7_write 31 = .ok (.invokestatic 22, 3) := okd_at mX7_write_0 17 rfl
theorem dX7_write_34 : decode cX7_write 34 = .ok (.return_, 1) := okd_at mX7_write_0 18 rfl
def lmX8_add_0 : List (Nat × Instr × Nat) := [(0, .aload_n 0, 1), (1, .getfield 21, 3), (4, .aload_n 0, 1), (5, .getfield 9, 3), (8, .arraylength, 1), (9, .if_icmp .ge 23, 3), (12, .aload_n 0, 1), (13, .getfield 9, 3), (16, .aload_n 0, 1), (17, .getfield 21, 3), (20, .iload_n 1, 1), (21, .iastore, 1), (22, .aload_n 0, 1), (23, .dup, 1), (24, .getfield 21, 3), (27, .iconst 1, 1), (28, .iadd, 1), (29, .putfield 21, 3), (32, .return_, 1)]
theorem mX8_add_0 : okd cX8_add lmX8_add_0 = true := by decide +kernel
theorem dX8_add_0 : decode cX8_add 0 = .ok (.aload_n 0, 1) := okd_at mX8_add_0 0 rfl
theorem dX8_add_1 : decode cX8_add 1 = .ok (.getfield 21, 3) := okd_at mX8_add_0 1 rfl
theorem dX8_add_4 : decode cX8_add 4 = .ok (.aload_n 0, 1) := okd_at mX8_add_0 2 rfl
theorem dX8_add_5 : decode cX8_add 5 = .ok (.getfield 9, 3) := okd_at mX8_add_0 3 rfl
theorem dX8_add_8 : decode cX8_add 8 = .ok (.arraylength, 1) := okd_at mX8_add_0 4 rfl
theorem dX8_add_9 : decode cX8_add 9 = .ok (.if_icmp .ge 23, 3) := okd_at mX8_add_0 5 rfl
theorem dX8_add_12 : decode cX8_add 12 = .ok (.aload_n 0, 1) := okd_at mX8_add_0 6 rfl
theorem dX8_add_13 : decode cX8_add 13 = .ok (.getfield 9, 3) := okd_at mX8_add_0 7 rfl
theorem dX8_add_16 : decode cX8_add 16 = .ok (.aload_n 0, 1) := okd_at mX8_add_0 8 rfl
theorem dX8_add_17 : decode cX8_add 17 = .ok (.getfield 21, 3) := okd_at mX8_add_0 9 rfl
theorem dX8_add_20 : decode cX8_add 20 = .ok (.iload_n 1, 1) := okd_at mX8_add_0 10 rfl
theorem dX8_add_21 : decode cX8_add 21 = .ok (.iastore, 1) := okd_at mX8_add_0 11 rfl
theorem dX8_add_22 : decode cX8_add 22 = .ok (.aload_n 0, 1) := okd_at mX8_add_0 12 rfl
theorem dX8_add_23 : decode cX8_add 23 = .ok (.dup, 1) := okd_at mX8_add_0 13 rfl
theorem dX8_add_24 : decode cX8_add 24 = .ok (.getfield 21, 3) := okd_at mX8_add_0 14 rfl
theorem dX8_add_27 : decode cX8_add 27 = .ok (.iconst 1, 1) := okd_at mX8_add_0 15 rfl
theorem dX8_add_28 : decode cX8_add 28 = .ok (.iadd, 1) := okd_at mX8_add_0 16 rfl
theorem dX8_add_29 : decode cX8_add 29 = .ok (.putfield 21, 3) := okd_at mX8_add_0 17 rfl
theorem dX8_add_32 : decode cX8_add 32 = .ok (.return_, 1) := okd_at mX8_add_0 18 rfl
def lmX8_cut_0 : List (Nat × Instr × Nat) := [(0, .aload_n 0, 1), (1, .iconst 0, 1), (2, .putfield 25, 3), (5, .iconst 0, 1), (6, .istore_n 1, 1), (7, .iconst 0, 1), (8, .istore_n 2, 1), (9, .iload_n 2, 1), (10, .aload_n 0, 1), (11, .getfield 21, 3), (14, .if_icmp .ge 45, 3), (17, .iload_n 2, 1), (18, .iload_n 1, 1), (19, .if_icmp .lt 34, 3), (22, .aload_n 0, 1), (23, .getfield 9, 3), (26, .iload_n 2, 1), (27, .invokestatic 28, 3), (30, .invokestatic 32, 3), (33, .ifCond .ne 20, 3), (36, .aload_n 0, 1), (37, .iload_n 2, 1), (38, .invokevirtual 36, 3), (41, .istore_n 1, 1), (42, .aload_n 0, 1), (43, .iload_n 2, 1), (44, .aload_n 0, 1), (45, .iload_n 2, 1), (46, .iload_n 1, 1), (47, .invokevirtual 40, 3), (50, .invokevirtual 44, 3), (53, .iinc 2 1, 3), (56, .goto (-47), 3), (59, .return_, 1)]
theorem mX8_cut_0 : okd cX8_cut lmX8_cut_0 = true := by decide +kernel
theorem dX8_cut_0 : decode cX8_cut 0 = .ok (.aload_n 0, 1) := okd_at mX8_cut_0 0 rfl
theorem dX8_cut_1 : decode cX8_cut 1 = .ok (.iconst 0, 1) := okd_at mX8_cut_0 1 rfl
theorem dX8_cut_2 : decode cX8_cut 2 = .ok (.putfield 25, 3) := okd_at mX8_cut_0 2 rfl
theorem dX8_cut_5 : decode cX8_cut 5 = .ok (.iconst 0, 1) := okd_at mX8_cut_0 3 rfl
theorem dX8_cut_6 : decode cX8_cut 6 = .ok (.istore_n 1, 1) := okd_at mX8_cut_0 4 rfl
theorem dX8_cut_7 : decode cX8_cut 7 = .ok (.iconst 0, 1) := okd_at mX8_cut_0 5 rfl
theorem dX8_cut_8 : decode cX8_cut 8 = .ok (.istore_n 2, 1) := okd_at mX8_cut_0 6 rfl
theorem dX8_cut_9 : decode cX8_cut 9 = .ok (.iload_n 2, 1) := okd_at mX8_cut_0 7 rfl
theorem dX8_cut_10 : decode cX8_cut 10 = .ok (.aload_n 0, 1) := okd_at mX8_cut_0 8 rfl
theorem dX8_cut_11 : decode cX8_cut 11 = .ok (.getfield 21, 3) := okd_at mX8_cut_0 9 rfl
theorem dX8_cut_14 : decode cX8_cut 14 = .ok (.if_icmp .ge 45, 3) := okd_at mX8_cut_0 10 rfl
theorem dX8_cut_17 : decode cX8_cut 17 = .ok (.iload_n 2, 1) := okd_at mX8_cut_0 11 rfl
theorem dX8_cut_18 : decode cX8_cut 18 = .ok (.iload_n 1, 1) := okd_at mX8_cut_0 12 rfl
theorem dX8_cut_19 : decode cX8_cut 19 = .ok (.if_icmp .lt 34, 3) := okd_at mX8_cut_0 13 rfl
theorem dX8_cut_22 : decode cX8_cut 22 = .ok (.aload_n 0, 1) := okd_at mX8_cut_0 14 rfl
theorem dX8_cut_23 : decode cX8_cut 23 = .ok (.getfield 9, 3) := okd_at mX8_cut_0 15 rfl
theorem dX8_cut_26 : decode cX8_cut 26 = .ok (.iload_n 2, 1) := okd_at mX8_cut_0 16 rfl
theorem dX8_cut_27 : decode cX8_cut 27 = .ok (.invokestatic 28, 3) := okd_at mX8_cut_0 17 rfl
theorem dX8_cut_30 : decode cX8_cut 30 = .ok (.invokestatic 32, 3) := okd_at mX8_cut_0 18 rfl
theorem dX8_cut_33 : decode cX8_cut 33 = .ok (.ifCond .ne 20, 3) := okd_at mX8_cut_0 19 rfl
theorem dX8_cut_36 : decode cX8_cut 36 = .ok (.aload_n 0, 1) := okd_at mX8_cut_0 20 rfl
theorem dX8_cut_37 : decode cX8_cut 37 = .ok (.iload_n 2, 1) := okd_at mX8_cut_0 21 rfl
theorem dX8_cut_38 : decode cX8_cut 38 = .ok (.invokevirtual 36, 3) := okd_at mX8_cut_0 22 rfl
theorem dX8_cut_41 : decode cX8_cut 41 = .ok (.istore_n 1, 1) := okd_at mX8_cut_0 23 rfl
theorem dX8_cut_42 : decode cX8_cut 42 = .ok (.aload_n 0, 1) := okd_at mX8_cut_0 24 rfl
theorem dX8_cut_43 : decode cX8_cut 43 = .ok (.iload_n 2, 1) := okd_at mX8_cut_0 25 rfl
theorem dX8_cut_44 : decode cX8_cut 44 = .ok (.aload_n 0, 1) := okd_at mX8_cut_0 26 rfl
theorem dX8_cut_45 : decode cX8_cut 45 = .ok (.iload_n 2, 1) := okd_at mX8_cut_0 27 rfl
theorem dX8_cut_46 : decode cX8_cut 46 = .ok (.iload_n 1, 1) := okd_at mX8_cut_0 28 rfl
theorem dX8_cut_47 : decode cX8_cut 47 = .ok (.invokevirtual 40, 3) := okd_at mX8_cut_0 29 rfl
theorem dX8_cut_50 : decode cX8_cut 50 = .ok (.invokevirtual 44, 3) := okd_at mX8_cut_0 30 rfl
theorem dX8_cut_53 : decode cX8_cut 53 = .ok (.iinc 2 1, 3) := okd_at mX8_cut_0 31 rfl
theorem dX8_cut_56 : decode cX8_cut 56 = .ok (.goto (-47), 3) := okd_at mX8_cut_0 32 rfl
theorem dX8_cut_59 : decode cX8_cut 59 = .ok (.return_, 1) := okd_at mX8_cut_0 33 rfl
def lmX8_endOf_0 : List (Nat × Instr × Nat) := [(0, .aload_n 0, 1), (1, .getfield 9, 3), (4, .iload_n 1, 1), (5, .invokestatic 28, 3), (8, .invokestatic 52, 3), (11, .istore_n 2, 1), (12, .aload_n 0, 1), (13, .getfield 9, 3), (16, .iload_n 1, 1), (17, .invokestatic 28, 3), (20, .invokestatic 55, 3), (23, .istore_n 3, 1), (24, .iload_n 1, 1), (25, .iconst 1, 1), (26, .iadd, 1), (27, .istore 4, 2), (29, .iload 4, 2), (31, .istore 5, 2), (33, .iload 5, 2), (35, .aload_n 0, 1), (36, .getfield 21, 3), (39, .if_icmp .ge 53, 3), (42, .iload_n 2, 1), (43, .ifCond .eq 18, 3), (46, .aload_n 0, 1), (47, .getfield 9, 3), (50, .iload 5, 2), (52, .invokestatic 28, 3), (55, .invokestatic 52, 3), (58, .ifCond .ne 22, 3), (61, .iload_n 3, 1), (62, .ifCond .eq 30, 3), (65, .aload_n 0, 1), (66, .getfield 9, 3), (69, .iload 5, 2), (71, .invokestatic 28, 3), (74, .invokestatic 55, 3), (77, .ifCond .eq 15, 3), (80, .iload 5, 2), (82, .iconst 1, 1), (83, .iadd, 1), (84, .istore 4, 2), (86, .iinc 5 1, 3), (89, .goto (-56), 3), (92, .iload 4, 2), (94, .ireturn, 1)]
theorem mX8_endOf_0 : okd cX8_endOf lmX8_endOf_0 = true := by decide +kernel
theorem dX8_endOf_0 : decode cX8_endOf 0 = .ok (.aload_n 0, 1) := okd_at mX8_endOf_0 0 rfl
theorem dX8_endOf_1 : decode cX8_endOf 1 = .ok (.getfield 9, 3) := okd_at mX8_endOf_0 1 rfl
theorem dX8_endOf_4 : decode cX8_endOf 4 = .ok (.iload_n 1, 1) := okd_at mX8_endOf_0 2 rfl
theorem dX8_endOf_5 : decode cX8_endOf 5 = .ok (.invokestatic 28, 3) := okd_at mX8_endOf_0 3 rfl
theorem dX8_endOf_8 : decode cX8_endOf 8 = .ok (.invokestatic 52, 3) := okd_at mX8_endOf_0 4 rfl
theorem dX8_endOf_11 : decode cX8_endOf 11 = .ok (.istore_n 2, 1) := okd_at mX8_endOf_0 5 rfl
theorem dX8_endOf_12 : decode cX8_endOf 12 = .ok (.aload_n 0, 1) := okd_at mX8_endOf_0 6 rfl
theorem dX8_endOf_13 : decode cX8_endOf 13 = .ok (.getfield 9, 3) := okd_at mX8_endOf_0 7 rfl
theorem dX8_endOf_16 : decode cX8_endOf 16 = .ok (.iload_n 1, 1) := okd_at mX8_endOf_0 8 rfl
theorem dX8_endOf_17 : decode cX8_endOf 17 = .ok (.invokestatic 28, 3) := okd_at mX8_endOf_0 9 rfl
theorem dX8_endOf_20 : decode cX8_endOf 20 = .ok (.invokestatic 55, 3) := okd_at mX8_endOf_0 10 rfl
theorem dX8_endOf_23 : decode cX8_endOf 23 = .ok (.istore_n 3, 1) := okd_at mX8_endOf_0 11 rfl
theorem dX8_endOf_24 : decode cX8_endOf 24 = .ok (.iload_n 1, 1) := okd_at mX8_endOf_0 12 rfl
theorem dX8_endOf_25 : decode cX8_endOf 25 = .ok (.iconst 1, 1) := okd_at mX8_endOf_0 13 rfl
theorem dX8_endOf_26 : decode cX8_endOf 26 = .ok (.iadd, 1) := okd_at mX8_endOf_0 14 rfl
theorem dX8_endOf_27 : decode cX8_endOf 27 = .ok (.istore 4, 2) := okd_at mX8_endOf_0 15 rfl
theorem dX8_endOf_29 : decode cX8_endOf 29 = .ok (.iload 4, 2) := okd_at mX8_endOf_0 16 rfl
theorem dX8_endOf_31 : decode cX8_endOf 31 = .ok (.istore 5, 2) := okd_at mX8_endOf_0 17 rfl
theorem dX8_endOf_33 : decode cX8_endOf 33 = .ok (.iload 5, 2) := okd_at mX8_endOf_0 18 rfl
theorem dX8_endOf_35 : decode cX8_endOf 35 = .ok (.aload_n 0, 1) := okd_at mX8_endOf_0 19 rfl
theorem dX8_endOf_36 : decode cX8_endOf 36 = .ok (.getfield 21, 3) := okd_at mX8_endOf_0 20 rfl
theorem dX8_endOf_39 : decode cX8_endOf 39 = .ok (.if_icmp .ge 53, 3) := okd_at mX8_endOf_0 21 rfl
theorem dX8_endOf_42 : decode cX8_endOf 42 = .ok (.iload_n 2, 1) := okd_at mX8_endOf_0 22 rfl
theorem dX8_endOf_43 : decode cX8_endOf 43 = .ok (.ifCond .eq 18, 3) := okd_at mX8_endOf_0 23 rfl
theorem dX8_endOf_46 : decode cX8_endOf 46 = .ok (.aload_n 0, 1) := okd_at mX8_endOf_0 24 rfl
theorem dX8_endOf_47 : decode cX8_endOf 47 = .ok (.getfield 9, 3) := okd_at mX8_endOf_0 25 rfl
theorem dX8_endOf_50 : decode cX8_endOf 50 = .ok (.iload 5, 2) := okd_at mX8_endOf_0 26 rfl
theorem dX8_endOf_52 : decode cX8_endOf 52 = .ok (.invokestatic 28, 3) := okd_at mX8_endOf_0 27 rfl
theorem dX8_endOf_55 : decode cX8_endOf 55 = .ok (.invokestatic 52, 3) := okd_at mX8_endOf_0 28 rfl
theorem dX8_endOf_58 : decode cX8_endOf 58 = .ok (.ifCond .ne 22, 3) := okd_at mX8_endOf_0 29 rfl
theorem dX8_endOf_61 : decode cX8_endOf 61 = .ok (.iload_n 3, 1) := okd_at mX8_endOf_0 30 rfl
theorem dX8_endOf_62 : decode cX8_endOf 62 = .ok (.ifCond .eq 30, 3) := okd_at mX8_endOf_0 31 rfl
theorem dX8_endOf_65 : decode cX8_endOf 65 = .ok (.aload_n 0, 1) := okd_at mX8_endOf_0 32 rfl
theorem dX8_endOf_66 : decode cX8_endOf 66 = .ok (.getfield 9, 3) := okd_at mX8_endOf_0 33 rfl
theorem dX8_endOf_69 : decode cX8_endOf 69 = .ok (.iload 5, 2) := okd_at mX8_endOf_0 34 rfl
theorem dX8_endOf_71 : decode cX8_endOf 71 = .ok (.invokestatic 28, 3) := okd_at mX8_endOf_0 35 rfl
theorem dX8_endOf_74 : decode cX8_endOf 74 = .ok (.invokestatic 55, 3) := okd_at mX8_endOf_0 36 rfl
theorem dX8_endOf_77 : decode cX8_endOf 77 = .ok (.ifCond .eq 15, 3) := okd_at mX8_endOf_0 37 rfl
theorem dX8_endOf_80 : decode cX8_endOf 80 = .ok (.iload 5, 2) := okd_at mX8_endOf_0 38 rfl
theorem dX8_endOf_82 : decode cX8_endOf 82 = .ok (.iconst 1, 1) := okd_at mX8_endOf_0 39 rfl
theorem dX8_endOf_83 : decode cX8_endOf 83 = .ok (.iadd, 1) := okd_at mX8_endOf_0 40 rfl
theorem dX8_endOf_84 : decode cX8_endOf 84 = .ok (.istore 4, 2) := okd_at mX8_endOf_0 41 rfl
theorem dX8_endOf_86 : decode cX8_endOf 86 = .ok (.iinc 5 1, 3) := okd_at mX8_endOf_0 42 rfl
theorem dX8_endOf_89 : decode cX8_endOf 89 = .ok (.goto (-56), 3) := okd_at mX8_endOf_0 43 rfl
theorem dX8_endOf_92 : decode cX8_endOf 92 = .ok (.iload 4, 2) := okd_at mX8_endOf_0 44 rfl
theorem dX8_endOf_94 : decode cX8_endOf 94 = .ok (.ireturn, 1) := okd_at mX8_endOf_0 45 rfl
def lmX8_isBlank_0 : List (Nat × Instr × Nat) := [(0, .iload_n 0, 1), (1, .bipush 32, 2), (3, .if_icmp .eq 9, 3), (6, .iload_n 0, 1), (7, .bipush 10, 2), (9, .if_icmp .ne 7, 3), (12, .iconst 1, 1), (13, .goto 4, 3), (16, .iconst 0, 1), (17, .ireturn, 1)]
theorem mX8_isBlank_0 : okd cX8_isBlank lmX8_isBlank_0 = true := by decide +kernel
theorem dX8_isBlank_0 : decode cX8_isBlank 0 = .ok (.iload_n 0, 1) := okd_at mX8_isBlank_0 0 rfl
theorem dX8_isBlank_1 : decode cX8_isBlank 1 = .ok (.bipush 32, 2) := okd_at mX8_isBlank_0 1 rfl
theorem dX8_isBlank_3 : decode cX8_isBlank 3 = .ok (.if_icmp .eq 9, 3) := okd_at mX8_isBlank_0 2 rfl
theorem dX8_isBlank_6 : decode cX8_isBlank 6 = .ok (.iload_n 0, 1) := okd_at mX8_isBlank_0 3 rfl
theorem dX8_isBlank_7 : decode cX8_isBlank 7 = .ok (.bipush 10, 2) := okd_at mX8_isBlank_0 4 rfl
theorem dX8_isBlank_9 : decode cX8_isBlank 9 = .ok (.if_icmp .ne 7, 3) := okd_at mX8_isBlank_0 5 rfl
theorem dX8_isBlank_12 : decode cX8_isBlank 12 = .ok (.iconst 1, 1) := okd_at mX8_isBlank_0 6 rfl
theorem dX8_isBlank_13 : decode cX8_isBlank 13 = .ok (.goto 4, 3) := okd_at mX8_isBlank_0 7 rfl
theorem dX8_isBlank_16 : decode cX8_isBlank 16 = .ok (.iconst 0, 1) := okd_at mX8_isBlank_0 8 rfl
theorem dX8_isBlank_17 : decode cX8_isBlank 17 = .ok (.ireturn, 1) := okd_at mX8_isBlank_0 9 rfl
def lmX8_isDigit_0 : List (Nat × Instr × Nat) := [(0, .iload_n 0, 1), (1, .bipush 48, 2), (3, .if_icmp .lt 13, 3), (6, .iload_n 0, 1), (7, .bipush 57, 2), (9, .if_icmp .gt 7, 3), (12, .iconst 1, 1), (13, .goto 4, 3), (16, .iconst 0, 1), (17, .ireturn, 1)]
theorem mX8_isDigit_0 : okd cX8_isDigit lmX8_isDigit_0 = true := by decide +kernel
theorem dX8_isDigit_0 : decode cX8_isDigit 0 = .ok (.iload_n 0, 1) := okd_at mX8_isDigit_0 0 rfl
theorem dX8_isDigit_1 : decode cX8_isDigit 1 = .ok (.bipush 48, 2) := okd_at mX8_isDigit_0 1 rfl
theorem dX8_isDigit_3 : decode cX8_isDigit 3 = .ok (.if_icmp .lt 13, 3) := okd_at mX8_isDigit_0 2 rfl
theorem dX8_isDigit_6 : decode cX8_isDigit 6 = .ok (.iload_n 0, 1) := okd_at mX8_isDigit_0 3 rfl
theorem dX8_isDigit_7 : decode cX8_isDigit 7 = .ok (.bipush 57, 2) := okd_at mX8_isDigit_0 4 rfl
theorem dX8_isDigit_9 : decode cX8_isDigit 9 = .ok (.if_icmp .gt 7, 3) := okd_at mX8_isDigit_0 5 rfl
theorem dX8_isDigit_12 : decode cX8_isDigit 12 = .ok (.iconst 1, 1) := okd_at mX8_isDigit_0 6 rfl
theorem dX8_isDigit_13 : decode cX8_isDigit 13 = .ok (.goto 4, 3) := okd_at mX8_isDigit_0 7 rfl
theorem dX8_isDigit_16 : decode cX8_isDigit 16 = .ok (.iconst 0, 1) := okd_at mX8_isDigit_0 8 rfl
theorem dX8_isDigit_17 : decode cX8_isDigit 17 = .ok (.ireturn, 1) := okd_at mX8_isDigit_0 9 rfl
def lmX8_isLetter_0 : List (Nat × Instr × Nat) := [(0, .iload_n 0, 1), (1, .bipush 97, 2), (3, .if_icmp .lt 13, 3), (6, .iload_n 0, 1), (7, .bipush 122, 2), (9, .if_icmp .gt 7, 3), (12, .iconst 1, 1), (13, .goto 4, 3), (16, .iconst 0, 1), (17, .ireturn, 1)]
theorem mX8_isLetter_0 : okd cX8_isLetter lmX8_isLetter_0 = true := by decide +kernel
theorem dX8_isLetter_0 : decode cX8_isLetter 0 = .ok (.iload_n 0, 1) := okd_at mX8_isLetter_0 0 rfl
theorem dX8_isLetter_1 : decode cX8_isLetter 1 = .ok (.bipush 97, 2) := okd_at mX8_isLetter_0 1 rfl
theorem dX8_isLetter_3 : decode cX8_isLetter 3 = .ok (.if_icmp .lt 13, 3) := okd_at mX8_isLetter_0 2 rfl
theorem dX8_isLetter_6 : decode cX8_isLetter 6 = .ok (.iload_n 0, 1) := okd_at mX8_isLetter_0 3 rfl
theorem dX8_isLetter_7 : decode cX8_isLetter 7 = .ok (.bipush 122, 2) := okd_at mX8_isLetter_0 4 rfl
theorem dX8_isLetter_9 : decode cX8_isLetter 9 = .ok (.if_icmp .gt 7, 3) := okd_at mX8_isLetter_0 5 rfl
theorem dX8_isLetter_12 : decode cX8_isLetter 12 = .ok (.iconst 1, 1) := okd_at mX8_isLetter_0 6 rfl
theorem dX8_isLetter_13 : decode cX8_isLetter 13 = .ok (.goto 4, 3) := okd_at mX8_isLetter_0 7 rfl
theorem dX8_isLetter_16 : decode cX8_isLetter 16 = .ok (.iconst 0, 1) := okd_at mX8_isLetter_0 8 rfl
theorem dX8_isLetter_17 : decode cX8_isLetter 17 = .ok (.ireturn, 1) := okd_at mX8_isLetter_0 9 rfl
def lmX8_isSign_0 : List (Nat × Instr × Nat) := [(0, .iload_n 0, 1), (1, .bipush 40, 2), (3, .if_icmp .eq 45, 3), (6, .iload_n 0, 1), (7, .bipush 41, 2), (9, .if_icmp .eq 39, 3), (12, .iload_n 0, 1), (13, .bipush 59, 2), (15, .if_icmp .eq 33, 3), (18, .iload_n 0, 1), (19, .bipush 43, 2), (21, .if_icmp .eq 27, 3), (24, .iload_n 0, 1), (25, .bipush 45, 2), (27, .if_icmp .eq 21, 3), (30, .iload_n 0, 1), (31, .bipush 42, 2), (33, .if_icmp .eq 15, 3), (36, .iload_n 0, 1), (37, .bipush 60, 2), (39, .if_icmp .eq 9, 3), (42, .iload_n 0, 1), (43, .bipush 61, 2), (45, .if_icmp .ne 7, 3), (48, .iconst 1, 1), (49, .goto 4, 3), (52, .iconst 0, 1), (53, .ireturn, 1)]
theorem mX8_isSign_0 : okd cX8_isSign lmX8_isSign_0 = true := by decide +kernel
theorem dX8_isSign_0 : decode cX8_isSign 0 = .ok (.iload_n 0, 1) := okd_at mX8_isSign_0 0 rfl
theorem dX8_isSign_1 : decode cX8_isSign 1 = .ok (.bipush 40, 2) := okd_at mX8_isSign_0 1 rfl
theorem dX8_isSign_3 : decode cX8_isSign 3 = .ok (.if_icmp .eq 45, 3) := okd_at mX8_isSign_0 2 rfl
theorem dX8_isSign_6 : decode cX8_isSign 6 = .ok (.iload_n 0, 1) := okd_at mX8_isSign_0 3 rfl
theorem dX8_isSign_7 : decode cX8_isSign 7 = .ok (.bipush 41, 2) := okd_at mX8_isSign_0 4 rfl
theorem dX8_isSign_9 : decode cX8_isSign 9 = .ok (.if_icmp .eq 39, 3) := okd_at mX8_isSign_0 5 rfl
theorem dX8_isSign_12 : decode cX8_isSign 12 = .ok (.iload_n 0, 1) := okd_at mX8_isSign_0 6 rfl
theorem dX8_isSign_13 : decode cX8_isSign 13 = .ok (.bipush 59, 2) := okd_at mX8_isSign_0 7 rfl
theorem dX8_isSign_15 : decode cX8_isSign 15 = .ok (.if_icmp .eq 33, 3) := okd_at mX8_isSign_0 8 rfl
theorem dX8_isSign_18 : decode cX8_isSign 18 = .ok (.iload_n 0, 1) := okd_at mX8_isSign_0 9 rfl
theorem dX8_isSign_19 : decode cX8_isSign 19 = .ok (.bipush 43, 2) := okd_at mX8_isSign_0 10 rfl
theorem dX8_isSign_21 : decode cX8_isSign 21 = .ok (.if_icmp .eq 27, 3) := okd_at mX8_isSign_0 11 rfl
theorem dX8_isSign_24 : decode cX8_isSign 24 = .ok (.iload_n 0, 1) := okd_at mX8_isSign_0 12 rfl
theorem dX8_isSign_25 : decode cX8_isSign 25 = .ok (.bipush 45, 2) := okd_at mX8_isSign_0 13 rfl
theorem dX8_isSign_27 : decode cX8_isSign 27 = .ok (.if_icmp .eq 21, 3) := okd_at mX8_isSign_0 14 rfl
theorem dX8_isSign_30 : decode cX8_isSign 30 = .ok (.iload_n 0, 1) := okd_at mX8_isSign_0 15 rfl
theorem dX8_isSign_31 : decode cX8_isSign 31 = .ok (.bipush 42, 2) := okd_at mX8_isSign_0 16 rfl
theorem dX8_isSign_33 : decode cX8_isSign 33 = .ok (.if_icmp .eq 15, 3) := okd_at mX8_isSign_0 17 rfl
theorem dX8_isSign_36 : decode cX8_isSign 36 = .ok (.iload_n 0, 1) := okd_at mX8_isSign_0 18 rfl
theorem dX8_isSign_37 : decode cX8_isSign 37 = .ok (.bipush 60, 2) := okd_at mX8_isSign_0 19 rfl
theorem dX8_isSign_39 : decode cX8_isSign 39 = .ok (.if_icmp .eq 9, 3) := okd_at mX8_isSign_0 20 rfl
theorem dX8_isSign_42 : decode cX8_isSign 42 = .ok (.iload_n 0, 1) := okd_at mX8_isSign_0 21 rfl
theorem dX8_isSign_43 : decode cX8_isSign 43 = .ok (.bipush 61, 2) := okd_at mX8_isSign_0 22 rfl
theorem dX8_isSign_45 : decode cX8_isSign 45 = .ok (.if_icmp .ne 7, 3) := okd_at mX8_isSign_0 23 rfl
theorem dX8_isSign_48 : decode cX8_isSign 48 = .ok (.iconst 1, 1) := okd_at mX8_isSign_0 24 rfl
theorem dX8_isSign_49 : decode cX8_isSign 49 = .ok (.goto 4, 3) := okd_at mX8_isSign_0 25 rfl
theorem dX8_isSign_52 : decode cX8_isSign 52 = .ok (.iconst 0, 1) := okd_at mX8_isSign_0 26 rfl
theorem dX8_isSign_53 : decode cX8_isSign 53 = .ok (.ireturn, 1) := okd_at mX8_isSign_0 27 rfl
def lmX8_isWord_0 : List (Nat × Instr × Nat) := [(0, .aload_n 1, 1), (1, .invokevirtual 97, 3), (4, .iload_n 3, 1), (5, .iload_n 2, 1), (6, .isub, 1), (7, .if_icmp .eq 5, 3), (10, .iconst 0, 1), (11, .ireturn, 1), (12, .iconst 0, 1), (13, .istore 4, 2), (15, .iload 4, 2), (17, .aload_n 1, 1), (18, .invokevirtual 97, 3), (21, .if_icmp .ge 31, 3), (24, .aload_n 1, 1), (25, .iload 4, 2), (27, .invokevirtual 103, 3), (30, .aload_n 0, 1), (31, .getfield 9, 3), (34, .iload_n 2, 1), (35, .iload 4, 2), (37, .iadd, 1), (38, .invokestatic 28, 3), (41, .if_icmp .eq 5, 3), (44, .iconst 0, 1), (45, .ireturn, 1), (46, .iinc 4 1, 3), (49, .goto (-34), 3), (52, .iconst 1, 1), (53, .ireturn, 1)]
theorem mX8_isWord_0 : okd cX8_isWord lmX8_isWord_0 = true := by decide +kernel
theorem dX8_isWord_0 : decode cX8_isWord 0 = .ok (.aload_n 1, 1) := okd_at mX8_isWord_0 0 rfl
theorem dX8_isWord_1 : decode cX8_isWord 1 = .ok (.invokevirtual 97, 3) := okd_at mX8_isWord_0 1 rfl
theorem dX8_isWord_4 : decode cX8_isWord 4 = .ok (.iload_n 3, 1) := okd_at mX8_isWord_0 2 rfl
theorem dX8_isWord_5 : decode cX8_isWord 5 = .ok (.iload_n 2, 1) := okd_at mX8_isWord_0 3 rfl
theorem dX8_isWord_6 : decode cX8_isWord 6 = .ok (.isub, 1) := okd_at mX8_isWord_0 4 rfl
theorem dX8_isWord_7 : decode cX8_isWord 7 = .ok (.if_icmp .eq 5, 3) := okd_at mX8_isWord_0 5 rfl
theorem dX8_isWord_10 : decode cX8_isWord 10 = .ok (.iconst 0, 1) := okd_at mX8_isWord_0 6 rfl
theorem dX8_isWord_11 : decode cX8_isWord 11 = .ok (.ireturn, 1) := okd_at mX8_isWord_0 7 rfl
theorem dX8_isWord_12 : decode cX8_isWord 12 = .ok (.iconst 0, 1) := okd_at mX8_isWord_0 8 rfl
theorem dX8_isWord_13 : decode cX8_isWord 13 = .ok (.istore 4, 2) := okd_at mX8_isWord_0 9 rfl
theorem dX8_isWord_15 : decode cX8_isWord 15 = .ok (.iload 4, 2) := okd_at mX8_isWord_0 10 rfl
theorem dX8_isWord_17 : decode cX8_isWord 17 = .ok (.aload_n 1, 1) := okd_at mX8_isWord_0 11 rfl
theorem dX8_isWord_18 : decode cX8_isWord 18 = .ok (.invokevirtual 97, 3) := okd_at mX8_isWord_0 12 rfl
theorem dX8_isWord_21 : decode cX8_isWord 21 = .ok (.if_icmp .ge 31, 3) := okd_at mX8_isWord_0 13 rfl
theorem dX8_isWord_24 : decode cX8_isWord 24 = .ok (.aload_n 1, 1) := okd_at mX8_isWord_0 14 rfl
theorem dX8_isWord_25 : decode cX8_isWord 25 = .ok (.iload 4, 2) := okd_at mX8_isWord_0 15 rfl
theorem dX8_isWord_27 : decode cX8_isWord 27 = .ok (.invokevirtual 103, 3) := okd_at mX8_isWord_0 16 rfl
theorem dX8_isWord_30 : decode cX8_isWord 30 = .ok (.aload_n 0, 1) := okd_at mX8_isWord_0 17 rfl
theorem dX8_isWord_31 : decode cX8_isWord 31 = .ok (.getfield 9, 3) := okd_at mX8_isWord_0 18 rfl
theorem dX8_isWord_34 : decode cX8_isWord 34 = .ok (.iload_n 2, 1) := okd_at mX8_isWord_0 19 rfl
theorem dX8_isWord_35 : decode cX8_isWord 35 = .ok (.iload 4, 2) := okd_at mX8_isWord_0 20 rfl
theorem dX8_isWord_37 : decode cX8_isWord 37 = .ok (.iadd, 1) := okd_at mX8_isWord_0 21 rfl
theorem dX8_isWord_38 : decode cX8_isWord 38 = .ok (.invokestatic 28, 3) := okd_at mX8_isWord_0 22 rfl
theorem dX8_isWord_41 : decode cX8_isWord 41 = .ok (.if_icmp .eq 5, 3) := okd_at mX8_isWord_0 23 rfl
theorem dX8_isWord_44 : decode cX8_isWord 44 = .ok (.iconst 0, 1) := okd_at mX8_isWord_0 24 rfl
theorem dX8_isWord_45 : decode cX8_isWord 45 = .ok (.ireturn, 1) := okd_at mX8_isWord_0 25 rfl
theorem dX8_isWord_46 : decode cX8_isWord 46 = .ok (.iinc 4 1, 3) := okd_at mX8_isWord_0 26 rfl
theorem dX8_isWord_49 : decode cX8_isWord 49 = .ok (.goto (-34), 3) := okd_at mX8_isWord_0 27 rfl
theorem dX8_isWord_52 : decode cX8_isWord 52 = .ok (.iconst 1, 1) := okd_at mX8_isWord_0 28 rfl
theorem dX8_isWord_53 : decode cX8_isWord 53 = .ok (.ireturn, 1) := okd_at mX8_isWord_0 29 rfl
def lmX8_keep_0 : List (Nat × Instr × Nat) := [(0, .aload_n 0, 1), (1, .getfield 18, 3), (4, .aload_n 0, 1), (5, .getfield 25, 3), (8, .iload_n 1, 1), (9, .invokestatic 48, 3), (12, .aload_n 0, 1), (13, .getfield 15, 3), (16, .aload_n 0, 1), (17, .getfield 25, 3), (20, .iload_n 2, 1), (21, .invokestatic 48, 3), (24, .aload_n 0, 1), (25, .dup, 1), (26, .getfield 25, 3), (29, .iconst 1, 1), (30, .iadd, 1), (31, .putfield 25, 3), (34, .return_, 1)]
theorem mX8_keep_0 : okd cX8_keep lmX8_keep_0 = true := by decide +kernel
theorem dX8_keep_0 : decode cX8_keep 0 = .ok (.aload_n 0, 1) := okd_at mX8_keep_0 0 rfl
theorem dX8_keep_1 : decode cX8_keep 1 = .ok (.getfield 18, 3) := okd_at mX8_keep_0 1 rfl
theorem dX8_keep_4 : decode cX8_keep 4 = .ok (.aload_n 0, 1) := okd_at mX8_keep_0 2 rfl
theorem dX8_keep_5 : decode cX8_keep 5 = .ok (.getfield 25, 3) := okd_at mX8_keep_0 3 rfl
theorem dX8_keep_8 : decode cX8_keep 8 = .ok (.iload_n 1, 1) := okd_at mX8_keep_0 4 rfl
theorem dX8_keep_9 : decode cX8_keep 9 = .ok (.invokestatic 48, 3) := okd_at mX8_keep_0 5 rfl
theorem dX8_keep_12 : decode cX8_keep 12 = .ok (.aload_n 0, 1) := okd_at mX8_keep_0 6 rfl
theorem dX8_keep_13 : decode cX8_keep 13 = .ok (.getfield 15, 3) := okd_at mX8_keep_0 7 rfl
theorem dX8_keep_16 : decode cX8_keep 16 = .ok (.aload_n 0, 1) := okd_at mX8_keep_0 8 rfl
theorem dX8_keep_17 : decode cX8_keep 17 = .ok (.getfield 25, 3) := okd_at mX8_keep_0 9 rfl
theorem dX8_keep_20 : decode cX8_keep 20 = .ok (.iload_n 2, 1) := okd_at mX8_keep_0 10 rfl
theorem dX8_keep_21 : decode cX8_keep 21 = .ok (.invokestatic 48, 3) := okd_at mX8_keep_0 11 rfl
theorem dX8_keep_24 : decode cX8_keep 24 = .ok (.aload_n 0, 1) := okd_at mX8_keep_0 12 rfl
theorem dX8_keep_25 : decode cX8_keep 25 = .ok (.dup, 1) := okd_at mX8_keep_0 13 rfl
theorem dX8_keep_26 : decode cX8_keep 26 = .ok (.getfield 25, 3) := okd_at mX8_keep_0 14 rfl
theorem dX8_keep_29 : decode cX8_keep 29 = .ok (.iconst 1, 1) := okd_at mX8_keep_0 15 rfl
theorem dX8_keep_30 : decode cX8_keep 30 = .ok (.iadd, 1) := okd_at mX8_keep_0 16 rfl
theorem dX8_keep_31 : decode cX8_keep 31 = .ok (.putfield 25, 3) := okd_at mX8_keep_0 17 rfl
theorem dX8_keep_34 : decode cX8_keep 34 = .ok (.return_, 1) := okd_at mX8_keep_0 18 rfl
def lmX8_number_0 : List (Nat × Instr × Nat) := [(0, .iconst 0, 1), (1, .istore_n 3, 1), (2, .iload_n 1, 1), (3, .istore 4, 2), (5, .iload 4, 2), (7, .iload_n 2, 1), (8, .if_icmp .ge 27, 3), (11, .iload_n 3, 1), (12, .bipush 10, 2), (14, .imul, 1), (15, .aload_n 0, 1), (16, .getfield 9, 3), (19, .iload 4, 2), (21, .invokestatic 28, 3), (24, .iadd, 1), (25, .bipush 48, 2), (27, .isub, 1), (28, .istore_n 3, 1), (29, .iinc 4 1, 3), (32, .goto (-27), 3), (35, .iload_n 3, 1), (36, .ireturn, 1)]
theorem mX8_number_0 : okd cX8_number lmX8_number_0 = true := by decide +kernel
theorem dX8_number_0 : decode cX8_number 0 = .ok (.iconst 0, 1) := okd_at mX8_number_0 0 rfl
theorem dX8_number_1 : decode cX8_number 1 = .ok (.istore_n 3, 1) := okd_at mX8_number_0 1 rfl
theorem dX8_number_2 : decode cX8_number 2 = .ok (.iload_n 1, 1) := okd_at mX8_number_0 2 rfl
theorem dX8_number_3 : decode cX8_number 3 = .ok (.istore 4, 2) := okd_at mX8_number_0 3 rfl
theorem dX8_number_5 : decode cX8_number 5 = .ok (.iload 4, 2) := okd_at mX8_number_0 4 rfl
theorem dX8_number_7 : decode cX8_number 7 = .ok (.iload_n 2, 1) := okd_at mX8_number_0 5 rfl
theorem dX8_number_8 : decode cX8_number 8 = .ok (.if_icmp .ge 27, 3) := okd_at mX8_number_0 6 rfl
theorem dX8_number_11 : decode cX8_number 11 = .ok (.iload_n 3, 1) := okd_at mX8_number_0 7 rfl
theorem dX8_number_12 : decode cX8_number 12 = .ok (.bipush 10, 2) := okd_at mX8_number_0 8 rfl
theorem dX8_number_14 : decode cX8_number 14 = .ok (.imul, 1) := okd_at mX8_number_0 9 rfl
theorem dX8_number_15 : decode cX8_number 15 = .ok (.aload_n 0, 1) := okd_at mX8_number_0 10 rfl
theorem dX8_number_16 : decode cX8_number 16 = .ok (.getfield 9, 3) := okd_at mX8_number_0 11 rfl
theorem dX8_number_19 : decode cX8_number 19 = .ok (.iload 4, 2) := okd_at mX8_number_0 12 rfl
theorem dX8_number_21 : decode cX8_number 21 = .ok (.invokestatic 28, 3) := okd_at mX8_number_0 13 rfl
theorem dX8_number_24 : decode cX8_number 24 = .ok (.iadd, 1) := okd_at mX8_number_0 14 rfl
theorem dX8_number_25 : decode cX8_number 25 = .ok (.bipush 48, 2) := okd_at mX8_number_0 15 rfl
theorem dX8_number_27 : decode cX8_number 27 = .ok (.isub, 1) := okd_at mX8_number_0 16 rfl
theorem dX8_number_28 : decode cX8_number 28 = .ok (.istore_n 3, 1) := okd_at mX8_number_0 17 rfl
theorem dX8_number_29 : decode cX8_number 29 = .ok (.iinc 4 1, 3) := okd_at mX8_number_0 18 rfl
theorem dX8_number_32 : decode cX8_number 32 = .ok (.goto (-27), 3) := okd_at mX8_number_0 19 rfl
theorem dX8_number_35 : decode cX8_number 35 = .ok (.iload_n 3, 1) := okd_at mX8_number_0 20 rfl
theorem dX8_number_36 : decode cX8_number 36 = .ok (.ireturn, 1) := okd_at mX8_number_0 21 rfl
def lmX8_place_0 : List (Nat × Instr × Nat) := [(0, .iload_n 1, 1), (1, .ifCond .lt 29, 3), (4, .iload_n 1, 1), (5, .aload_n 0, 1), (6, .getfield 25, 3), (9, .if_icmp .ge 21, 3), (12, .iload_n 1, 1), (13, .aload_n 0, 1), (14, .getfield 18, 3), (17, .arraylength, 1), (18, .if_icmp .ge 12, 3), (21, .aload_n 0, 1), (22, .getfield 18, 3), (25, .iload_n 1, 1), (26, .iaload, 1), (27, .goto 7, 3), (30, .aload_n 0, 1), (31, .getfield 21, 3), (34, .ireturn, 1)]
theorem mX8_place_0 : okd cX8_place lmX8_place_0 = true := by decide +kernel
theorem dX8_place_0 : decode cX8_place 0 = .ok (.iload_n 1, 1) := okd_at mX8_place_0 0 rfl
theorem dX8_place_1 : decode cX8_place 1 = .ok (.ifCond .lt 29, 3) := okd_at mX8_place_0 1 rfl
theorem dX8_place_4 : decode cX8_place 4 = .ok (.iload_n 1, 1) := okd_at mX8_place_0 2 rfl
theorem dX8_place_5 : decode cX8_place 5 = .ok (.aload_n 0, 1) := okd_at mX8_place_0 3 rfl
theorem dX8_place_6 : decode cX8_place 6 = .ok (.getfield 25, 3) := okd_at mX8_place_0 4 rfl
theorem dX8_place_9 : decode cX8_place 9 = .ok (.if_icmp .ge 21, 3) := okd_at mX8_place_0 5 rfl
theorem dX8_place_12 : decode cX8_place 12 = .ok (.iload_n 1, 1) := okd_at mX8_place_0 6 rfl
theorem dX8_place_13 : decode cX8_place 13 = .ok (.aload_n 0, 1) := okd_at mX8_place_0 7 rfl
theorem dX8_place_14 : decode cX8_place 14 = .ok (.getfield 18, 3) := okd_at mX8_place_0 8 rfl
theorem dX8_place_17 : decode cX8_place 17 = .ok (.arraylength, 1) := okd_at mX8_place_0 9 rfl
theorem dX8_place_18 : decode cX8_place 18 = .ok (.if_icmp .ge 12, 3) := okd_at mX8_place_0 10 rfl
theorem dX8_place_21 : decode cX8_place 21 = .ok (.aload_n 0, 1) := okd_at mX8_place_0 11 rfl
theorem dX8_place_22 : decode cX8_place 22 = .ok (.getfield 18, 3) := okd_at mX8_place_0 12 rfl
theorem dX8_place_25 : decode cX8_place 25 = .ok (.iload_n 1, 1) := okd_at mX8_place_0 13 rfl
theorem dX8_place_26 : decode cX8_place 26 = .ok (.iaload, 1) := okd_at mX8_place_0 14 rfl
theorem dX8_place_27 : decode cX8_place 27 = .ok (.goto 7, 3) := okd_at mX8_place_0 15 rfl
theorem dX8_place_30 : decode cX8_place 30 = .ok (.aload_n 0, 1) := okd_at mX8_place_0 16 rfl
theorem dX8_place_31 : decode cX8_place 31 = .ok (.getfield 21, 3) := okd_at mX8_place_0 17 rfl
theorem dX8_place_34 : decode cX8_place 34 = .ok (.ireturn, 1) := okd_at mX8_place_0 18 rfl
def lmX8_token_0 : List (Nat × Instr × Nat) := [(0, .iload_n 1, 1), (1, .ifCond .lt 29, 3), (4, .iload_n 1, 1), (5, .aload_n 0, 1), (6, .getfield 25, 3), (9, .if_icmp .ge 21, 3), (12, .iload_n 1, 1), (13, .aload_n 0, 1), (14, .getfield 15, 3), (17, .arraylength, 1), (18, .if_icmp .ge 12, 3), (21, .aload_n 0, 1), (22, .getfield 15, 3), (25, .iload_n 1, 1), (26, .iaload, 1), (27, .goto 4, 3), (30, .iconst 1, 1), (31, .ireturn, 1)]
theorem mX8_token_0 : okd cX8_token lmX8_token_0 = true := by decide +kernel
theorem dX8_token_0 : decode cX8_token 0 = .ok (.iload_n 1, 1) := okd_at mX8_token_0 0 rfl
theorem dX8_token_1 : decode cX8_token 1 = .ok (.ifCond .lt 29, 3) := okd_at mX8_token_0 1 rfl
theorem dX8_token_4 : decode cX8_token 4 = .ok (.iload_n 1, 1) := okd_at mX8_token_0 2 rfl
theorem dX8_token_5 : decode cX8_token 5 = .ok (.aload_n 0, 1) := okd_at mX8_token_0 3 rfl
theorem dX8_token_6 : decode cX8_token 6 = .ok (.getfield 25, 3) := okd_at mX8_token_0 4 rfl
theorem dX8_token_9 : decode cX8_token 9 = .ok (.if_icmp .ge 21, 3) := okd_at mX8_token_0 5 rfl
theorem dX8_token_12 : decode cX8_token 12 = .ok (.iload_n 1, 1) := okd_at mX8_token_0 6 rfl
theorem dX8_token_13 : decode cX8_token 13 = .ok (.aload_n 0, 1) := okd_at mX8_token_0 7 rfl
theorem dX8_token_14 : decode cX8_token 14 = .ok (.getfield 15, 3) := okd_at mX8_token_0 8 rfl
theorem dX8_token_17 : decode cX8_token 17 = .ok (.arraylength, 1) := okd_at mX8_token_0 9 rfl
theorem dX8_token_18 : decode cX8_token 18 = .ok (.if_icmp .ge 12, 3) := okd_at mX8_token_0 10 rfl
theorem dX8_token_21 : decode cX8_token 21 = .ok (.aload_n 0, 1) := okd_at mX8_token_0 11 rfl
theorem dX8_token_22 : decode cX8_token 22 = .ok (.getfield 15, 3) := okd_at mX8_token_0 12 rfl
theorem dX8_token_25 : decode cX8_token 25 = .ok (.iload_n 1, 1) := okd_at mX8_token_0 13 rfl
theorem dX8_token_26 : decode cX8_token 26 = .ok (.iaload, 1) := okd_at mX8_token_0 14 rfl
theorem dX8_token_27 : decode cX8_token 27 = .ok (.goto 4, 3) := okd_at mX8_token_0 15 rfl
theorem dX8_token_30 : decode cX8_token 30 = .ok (.iconst 1, 1) := okd_at mX8_token_0 16 rfl
theorem dX8_token_31 : decode cX8_token 31 = .ok (.ireturn, 1) := okd_at mX8_token_0 17 rfl
def lmX8_tokenOf_0 : List (Nat × Instr × Nat) := [(0, .aload_n 0, 1), (1, .getfield 9, 3), (4, .iload_n 1, 1), (5, .invokestatic 28, 3), (8, .istore_n 3, 1), (9, .iload_n 3, 1), (10, .invokestatic 52, 3), (13, .ifCond .eq 10, 3), (16, .aload_n 0, 1), (17, .iload_n 1, 1), (18, .iload_n 2, 1), (19, .invokevirtual 58, 3), (22, .ireturn, 1), (23, .iload_n 3, 1), (24, .invokestatic 55, 3), (27, .ifCond .eq 25, 3), (30, .iload_n 2, 1), (31, .iload_n 1, 1), (32, .isub, 1), (33, .iconst 4, 1), (34, .if_icmp .le 7, 3), (37, .iconst 0, 1), (38, .goto 13, 3), (41, .sipush 512, 3), (44, .aload_n 0, 1), (45, .iload_n 1, 1), (46, .iload_n 2, 1), (47, .invokevirtual 61, 3), (50, .iadd, 1), (51, .ireturn, 1), (52, .iload_n 3, 1), (53, .invokestatic 64, 3), (56, .ifCond .eq 7, 3), (59, .iload_n 3, 1), (60, .goto 4, 3), (63, .iconst 0, 1), (64, .ireturn, 1)]
theorem mX8_tokenOf_0 : okd cX8_tokenOf lmX8_tokenOf_0 = true := by decide +kernel
theorem dX8_tokenOf_0 : decode cX8_tokenOf 0 = .ok (.aload_n 0, 1) := okd_at mX8_tokenOf_0 0 rfl
theorem dX8_tokenOf_1 : decode cX8_tokenOf 1 = .ok (.getfield 9, 3) := okd_at mX8_tokenOf_0 1 rfl
theorem dX8_tokenOf_4 : decode cX8_tokenOf 4 = .ok (.iload_n 1, 1) := okd_at mX8_tokenOf_0 2 rfl
theorem dX8_tokenOf_5 : decode cX8_tokenOf 5 = .ok (.invokestatic 28, 3) := okd_at mX8_tokenOf_0 3 rfl
theorem dX8_tokenOf_8 : decode cX8_tokenOf 8 = .ok (.istore_n 3, 1) := okd_at mX8_tokenOf_0 4 rfl
theorem dX8_tokenOf_9 : decode cX8_tokenOf 9 = .ok (.iload_n 3, 1) := okd_at mX8_tokenOf_0 5 rfl
theorem dX8_tokenOf_10 : decode cX8_tokenOf 10 = .ok (.invokestatic 52, 3) := okd_at mX8_tokenOf_0 6 rfl
theorem dX8_tokenOf_13 : decode cX8_tokenOf 13 = .ok (.ifCond .eq 10, 3) := okd_at mX8_tokenOf_0 7 rfl
theorem dX8_tokenOf_16 : decode cX8_tokenOf 16 = .ok (.aload_n 0, 1) := okd_at mX8_tokenOf_0 8 rfl
theorem dX8_tokenOf_17 : decode cX8_tokenOf 17 = .ok (.iload_n 1, 1) := okd_at mX8_tokenOf_0 9 rfl
theorem dX8_tokenOf_18 : decode cX8_tokenOf 18 = .ok (.iload_n 2, 1) := okd_at mX8_tokenOf_0 10 rfl
theorem dX8_tokenOf_19 : decode cX8_tokenOf 19 = .ok (.invokevirtual 58, 3) := okd_at mX8_tokenOf_0 11 rfl
theorem dX8_tokenOf_22 : decode cX8_tokenOf 22 = .ok (.ireturn, 1) := okd_at mX8_tokenOf_0 12 rfl
theorem dX8_tokenOf_23 : decode cX8_tokenOf 23 = .ok (.iload_n 3, 1) := okd_at mX8_tokenOf_0 13 rfl
theorem dX8_tokenOf_24 : decode cX8_tokenOf 24 = .ok (.invokestatic 55, 3) := okd_at mX8_tokenOf_0 14 rfl
theorem dX8_tokenOf_27 : decode cX8_tokenOf 27 = .ok (.ifCond .eq 25, 3) := okd_at mX8_tokenOf_0 15 rfl
theorem dX8_tokenOf_30 : decode cX8_tokenOf 30 = .ok (.iload_n 2, 1) := okd_at mX8_tokenOf_0 16 rfl
theorem dX8_tokenOf_31 : decode cX8_tokenOf 31 = .ok (.iload_n 1, 1) := okd_at mX8_tokenOf_0 17 rfl
theorem dX8_tokenOf_32 : decode cX8_tokenOf 32 = .ok (.isub, 1) := okd_at mX8_tokenOf_0 18 rfl
theorem dX8_tokenOf_33 : decode cX8_tokenOf 33 = .ok (.iconst 4, 1) := okd_at mX8_tokenOf_0 19 rfl
theorem dX8_tokenOf_34 : decode cX8_tokenOf 34 = .ok (.if_icmp .le 7, 3) := okd_at mX8_tokenOf_0 20 rfl
theorem dX8_tokenOf_37 : decode cX8_tokenOf 37 = .ok (.iconst 0, 1) := okd_at mX8_tokenOf_0 21 rfl
theorem dX8_tokenOf_38 : decode cX8_tokenOf 38 = .ok (.goto 13, 3) := okd_at mX8_tokenOf_0 22 rfl
theorem dX8_tokenOf_41 : decode cX8_tokenOf 41 = .ok (.sipush 512, 3) := okd_at mX8_tokenOf_0 23 rfl
theorem dX8_tokenOf_44 : decode cX8_tokenOf 44 = .ok (.aload_n 0, 1) := okd_at mX8_tokenOf_0 24 rfl
theorem dX8_tokenOf_45 : decode cX8_tokenOf 45 = .ok (.iload_n 1, 1) := okd_at mX8_tokenOf_0 25 rfl
theorem dX8_tokenOf_46 : decode cX8_tokenOf 46 = .ok (.iload_n 2, 1) := okd_at mX8_tokenOf_0 26 rfl
theorem dX8_tokenOf_47 : decode cX8_tokenOf 47 = .ok (.invokevirtual 61, 3) := okd_at mX8_tokenOf_0 27 rfl
theorem dX8_tokenOf_50 : decode cX8_tokenOf 50 = .ok (.iadd, 1) := okd_at mX8_tokenOf_0 28 rfl
theorem dX8_tokenOf_51 : decode cX8_tokenOf 51 = .ok (.ireturn, 1) := okd_at mX8_tokenOf_0 29 rfl
theorem dX8_tokenOf_52 : decode cX8_tokenOf 52 = .ok (.iload_n 3, 1) := okd_at mX8_tokenOf_0 30 rfl
theorem dX8_tokenOf_53 : decode cX8_tokenOf 53 = .ok (.invokestatic 64, 3) := okd_at mX8_tokenOf_0 31 rfl
theorem dX8_tokenOf_56 : decode cX8_tokenOf 56 = .ok (.ifCond .eq 7, 3) := okd_at mX8_tokenOf_0 32 rfl
theorem dX8_tokenOf_59 : decode cX8_tokenOf 59 = .ok (.iload_n 3, 1) := okd_at mX8_tokenOf_0 33 rfl
theorem dX8_tokenOf_60 : decode cX8_tokenOf 60 = .ok (.goto 4, 3) := okd_at mX8_tokenOf_0 34 rfl
theorem dX8_tokenOf_63 : decode cX8_tokenOf 63 = .ok (.iconst 0, 1) := okd_at mX8_tokenOf_0 35 rfl
theorem dX8_tokenOf_64 : decode cX8_tokenOf 64 = .ok (.ireturn, 1) := okd_at mX8_tokenOf_0 36 rfl
def lmX8_word_0 : List (Nat × Instr × Nat) := [(0, .aload_n 0, 1), (1, .ldc 67, 2), (3, .iload_n 1, 1), (4, .iload_n 2, 1), (5, .invokevirtual 69, 3), (8, .ifCond .eq 7, 3), (11, .iconst 2, 1), (12, .goto 183, 3), (15, .aload_n 0, 1), (16, .ldc 73, 2), (18, .iload_n 1, 1), (19, .iload_n 2, 1), (20, .invokevirtual 69, 3), (23, .ifCond .eq 7, 3), (26, .iconst 3, 1), (27, .goto 168, 3), (30, .aload_n 0, 1), (31, .ldc 75, 2), (33, .iload_n 1, 1), (34, .iload_n 2, 1), (35, .invokevirtual 69, 3), (38, .ifCond .eq 7, 3), (41, .iconst 4, 1), (42, .goto 153, 3), (45, .aload_n 0, 1), (46, .ldc 77, 2), (48, .iload_n 1, 1), (49, .iload_n 2, 1), (50, .invokevirtual 69, 3), (53, .ifCond .eq 7, 3), (56, .iconst 5, 1), (57, .goto 138, 3), (60, .aload_n 0, 1), (61, .ldc 79, 2), (63, .iload_n 1, 1), (64, .iload_n 2, 1), (65, .invokevirtual 69, 3), (68, .ifCond .eq 8, 3), (71, .bipush 6, 2), (73, .goto 122, 3), (76, .aload_n 0, 1), (77, .ldc 81, 2), (79, .iload_n 1, 1), (80, .iload_n 2, 1), (81, .invokevirtual 69, 3), (84, .ifCond .eq 8, 3), (87, .bipush 7, 2), (89, .goto 106, 3), (92, .aload_n 0, 1), (93, .ldc 83, 2), (95, .iload_n 1, 1), (96, .iload_n 2, 1), (97, .invokevirtual 69, 3), (100, .ifCond .eq 9, 3), (103, .sipush 256, 3), (106, .goto 89, 3), (109, .aload_n 0, 1), (110, .ldc 87, 2), (112, .iload_n 1, 1), (113, .iload_n 2, 1)]
theorem mX8_word_0 : okd cX8_word lmX8_word_0 = true := by decide +kernel
theorem dX8_word_0 : decode cX8_word 0 = .ok (.aload_n 0, 1) := okd_at mX8_word_0 0 rfl
theorem dX8_word_1 : decode cX8_word 1 = .ok (.ldc 67, 2) := okd_at mX8_word_0 1 rfl
theorem dX8_word_3 : decode cX8_word 3 = .ok (.iload_n 1, 1) := okd_at mX8_word_0 2 rfl
theorem dX8_word_4 : decode cX8_word 4 = .ok (.iload_n 2, 1) := okd_at mX8_word_0 3 rfl
theorem dX8_word_5 : decode cX8_word 5 = .ok (.invokevirtual 69, 3) := okd_at mX8_word_0 4 rfl
theorem dX8_word_8 : decode cX8_word 8 = .ok (.ifCond .eq 7, 3) := okd_at mX8_word_0 5 rfl
theorem dX8_word_11 : decode cX8_word 11 = .ok (.iconst 2, 1) := okd_at mX8_word_0 6 rfl
theorem dX8_word_12 : decode cX8_word 12 = .ok (.goto 183, 3) := okd_at mX8_word_0 7 rfl
theorem dX8_word_15 : decode cX8_word 15 = .ok (.aload_n 0, 1) := okd_at mX8_word_0 8 rfl
theorem dX8_word_16 : decode cX8_word 16 = .ok (.ldc 73, 2) := okd_at mX8_word_0 9 rfl
theorem dX8_word_18 : decode cX8_word 18 = .ok (.iload_n 1, 1) := okd_at mX8_word_0 10 rfl
theorem dX8_word_19 : decode cX8_word 19 = .ok (.iload_n 2, 1) := okd_at mX8_word_0 11 rfl
theorem dX8_word_20 : decode cX8_word 20 = .ok (.invokevirtual 69, 3) := okd_at mX8_word_0 12 rfl
theorem dX8_word_23 : decode cX8_word 23 = .ok (.ifCond .eq 7, 3) := okd_at mX8_word_0 13 rfl
theorem dX8_word_26 : decode cX8_word 26 = .ok (.iconst 3, 1) := okd_at mX8_word_0 14 rfl
theorem dX8_word_27 : decode cX8_word 27 = .ok (.goto 168, 3) := okd_at mX8_word_0 15 rfl
theorem dX8_word_30 : decode cX8_word 30 = .ok (.aload_n 0, 1) := okd_at mX8_word_0 16 rfl
theorem dX8_word_31 : decode cX8_word 31 = .ok (.ldc 75, 2) := okd_at mX8_word_0 17 rfl
theorem dX8_word_33 : decode cX8_word 33 = .ok (.iload_n 1, 1) := okd_at mX8_word_0 18 rfl
theorem dX8_word_34 : decode cX8_word 34 = .ok (.iload_n 2, 1) := okd_at mX8_word_0 19 rfl
theorem dX8_word_35 : decode cX8_word 35 = .ok (.invokevirtual 69, 3) := okd_at mX8_word_0 20 rfl
theorem dX8_word_38 : decode cX8_word 38 = .ok (.ifCond .eq 7, 3) := okd_at mX8_word_0 21 rfl
theorem dX8_word_41 : decode cX8_word 41 = .ok (.iconst 4, 1) := okd_at mX8_word_0 22 rfl
theorem dX8_word_42 : decode cX8_word 42 = .ok (.goto 153, 3) := okd_at mX8_word_0 23 rfl
theorem dX8_word_45 : decode cX8_word 45 = .ok (.aload_n 0, 1) := okd_at mX8_word_0 24 rfl
theorem dX8_word_46 : decode cX8_word 46 = .ok (.ldc 77, 2) := okd_at mX8_word_0 25 rfl
theorem dX8_word_48 : decode cX8_word 48 = .ok (.iload_n 1, 1) := okd_at mX8_word_0 26 rfl
theorem dX8_word_49 : decode cX8_word 49 = .ok (.iload_n 2, 1) := okd_at mX8_word_0 27 rfl
theorem dX8_word_50 : decode cX8_word 50 = .ok (.invokevirtual 69, 3) := okd_at mX8_word_0 28 rfl
theorem dX8_word_53 : decode cX8_word 53 = .ok (.ifCond .eq 7, 3) := okd_at mX8_word_0 29 rfl
theorem dX8_word_56 : decode cX8_word 56 = .ok (.iconst 5, 1) := okd_at mX8_word_0 30 rfl
theorem dX8_word_57 : decode cX8_word 57 = .ok (.goto 138, 3) := okd_at mX8_word_0 31 rfl
theorem dX8_word_60 : decode cX8_word 60 = .ok (.aload_n 0, 1) := okd_at mX8_word_0 32 rfl
theorem dX8_word_61 : decode cX8_word 61 = .ok (.ldc 79, 2) := okd_at mX8_word_0 33 rfl
theorem dX8_word_63 : decode cX8_word 63 = .ok (.iload_n 1, 1) := okd_at mX8_word_0 34 rfl
theorem dX8_word_64 : decode cX8_word 64 = .ok (.iload_n 2, 1) := okd_at mX8_word_0 35 rfl
theorem dX8_word_65 : decode cX8_word 65 = .ok (.invokevirtual 69, 3) := okd_at mX8_word_0 36 rfl
theorem dX8_word_68 : decode cX8_word 68 = .ok (.ifCond .eq 8, 3) := okd_at mX8_word_0 37 rfl
theorem dX8_word_71 : decode cX8_word 71 = .ok (.bipush 6, 2) := okd_at mX8_word_0 38 rfl
theorem dX8_word_73 : decode cX8_word 73 = .ok (.goto 122, 3) := okd_at mX8_word_0 39 rfl
theorem dX8_word_76 : decode cX8_word 76 = .ok (.aload_n 0, 1) := okd_at mX8_word_0 40 rfl
theorem dX8_word_77 : decode cX8_word 77 = .ok (.ldc 81, 2) := okd_at mX8_word_0 41 rfl
theorem dX8_word_79 : decode cX8_word 79 = .ok (.iload_n 1, 1) := okd_at mX8_word_0 42 rfl
theorem dX8_word_80 : decode cX8_word 80 = .ok (.iload_n 2, 1) := okd_at mX8_word_0 43 rfl
theorem dX8_word_81 : decode cX8_word 81 = .ok (.invokevirtual 69, 3) := okd_at mX8_word_0 44 rfl
theorem dX8_word_84 : decode cX8_word 84 = .ok (.ifCond .eq 8, 3) := okd_at mX8_word_0 45 rfl
theorem dX8_word_87 : decode cX8_word 87 = .ok (.bipush 7, 2) := okd_at mX8_word_0 46 rfl
theorem dX8_word_89 : decode cX8_word 89 = .ok (.goto 106, 3) := okd_at mX8_word_0 47 rfl
theorem dX8_word_92 : decode cX8_word 92 = .ok (.aload_n 0, 1) := okd_at mX8_word_0 48 rfl
theorem dX8_word_93 : decode cX8_word 93 = .ok (.ldc 83, 2) := okd_at mX8_word_0 49 rfl
theorem dX8_word_95 : decode cX8_word 95 = .ok (.iload_n 1, 1) := okd_at mX8_word_0 50 rfl
theorem dX8_word_96 : decode cX8_word 96 = .ok (.iload_n 2, 1) := okd_at mX8_word_0 51 rfl
theorem dX8_word_97 : decode cX8_word 97 = .ok (.invokevirtual 69, 3) := okd_at mX8_word_0 52 rfl
theorem dX8_word_100 : decode cX8_word 100 = .ok (.ifCond .eq 9, 3) := okd_at mX8_word_0 53 rfl
theorem dX8_word_103 : decode cX8_word 103 = .ok (.sipush 256, 3) := okd_at mX8_word_0 54 rfl
theorem dX8_word_106 : decode cX8_word 106 = .ok (.goto 89, 3) := okd_at mX8_word_0 55 rfl
theorem dX8_word_109 : decode cX8_word 109 = .ok (.aload_n 0, 1) := okd_at mX8_word_0 56 rfl
theorem dX8_word_110 : decode cX8_word 110 = .ok (.ldc 87, 2) := okd_at mX8_word_0 57 rfl
theorem dX8_word_112 : decode cX8_word 112 = .ok (.iload_n 1, 1) := okd_at mX8_word_0 58 rfl
theorem dX8_word_113 : decode cX8_word 113 = .ok (.iload_n 2, 1) := okd_at mX8_word_0 59 rfl
def lmX8_word_1 : List (Nat × Instr × Nat) := [(114, .invokevirtual 69, 3), (117, .ifCond .eq 9, 3), (120, .sipush 257, 3), (123, .goto 72, 3), (126, .aload_n 0, 1), (127, .ldc 89, 2), (129, .iload_n 1, 1), (130, .iload_n 2, 1), (131, .invokevirtual 69, 3), (134, .ifCond .eq 9, 3), (137, .sipush 258, 3), (140, .goto 55, 3), (143, .aload_n 0, 1), (144, .ldc 91, 2), (146, .iload_n 1, 1), (147, .iload_n 2, 1), (148, .invokevirtual 69, 3), (151, .ifCond .eq 9, 3), (154, .sipush 259, 3), (157, .goto 38, 3), (160, .aload_n 0, 1), (161, .ldc 93, 2), (163, .iload_n 1, 1), (164, .iload_n 2, 1), (165, .invokevirtual 69, 3), (168, .ifCond .eq 9, 3), (171, .sipush 260, 3), (174, .goto 21, 3), (177, .aload_n 0, 1), (178, .ldc 95, 2), (180, .iload_n 1, 1), (181, .iload_n 2, 1), (182, .invokevirtual 69, 3), (185, .ifCond .eq 9, 3), (188, .sipush 261, 3), (191, .goto 4, 3), (194, .iconst 0, 1), (195, .ireturn, 1)]
theorem mX8_word_1 : okd cX8_word lmX8_word_1 = true := by decide +kernel
theorem dX8_word_114 : decode cX8_word 114 = .ok (.invokevirtual 69, 3) := okd_at mX8_word_1 0 rfl
theorem dX8_word_117 : decode cX8_word 117 = .ok (.ifCond .eq 9, 3) := okd_at mX8_word_1 1 rfl
theorem dX8_word_120 : decode cX8_word 120 = .ok (.sipush 257, 3) := okd_at mX8_word_1 2 rfl
theorem dX8_word_123 : decode cX8_word 123 = .ok (.goto 72, 3) := okd_at mX8_word_1 3 rfl
theorem dX8_word_126 : decode cX8_word 126 = .ok (.aload_n 0, 1) := okd_at mX8_word_1 4 rfl
theorem dX8_word_127 : decode cX8_word 127 = .ok (.ldc 89, 2) := okd_at mX8_word_1 5 rfl
theorem dX8_word_129 : decode cX8_word 129 = .ok (.iload_n 1, 1) := okd_at mX8_word_1 6 rfl
theorem dX8_word_130 : decode cX8_word 130 = .ok (.iload_n 2, 1) := okd_at mX8_word_1 7 rfl
theorem dX8_word_131 : decode cX8_word 131 = .ok (.invokevirtual 69, 3) := okd_at mX8_word_1 8 rfl
theorem dX8_word_134 : decode cX8_word 134 = .ok (.ifCond .eq 9, 3) := okd_at mX8_word_1 9 rfl
theorem dX8_word_137 : decode cX8_word 137 = .ok (.sipush 258, 3) := okd_at mX8_word_1 10 rfl
theorem dX8_word_140 : decode cX8_word 140 = .ok (.goto 55, 3) := okd_at mX8_word_1 11 rfl
theorem dX8_word_143 : decode cX8_word 143 = .ok (.aload_n 0, 1) := okd_at mX8_word_1 12 rfl
theorem dX8_word_144 : decode cX8_word 144 = .ok (.ldc 91, 2) := okd_at mX8_word_1 13 rfl
theorem dX8_word_146 : decode cX8_word 146 = .ok (.iload_n 1, 1) := okd_at mX8_word_1 14 rfl
theorem dX8_word_147 : decode cX8_word 147 = .ok (.iload_n 2, 1) := okd_at mX8_word_1 15 rfl
theorem dX8_word_148 : decode cX8_word 148 = .ok (.invokevirtual 69, 3) := okd_at mX8_word_1 16 rfl
theorem dX8_word_151 : decode cX8_word 151 = .ok (.ifCond .eq 9, 3) := okd_at mX8_word_1 17 rfl
theorem dX8_word_154 : decode cX8_word 154 = .ok (.sipush 259, 3) := okd_at mX8_word_1 18 rfl
theorem dX8_word_157 : decode cX8_word 157 = .ok (.goto 38, 3) := okd_at mX8_word_1 19 rfl
theorem dX8_word_160 : decode cX8_word 160 = .ok (.aload_n 0, 1) := okd_at mX8_word_1 20 rfl
theorem dX8_word_161 : decode cX8_word 161 = .ok (.ldc 93, 2) := okd_at mX8_word_1 21 rfl
theorem dX8_word_163 : decode cX8_word 163 = .ok (.iload_n 1, 1) := okd_at mX8_word_1 22 rfl
theorem dX8_word_164 : decode cX8_word 164 = .ok (.iload_n 2, 1) := okd_at mX8_word_1 23 rfl
theorem dX8_word_165 : decode cX8_word 165 = .ok (.invokevirtual 69, 3) := okd_at mX8_word_1 24 rfl
theorem dX8_word_168 : decode cX8_word 168 = .ok (.ifCond .eq 9, 3) := okd_at mX8_word_1 25 rfl
theorem dX8_word_171 : decode cX8_word 171 = .ok (.sipush 260, 3) := okd_at mX8_word_1 26 rfl
theorem dX8_word_174 : decode cX8_word 174 = .ok (.goto 21, 3) := okd_at mX8_word_1 27 rfl
theorem dX8_word_177 : decode cX8_word 177 = .ok (.aload_n 0, 1) := okd_at mX8_word_1 28 rfl
theorem dX8_word_178 : decode cX8_word 178 = .ok (.ldc 95, 2) := okd_at mX8_word_1 29 rfl
theorem dX8_word_180 : decode cX8_word 180 = .ok (.iload_n 1, 1) := okd_at mX8_word_1 30 rfl
theorem dX8_word_181 : decode cX8_word 181 = .ok (.iload_n 2, 1) := okd_at mX8_word_1 31 rfl
theorem dX8_word_182 : decode cX8_word 182 = .ok (.invokevirtual 69, 3) := okd_at mX8_word_1 32 rfl
theorem dX8_word_185 : decode cX8_word 185 = .ok (.ifCond .eq 9, 3) := okd_at mX8_word_1 33 rfl
theorem dX8_word_188 : decode cX8_word 188 = .ok (.sipush 261, 3) := okd_at mX8_word_1 34 rfl
theorem dX8_word_191 : decode cX8_word 191 = .ok (.goto 4, 3) := okd_at mX8_word_1 35 rfl
theorem dX8_word_194 : decode cX8_word 194 = .ok (.iconst 0, 1) := okd_at mX8_word_1 36 rfl
theorem dX8_word_195 : decode cX8_word 195 = .ok (.ireturn, 1) := okd_at mX8_word_1 37 rfl
def lmX9_add_0 : List (Nat × Instr × Nat) := [(0, .aload_n 0, 1), (1, .getfield 21, 3), (4, .aload_n 0, 1), (5, .getfield 9, 3), (8, .arraylength, 1), (9, .if_icmp .ge 23, 3), (12, .aload_n 0, 1), (13, .getfield 9, 3), (16, .aload_n 0, 1), (17, .getfield 21, 3), (20, .iload_n 1, 1), (21, .iastore, 1), (22, .aload_n 0, 1), (23, .dup, 1), (24, .getfield 21, 3), (27, .iconst 1, 1), (28, .iadd, 1), (29, .putfield 21, 3), (32, .return_, 1)]
theorem mX9_add_0 : okd cX9_add lmX9_add_0 = true := by decide +kernel
theorem dX9_add_0 : decode cX9_add 0 = .ok (.aload_n 0, 1) := okd_at mX9_add_0 0 rfl
theorem dX9_add_1 : decode cX9_add 1 = .ok (.getfield 21, 3) := okd_at mX9_add_0 1 rfl
theorem dX9_add_4 : decode cX9_add 4 = .ok (.aload_n 0, 1) := okd_at mX9_add_0 2 rfl
theorem dX9_add_5 : decode cX9_add 5 = .ok (.getfield 9, 3) := okd_at mX9_add_0 3 rfl
theorem dX9_add_8 : decode cX9_add 8 = .ok (.arraylength, 1) := okd_at mX9_add_0 4 rfl
theorem dX9_add_9 : decode cX9_add 9 = .ok (.if_icmp .ge 23, 3) := okd_at mX9_add_0 5 rfl
theorem dX9_add_12 : decode cX9_add 12 = .ok (.aload_n 0, 1) := okd_at mX9_add_0 6 rfl
theorem dX9_add_13 : decode cX9_add 13 = .ok (.getfield 9, 3) := okd_at mX9_add_0 7 rfl
theorem dX9_add_16 : decode cX9_add 16 = .ok (.aload_n 0, 1) := okd_at mX9_add_0 8 rfl
theorem dX9_add_17 : decode cX9_add 17 = .ok (.getfield 21, 3) := okd_at mX9_add_0 9 rfl
theorem dX9_add_20 : decode cX9_add 20 = .ok (.iload_n 1, 1) := okd_at mX9_add_0 10 rfl
theorem dX9_add_21 : decode cX9_add 21 = .ok (.iastore, 1) := okd_at mX9_add_0 11 rfl
theorem dX9_add_22 : decode cX9_add 22 = .ok (.aload_n 0, 1) := okd_at mX9_add_0 12 rfl
theorem dX9_add_23 : decode cX9_add 23 = .ok (.dup, 1) := okd_at mX9_add_0 13 rfl
theorem dX9_add_24 : decode cX9_add 24 = .ok (.getfield 21, 3) := okd_at mX9_add_0 14 rfl
theorem dX9_add_27 : decode cX9_add 27 = .ok (.iconst 1, 1) := okd_at mX9_add_0 15 rfl
theorem dX9_add_28 : decode cX9_add 28 = .ok (.iadd, 1) := okd_at mX9_add_0 16 rfl
theorem dX9_add_29 : decode cX9_add 29 = .ok (.putfield 21, 3) := okd_at mX9_add_0 17 rfl
theorem dX9_add_32 : decode cX9_add 32 = .ok (.return_, 1) := okd_at mX9_add_0 18 rfl
def lmX9_addName_0 : List (Nat × Instr × Nat) := [(0, .aload_n 0, 1), (1, .iconst (-1), 1), (2, .iload_n 1, 1), (3, .isub, 1), (4, .invokevirtual 25, 3), (7, .return_, 1)]
theorem mX9_addName_0 : okd cX9_addName lmX9_addName_0 = true := by decide +kernel
theorem dX9_addName_0 : decode cX9_addName 0 = .ok (.aload_n 0, 1) := okd_at mX9_addName_0 0 rfl
theorem dX9_addName_1 : decode cX9_addName 1 = .ok (.iconst (-1), 1) := okd_at mX9_addName_0 1 rfl
theorem dX9_addName_2 : decode cX9_addName 2 = .ok (.iload_n 1, 1) := okd_at mX9_addName_0 2 rfl
theorem dX9_addName_3 : decode cX9_addName 3 = .ok (.isub, 1) := okd_at mX9_addName_0 3 rfl
theorem dX9_addName_4 : decode cX9_addName 4 = .ok (.invokevirtual 25, 3) := okd_at mX9_addName_0 4 rfl
theorem dX9_addName_7 : decode cX9_addName 7 = .ok (.return_, 1) := okd_at mX9_addName_0 5 rfl
def lmX9_clear_0 : List (Nat × Instr × Nat) := [(0, .aload_n 0, 1), (1, .iconst 0, 1), (2, .putfield 21, 3), (5, .return_, 1)]
theorem mX9_clear_0 : okd cX9_clear lmX9_clear_0 = true := by decide +kernel
theorem dX9_clear_0 : decode cX9_clear 0 = .ok (.aload_n 0, 1) := okd_at mX9_clear_0 0 rfl
theorem dX9_clear_1 : decode cX9_clear 1 = .ok (.iconst 0, 1) := okd_at mX9_clear_0 1 rfl
theorem dX9_clear_2 : decode cX9_clear 2 = .ok (.putfield 21, 3) := okd_at mX9_clear_0 2 rfl
theorem dX9_clear_5 : decode cX9_clear 5 = .ok (.return_, 1) := okd_at mX9_clear_0 3 rfl
def lmX9_endPart_0 : List (Nat × Instr × Nat) := [(0, .aload_n 0, 1), (1, .getfield 15, 3), (4, .iload_n 1, 1), (5, .aload_n 0, 1), (6, .getfield 21, 3), (9, .invokestatic 29, 3), (12, .return_, 1)]
theorem mX9_endPart_0 : okd cX9_endPart lmX9_endPart_0 = true := by decide +kernel
theorem dX9_endPart_0 : decode cX9_endPart 0 = .ok (.aload_n 0, 1) := okd_at mX9_endPart_0 0 rfl
theorem dX9_endPart_1 : decode cX9_endPart 1 = .ok (.getfield 15, 3) := okd_at mX9_endPart_0 1 rfl
theorem dX9_endPart_4 : decode cX9_endPart 4 = .ok (.iload_n 1, 1) := okd_at mX9_endPart_0 2 rfl
theorem dX9_endPart_5 : decode cX9_endPart 5 = .ok (.aload_n 0, 1) := okd_at mX9_endPart_0 3 rfl
theorem dX9_endPart_6 : decode cX9_endPart 6 = .ok (.getfield 21, 3) := okd_at mX9_endPart_0 4 rfl
theorem dX9_endPart_9 : decode cX9_endPart 9 = .ok (.invokestatic 29, 3) := okd_at mX9_endPart_0 5 rfl
theorem dX9_endPart_12 : decode cX9_endPart 12 = .ok (.return_, 1) := okd_at mX9_endPart_0 6 rfl
def lmX9_joined_0 : List (Nat × Instr × Nat) := [(0, .iload_n 0, 1), (1, .tableswitch 87 (-14) (-9) #[73, 62, 51, 47, 43, 39], 39), (40, .iload_n 1, 1), (41, .iload_n 2, 1), (42, .imul, 1), (43, .ireturn, 1), (44, .iload_n 1, 1), (45, .iload_n 2, 1), (46, .iadd, 1), (47, .ireturn, 1), (48, .iload_n 1, 1), (49, .iload_n 2, 1), (50, .isub, 1), (51, .ireturn, 1), (52, .iload_n 1, 1), (53, .iload_n 2, 1), (54, .if_icmp .ge 7, 3), (57, .iconst 1, 1), (58, .goto 4, 3), (61, .iconst 0, 1), (62, .ireturn, 1), (63, .iload_n 1, 1), (64, .iload_n 2, 1), (65, .if_icmp .ne 7, 3), (68, .iconst 1, 1), (69, .goto 4, 3), (72, .iconst 0, 1), (73, .ireturn, 1), (74, .iload_n 1, 1), (75, .ifCond .eq 11, 3), (78, .iload_n 2, 1), (79, .ifCond .eq 7, 3), (82, .iconst 1, 1), (83, .goto 4, 3), (86, .iconst 0, 1), (87, .ireturn, 1), (88, .iload_n 1, 1), (89, .ifCond .ne 7, 3), (92, .iload_n 2, 1), (93, .ifCond .eq 7, 3), (96, .iconst 1, 1), (97, .goto 4, 3), (100, .iconst 0, 1), (101, .ireturn, 1)]
theorem mX9_joined_0 : okd cX9_joined lmX9_joined_0 = true := by decide +kernel
theorem dX9_joined_0 : decode cX9_joined 0 = .ok (.iload_n 0, 1) := okd_at mX9_joined_0 0 rfl
theorem dX9_joined_1 : decode cX9_joined 1 = .ok (.tableswitch 87 (-14) (-9) #[73, 62, 51, 47, 43, 39], 39) := okd_at mX9_joined_0 1 rfl
theorem dX9_joined_40 : decode cX9_joined 40 = .ok (.iload_n 1, 1) := okd_at mX9_joined_0 2 rfl
theorem dX9_joined_41 : decode cX9_joined 41 = .ok (.iload_n 2, 1) := okd_at mX9_joined_0 3 rfl
theorem dX9_joined_42 : decode cX9_joined 42 = .ok (.imul, 1) := okd_at mX9_joined_0 4 rfl
theorem dX9_joined_43 : decode cX9_joined 43 = .ok (.ireturn, 1) := okd_at mX9_joined_0 5 rfl
theorem dX9_joined_44 : decode cX9_joined 44 = .ok (.iload_n 1, 1) := okd_at mX9_joined_0 6 rfl
theorem dX9_joined_45 : decode cX9_joined 45 = .ok (.iload_n 2, 1) := okd_at mX9_joined_0 7 rfl
theorem dX9_joined_46 : decode cX9_joined 46 = .ok (.iadd, 1) := okd_at mX9_joined_0 8 rfl
theorem dX9_joined_47 : decode cX9_joined 47 = .ok (.ireturn, 1) := okd_at mX9_joined_0 9 rfl
theorem dX9_joined_48 : decode cX9_joined 48 = .ok (.iload_n 1, 1) := okd_at mX9_joined_0 10 rfl
theorem dX9_joined_49 : decode cX9_joined 49 = .ok (.iload_n 2, 1) := okd_at mX9_joined_0 11 rfl
theorem dX9_joined_50 : decode cX9_joined 50 = .ok (.isub, 1) := okd_at mX9_joined_0 12 rfl
theorem dX9_joined_51 : decode cX9_joined 51 = .ok (.ireturn, 1) := okd_at mX9_joined_0 13 rfl
theorem dX9_joined_52 : decode cX9_joined 52 = .ok (.iload_n 1, 1) := okd_at mX9_joined_0 14 rfl
theorem dX9_joined_53 : decode cX9_joined 53 = .ok (.iload_n 2, 1) := okd_at mX9_joined_0 15 rfl
theorem dX9_joined_54 : decode cX9_joined 54 = .ok (.if_icmp .ge 7, 3) := okd_at mX9_joined_0 16 rfl
theorem dX9_joined_57 : decode cX9_joined 57 = .ok (.iconst 1, 1) := okd_at mX9_joined_0 17 rfl
theorem dX9_joined_58 : decode cX9_joined 58 = .ok (.goto 4, 3) := okd_at mX9_joined_0 18 rfl
theorem dX9_joined_61 : decode cX9_joined 61 = .ok (.iconst 0, 1) := okd_at mX9_joined_0 19 rfl
theorem dX9_joined_62 : decode cX9_joined 62 = .ok (.ireturn, 1) := okd_at mX9_joined_0 20 rfl
theorem dX9_joined_63 : decode cX9_joined 63 = .ok (.iload_n 1, 1) := okd_at mX9_joined_0 21 rfl
theorem dX9_joined_64 : decode cX9_joined 64 = .ok (.iload_n 2, 1) := okd_at mX9_joined_0 22 rfl
theorem dX9_joined_65 : decode cX9_joined 65 = .ok (.if_icmp .ne 7, 3) := okd_at mX9_joined_0 23 rfl
theorem dX9_joined_68 : decode cX9_joined 68 = .ok (.iconst 1, 1) := okd_at mX9_joined_0 24 rfl
theorem dX9_joined_69 : decode cX9_joined 69 = .ok (.goto 4, 3) := okd_at mX9_joined_0 25 rfl
theorem dX9_joined_72 : decode cX9_joined 72 = .ok (.iconst 0, 1) := okd_at mX9_joined_0 26 rfl
theorem dX9_joined_73 : decode cX9_joined 73 = .ok (.ireturn, 1) := okd_at mX9_joined_0 27 rfl
theorem dX9_joined_74 : decode cX9_joined 74 = .ok (.iload_n 1, 1) := okd_at mX9_joined_0 28 rfl
theorem dX9_joined_75 : decode cX9_joined 75 = .ok (.ifCond .eq 11, 3) := okd_at mX9_joined_0 29 rfl
theorem dX9_joined_78 : decode cX9_joined 78 = .ok (.iload_n 2, 1) := okd_at mX9_joined_0 30 rfl
theorem dX9_joined_79 : decode cX9_joined 79 = .ok (.ifCond .eq 7, 3) := okd_at mX9_joined_0 31 rfl
theorem dX9_joined_82 : decode cX9_joined 82 = .ok (.iconst 1, 1) := okd_at mX9_joined_0 32 rfl
theorem dX9_joined_83 : decode cX9_joined 83 = .ok (.goto 4, 3) := okd_at mX9_joined_0 33 rfl
theorem dX9_joined_86 : decode cX9_joined 86 = .ok (.iconst 0, 1) := okd_at mX9_joined_0 34 rfl
theorem dX9_joined_87 : decode cX9_joined 87 = .ok (.ireturn, 1) := okd_at mX9_joined_0 35 rfl
theorem dX9_joined_88 : decode cX9_joined 88 = .ok (.iload_n 1, 1) := okd_at mX9_joined_0 36 rfl
theorem dX9_joined_89 : decode cX9_joined 89 = .ok (.ifCond .ne 7, 3) := okd_at mX9_joined_0 37 rfl
theorem dX9_joined_92 : decode cX9_joined 92 = .ok (.iload_n 2, 1) := okd_at mX9_joined_0 38 rfl
theorem dX9_joined_93 : decode cX9_joined 93 = .ok (.ifCond .eq 7, 3) := okd_at mX9_joined_0 39 rfl
theorem dX9_joined_96 : decode cX9_joined 96 = .ok (.iconst 1, 1) := okd_at mX9_joined_0 40 rfl
theorem dX9_joined_97 : decode cX9_joined 97 = .ok (.goto 4, 3) := okd_at mX9_joined_0 41 rfl
theorem dX9_joined_100 : decode cX9_joined 100 = .ok (.iconst 0, 1) := okd_at mX9_joined_0 42 rfl
theorem dX9_joined_101 : decode cX9_joined 101 = .ok (.ireturn, 1) := okd_at mX9_joined_0 43 rfl
def lmX9_pop_0 : List (Nat × Instr × Nat) := [(0, .aload_n 0, 1), (1, .getfield 37, 3), (4, .ifCond .le 15, 3), (7, .aload_n 0, 1), (8, .getfield 37, 3), (11, .aload_n 0, 1), (12, .getfield 18, 3), (15, .arraylength, 1), (16, .if_icmp .le 5, 3), (19, .iconst 0, 1), (20, .ireturn, 1), (21, .aload_n 0, 1), (22, .dup, 1), (23, .getfield 37, 3), (26, .iconst 1, 1), (27, .isub, 1), (28, .putfield 37, 3), (31, .aload_n 0, 1), (32, .getfield 18, 3), (35, .aload_n 0, 1), (36, .getfield 37, 3), (39, .iaload, 1), (40, .ireturn, 1)]
theorem mX9_pop_0 : okd cX9_pop lmX9_pop_0 = true := by decide +kernel
theorem dX9_pop_0 : decode cX9_pop 0 = .ok (.aload_n 0, 1) := okd_at mX9_pop_0 0 rfl
theorem dX9_pop_1 : decode cX9_pop 1 = .ok (.getfield 37, 3) := okd_at mX9_pop_0 1 rfl
theorem dX9_pop_4 : decode cX9_pop 4 = .ok (.ifCond .le 15, 3) := okd_at mX9_pop_0 2 rfl
theorem dX9_pop_7 : decode cX9_pop 7 = .ok (.aload_n 0, 1) := okd_at mX9_pop_0 3 rfl
theorem dX9_pop_8 : decode cX9_pop 8 = .ok (.getfield 37, 3) := okd_at mX9_pop_0 4 rfl
theorem dX9_pop_11 : decode cX9_pop 11 = .ok (.aload_n 0, 1) := okd_at mX9_pop_0 5 rfl
theorem dX9_pop_12 : decode cX9_pop 12 = .ok (.getfield 18, 3) := okd_at mX9_pop_0 6 rfl
theorem dX9_pop_15 : decode cX9_pop 15 = .ok (.arraylength, 1) := okd_at mX9_pop_0 7 rfl
theorem dX9_pop_16 : decode cX9_pop 16 = .ok (.if_icmp .le 5, 3) := okd_at mX9_pop_0 8 rfl
theorem dX9_pop_19 : decode cX9_pop 19 = .ok (.iconst 0, 1) := okd_at mX9_pop_0 9 rfl
theorem dX9_pop_20 : decode cX9_pop 20 = .ok (.ireturn, 1) := okd_at mX9_pop_0 10 rfl
theorem dX9_pop_21 : decode cX9_pop 21 = .ok (.aload_n 0, 1) := okd_at mX9_pop_0 11 rfl
theorem dX9_pop_22 : decode cX9_pop 22 = .ok (.dup, 1) := okd_at mX9_pop_0 12 rfl
theorem dX9_pop_23 : decode cX9_pop 23 = .ok (.getfield 37, 3) := okd_at mX9_pop_0 13 rfl
theorem dX9_pop_26 : decode cX9_pop 26 = .ok (.iconst 1, 1) := okd_at mX9_pop_0 14 rfl
theorem dX9_pop_27 : decode cX9_pop 27 = .ok (.isub, 1) := okd_at mX9_pop_0 15 rfl
theorem dX9_pop_28 : decode cX9_pop 28 = .ok (.putfield 37, 3) := okd_at mX9_pop_0 16 rfl
theorem dX9_pop_31 : decode cX9_pop 31 = .ok (.aload_n 0, 1) := okd_at mX9_pop_0 17 rfl
theorem dX9_pop_32 : decode cX9_pop 32 = .ok (.getfield 18, 3) := okd_at mX9_pop_0 18 rfl
theorem dX9_pop_35 : decode cX9_pop 35 = .ok (.aload_n 0, 1) := okd_at mX9_pop_0 19 rfl
theorem dX9_pop_36 : decode cX9_pop 36 = .ok (.getfield 37, 3) := okd_at mX9_pop_0 20 rfl
theorem dX9_pop_39 : decode cX9_pop 39 = .ok (.iaload, 1) := okd_at mX9_pop_0 21 rfl
theorem dX9_pop_40 : decode cX9_pop 40 = .ok (.ireturn, 1) := okd_at mX9_pop_0 22 rfl
def lmX9_push_0 : List (Nat × Instr × Nat) := [(0, .aload_n 0, 1), (1, .getfield 37, 3), (4, .aload_n 0, 1), (5, .getfield 18, 3), (8, .arraylength, 1), (9, .if_icmp .ge 23, 3), (12, .aload_n 0, 1), (13, .getfield 18, 3), (16, .aload_n 0, 1), (17, .getfield 37, 3), (20, .iload_n 1, 1), (21, .iastore, 1), (22, .aload_n 0, 1), (23, .dup, 1), (24, .getfield 37, 3), (27, .iconst 1, 1), (28, .iadd, 1), (29, .putfield 37, 3), (32, .return_, 1)]
theorem mX9_push_0 : okd cX9_push lmX9_push_0 = true := by decide +kernel
theorem dX9_push_0 : decode cX9_push 0 = .ok (.aload_n 0, 1) := okd_at mX9_push_0 0 rfl
theorem dX9_push_1 : decode cX9_push 1 = .ok (.getfield 37, 3) := okd_at mX9_push_0 1 rfl
theorem dX9_push_4 : decode cX9_push 4 = .ok (.aload_n 0, 1) := okd_at mX9_push_0 2 rfl
theorem dX9_push_5 : decode cX9_push 5 = .ok (.getfield 18, 3) := okd_at mX9_push_0 3 rfl
theorem dX9_push_8 : decode cX9_push 8 = .ok (.arraylength, 1) := okd_at mX9_push_0 4 rfl
theorem dX9_push_9 : decode cX9_push 9 = .ok (.if_icmp .ge 23, 3) := okd_at mX9_push_0 5 rfl
theorem dX9_push_12 : decode cX9_push 12 = .ok (.aload_n 0, 1) := okd_at mX9_push_0 6 rfl
theorem dX9_push_13 : decode cX9_push 13 = .ok (.getfield 18, 3) := okd_at mX9_push_0 7 rfl
theorem dX9_push_16 : decode cX9_push 16 = .ok (.aload_n 0, 1) := okd_at mX9_push_0 8 rfl
theorem dX9_push_17 : decode cX9_push 17 = .ok (.getfield 37, 3) := okd_at mX9_push_0 9 rfl
theorem dX9_push_20 : decode cX9_push 20 = .ok (.iload_n 1, 1) := okd_at mX9_push_0 10 rfl
theorem dX9_push_21 : decode cX9_push 21 = .ok (.iastore, 1) := okd_at mX9_push_0 11 rfl
theorem dX9_push_22 : decode cX9_push 22 = .ok (.aload_n 0, 1) := okd_at mX9_push_0 12 rfl
theorem dX9_push_23 : decode cX9_push 23 = .ok (.dup, 1) := okd_at mX9_push_0 13 rfl
theorem dX9_push_24 : decode cX9_push 24 = .ok (.getfield 37, 3) := okd_at mX9_push_0 14 rfl
theorem dX9_push_27 : decode cX9_push 27 = .ok (.iconst 1, 1) := okd_at mX9_push_0 15 rfl
theorem dX9_push_28 : decode cX9_push 28 = .ok (.iadd, 1) := okd_at mX9_push_0 16 rfl
theorem dX9_push_29 : decode cX9_push 29 = .ok (.putfield 37, 3) := okd_at mX9_push_0 17 rfl
theorem dX9_push_32 : decode cX9_push 32 = .ok (.return_, 1) := okd_at mX9_push_0 18 rfl
def lmX9_value_0 : List (Nat × Instr × Nat) := [(0, .aload_n 0, 1), (1, .getfield 15, 3), (4, .iload_n 1, 1), (5, .invokestatic 33, 3), (8, .istore_n 3, 1), (9, .aload_n 0, 1), (10, .iconst 0, 1), (11, .putfield 37, 3), (14, .iload_n 1, 1), (15, .ifCond .ne 7, 3), (18, .iconst 0, 1), (19, .goto 13, 3), (22, .aload_n 0, 1), (23, .getfield 15, 3), (26, .iload_n 1, 1), (27, .iconst 1, 1), (28, .isub, 1), (29, .invokestatic 33, 3), (32, .istore 4, 2), (34, .iload 4, 2), (36, .iload_n 3, 1), (37, .if_icmp .ge 122, 3), (40, .aload_n 0, 1), (41, .getfield 9, 3), (44, .iload 4, 2), (46, .invokestatic 33, 3), (49, .istore 5, 2), (51, .iload 5, 2), (53, .ifCond .lt 12, 3), (56, .aload_n 0, 1), (57, .iload 5, 2), (59, .invokevirtual 40, 3), (62, .goto 91, 3), (65, .iload 5, 2), (67, .bipush (-7), 2), (69, .if_icmp .le 18, 3), (72, .aload_n 0, 1), (73, .aload_n 2, 1), (74, .iconst (-1), 1), (75, .iload 5, 2), (77, .isub, 1), (78, .invokestatic 33, 3), (81, .invokevirtual 40, 3), (84, .goto 69, 3), (87, .iload 5, 2), (89, .bipush (-7), 2), (91, .if_icmp .ne 15, 3), (94, .aload_n 0, 1), (95, .aload_n 0, 1), (96, .invokevirtual 43, 3), (99, .ineg, 1), (100, .invokevirtual 40, 3), (103, .goto 50, 3), (106, .iload 5, 2), (108, .bipush (-8), 2), (110, .if_icmp .ne 22, 3), (113, .aload_n 0, 1), (114, .aload_n 0, 1), (115, .invokevirtual 43, 3), (118, .ifCond .ne 7, 3)]
theorem mX9_value_0 : okd cX9_value lmX9_value_0 = true := by decide +kernel
theorem dX9_value_0 : decode cX9_value 0 = .ok (.aload_n 0, 1) := okd_at mX9_value_0 0 rfl
theorem dX9_value_1 : decode cX9_value 1 = .ok (.getfield 15, 3) := okd_at mX9_value_0 1 rfl
theorem dX9_value_4 : decode cX9_value 4 = .ok (.iload_n 1, 1) := okd_at mX9_value_0 2 rfl
theorem dX9_value_5 : decode cX9_value 5 = .ok (.invokestatic 33, 3) := okd_at mX9_value_0 3 rfl
theorem dX9_value_8 : decode cX9_value 8 = .ok (.istore_n 3, 1) := okd_at mX9_value_0 4 rfl
theorem dX9_value_9 : decode cX9_value 9 = .ok (.aload_n 0, 1) := okd_at mX9_value_0 5 rfl
theorem dX9_value_10 : decode cX9_value 10 = .ok (.iconst 0, 1) := okd_at mX9_value_0 6 rfl
theorem dX9_value_11 : decode cX9_value 11 = .ok (.putfield 37, 3) := okd_at mX9_value_0 7 rfl
theorem dX9_value_14 : decode cX9_value 14 = .ok (.iload_n 1, 1) := okd_at mX9_value_0 8 rfl
theorem dX9_value_15 : decode cX9_value 15 = .ok (.ifCond .ne 7, 3) := okd_at mX9_value_0 9 rfl
theorem dX9_value_18 : decode cX9_value 18 = .ok (.iconst 0, 1) := okd_at mX9_value_0 10 rfl
theorem dX9_value_19 : decode cX9_value 19 = .ok (.goto 13, 3) := okd_at mX9_value_0 11 rfl
theorem dX9_value_22 : decode cX9_value 22 = .ok (.aload_n 0, 1) := okd_at mX9_value_0 12 rfl
theorem dX9_value_23 : decode cX9_value 23 = .ok (.getfield 15, 3) := okd_at mX9_value_0 13 rfl
theorem dX9_value_26 : decode cX9_value 26 = .ok (.iload_n 1, 1) := okd_at mX9_value_0 14 rfl
theorem dX9_value_27 : decode cX9_value 27 = .ok (.iconst 1, 1) := okd_at mX9_value_0 15 rfl
theorem dX9_value_28 : decode cX9_value 28 = .ok (.isub, 1) := okd_at mX9_value_0 16 rfl
theorem dX9_value_29 : decode cX9_value 29 = .ok (.invokestatic 33, 3) := okd_at mX9_value_0 17 rfl
theorem dX9_value_32 : decode cX9_value 32 = .ok (.istore 4, 2) := okd_at mX9_value_0 18 rfl
theorem dX9_value_34 : decode cX9_value 34 = .ok (.iload 4, 2) := okd_at mX9_value_0 19 rfl
theorem dX9_value_36 : decode cX9_value 36 = .ok (.iload_n 3, 1) := okd_at mX9_value_0 20 rfl
theorem dX9_value_37 : decode cX9_value 37 = .ok (.if_icmp .ge 122, 3) := okd_at mX9_value_0 21 rfl
theorem dX9_value_40 : decode cX9_value 40 = .ok (.aload_n 0, 1) := okd_at mX9_value_0 22 rfl
theorem dX9_value_41 : decode cX9_value 41 = .ok (.getfield 9, 3) := okd_at mX9_value_0 23 rfl
theorem dX9_value_44 : decode cX9_value 44 = .ok (.iload 4, 2) := okd_at mX9_value_0 24 rfl
theorem dX9_value_46 : decode cX9_value 46 = .ok (.invokestatic 33, 3) := okd_at mX9_value_0 25 rfl
theorem dX9_value_49 : decode cX9_value 49 = .ok (.istore 5, 2) := okd_at mX9_value_0 26 rfl
theorem dX9_value_51 : decode cX9_value 51 = .ok (.iload 5, 2) := okd_at mX9_value_0 27 rfl
theorem dX9_value_53 : decode cX9_value 53 = .ok (.ifCond .lt 12, 3) := okd_at mX9_value_0 28 rfl
theorem dX9_value_56 : decode cX9_value 56 = .ok (.aload_n 0, 1) := okd_at mX9_value_0 29 rfl
theorem dX9_value_57 : decode cX9_value 57 = .ok (.iload 5, 2) := okd_at mX9_value_0 30 rfl
theorem dX9_value_59 : decode cX9_value 59 = .ok (.invokevirtual 40, 3) := okd_at mX9_value_0 31 rfl
theorem dX9_value_62 : decode cX9_value 62 = .ok (.goto 91, 3) := okd_at mX9_value_0 32 rfl
theorem dX9_value_65 : decode cX9_value 65 = .ok (.iload 5, 2) := okd_at mX9_value_0 33 rfl
theorem dX9_value_67 : decode cX9_value 67 = .ok (.bipush (-7), 2) := okd_at mX9_value_0 34 rfl
theorem dX9_value_69 : decode cX9_value 69 = .ok (.if_icmp .le 18, 3) := okd_at mX9_value_0 35 rfl
theorem dX9_value_72 : decode cX9_value 72 = .ok (.aload_n 0, 1) := okd_at mX9_value_0 36 rfl
theorem dX9_value_73 : decode cX9_value 73 = .ok (.aload_n 2, 1) := okd_at mX9_value_0 37 rfl
theorem dX9_value_74 : decode cX9_value 74 = .ok (.iconst (-1), 1) := okd_at mX9_value_0 38 rfl
theorem dX9_value_75 : decode cX9_value 75 = .ok (.iload 5, 2) := okd_at mX9_value_0 39 rfl
theorem dX9_value_77 : decode cX9_value 77 = .ok (.isub, 1) := okd_at mX9_value_0 40 rfl
theorem dX9_value_78 : decode cX9_value 78 = .ok (.invokestatic 33, 3) := okd_at mX9_value_0 41 rfl
theorem dX9_value_81 : decode cX9_value 81 = .ok (.invokevirtual 40, 3) := okd_at mX9_value_0 42 rfl
theorem dX9_value_84 : decode cX9_value 84 = .ok (.goto 69, 3) := okd_at mX9_value_0 43 rfl
theorem dX9_value_87 : decode cX9_value 87 = .ok (.iload 5, 2) := okd_at mX9_value_0 44 rfl
theorem dX9_value_89 : decode cX9_value 89 = .ok (.bipush (-7), 2) := okd_at mX9_value_0 45 rfl
theorem dX9_value_91 : decode cX9_value 91 = .ok (.if_icmp .ne 15, 3) := okd_at mX9_value_0 46 rfl
theorem dX9_value_94 : decode cX9_value 94 = .ok (.aload_n 0, 1) := okd_at mX9_value_0 47 rfl
theorem dX9_value_95 : decode cX9_value 95 = .ok (.aload_n 0, 1) := okd_at mX9_value_0 48 rfl
theorem dX9_value_96 : decode cX9_value 96 = .ok (.invokevirtual 43, 3) := okd_at mX9_value_0 49 rfl
theorem dX9_value_99 : decode cX9_value 99 = .ok (.ineg, 1) := okd_at mX9_value_0 50 rfl
theorem dX9_value_100 : decode cX9_value 100 = .ok (.invokevirtual 40, 3) := okd_at mX9_value_0 51 rfl
theorem dX9_value_103 : decode cX9_value 103 = .ok (.goto 50, 3) := okd_at mX9_value_0 52 rfl
theorem dX9_value_106 : decode cX9_value 106 = .ok (.iload 5, 2) := okd_at mX9_value_0 53 rfl
theorem dX9_value_108 : decode cX9_value 108 = .ok (.bipush (-8), 2) := okd_at mX9_value_0 54 rfl
theorem dX9_value_110 : decode cX9_value 110 = .ok (.if_icmp .ne 22, 3) := okd_at mX9_value_0 55 rfl
theorem dX9_value_113 : decode cX9_value 113 = .ok (.aload_n 0, 1) := okd_at mX9_value_0 56 rfl
theorem dX9_value_114 : decode cX9_value 114 = .ok (.aload_n 0, 1) := okd_at mX9_value_0 57 rfl
theorem dX9_value_115 : decode cX9_value 115 = .ok (.invokevirtual 43, 3) := okd_at mX9_value_0 58 rfl
theorem dX9_value_118 : decode cX9_value 118 = .ok (.ifCond .ne 7, 3) := okd_at mX9_value_0 59 rfl
def lmX9_value_1 : List (Nat × Instr × Nat) := [(121, .iconst 1, 1), (122, .goto 4, 3), (125, .iconst 0, 1), (126, .invokevirtual 40, 3), (129, .goto 24, 3), (132, .aload_n 0, 1), (133, .invokevirtual 43, 3), (136, .istore 6, 2), (138, .aload_n 0, 1), (139, .iload 5, 2), (141, .aload_n 0, 1), (142, .invokevirtual 43, 3), (145, .iload 6, 2), (147, .invokestatic 47, 3), (150, .invokevirtual 40, 3), (153, .iinc 4 1, 3), (156, .goto (-122), 3), (159, .iload_n 1, 1), (160, .ifCond .ne 7, 3), (163, .iconst 0, 1), (164, .goto 5, 3), (167, .bipush (-99), 2), (169, .bipush 99, 2), (171, .aload_n 0, 1), (172, .invokevirtual 43, 3), (175, .invokestatic 51, 3), (178, .invokestatic 57, 3), (181, .ireturn, 1)]
theorem mX9_value_1 : okd cX9_value lmX9_value_1 = true := by decide +kernel
theorem dX9_value_121 : decode cX9_value 121 = .ok (.iconst 1, 1) := okd_at mX9_value_1 0 rfl
theorem dX9_value_122 : decode cX9_value 122 = .ok (.goto 4, 3) := okd_at mX9_value_1 1 rfl
theorem dX9_value_125 : decode cX9_value 125 = .ok (.iconst 0, 1) := okd_at mX9_value_1 2 rfl
theorem dX9_value_126 : decode cX9_value 126 = .ok (.invokevirtual 40, 3) := okd_at mX9_value_1 3 rfl
theorem dX9_value_129 : decode cX9_value 129 = .ok (.goto 24, 3) := okd_at mX9_value_1 4 rfl
theorem dX9_value_132 : decode cX9_value 132 = .ok (.aload_n 0, 1) := okd_at mX9_value_1 5 rfl
theorem dX9_value_133 : decode cX9_value 133 = .ok (.invokevirtual 43, 3) := okd_at mX9_value_1 6 rfl
theorem dX9_value_136 : decode cX9_value 136 = .ok (.istore 6, 2) := okd_at mX9_value_1 7 rfl
theorem dX9_value_138 : decode cX9_value 138 = .ok (.aload_n 0, 1) := okd_at mX9_value_1 8 rfl
theorem dX9_value_139 : decode cX9_value 139 = .ok (.iload 5, 2) := okd_at mX9_value_1 9 rfl
theorem dX9_value_141 : decode cX9_value 141 = .ok (.aload_n 0, 1) := okd_at mX9_value_1 10 rfl
theorem dX9_value_142 : decode cX9_value 142 = .ok (.invokevirtual 43, 3) := okd_at mX9_value_1 11 rfl
theorem dX9_value_145 : decode cX9_value 145 = .ok (.iload 6, 2) := okd_at mX9_value_1 12 rfl
theorem dX9_value_147 : decode cX9_value 147 = .ok (.invokestatic 47, 3) := okd_at mX9_value_1 13 rfl
theorem dX9_value_150 : decode cX9_value 150 = .ok (.invokevirtual 40, 3) := okd_at mX9_value_1 14 rfl
theorem dX9_value_153 : decode cX9_value 153 = .ok (.iinc 4 1, 3) := okd_at mX9_value_1 15 rfl
theorem dX9_value_156 : decode cX9_value 156 = .ok (.goto (-122), 3) := okd_at mX9_value_1 16 rfl
theorem dX9_value_159 : decode cX9_value 159 = .ok (.iload_n 1, 1) := okd_at mX9_value_1 17 rfl
theorem dX9_value_160 : decode cX9_value 160 = .ok (.ifCond .ne 7, 3) := okd_at mX9_value_1 18 rfl
theorem dX9_value_163 : decode cX9_value 163 = .ok (.iconst 0, 1) := okd_at mX9_value_1 19 rfl
theorem dX9_value_164 : decode cX9_value 164 = .ok (.goto 5, 3) := okd_at mX9_value_1 20 rfl
theorem dX9_value_167 : decode cX9_value 167 = .ok (.bipush (-99), 2) := okd_at mX9_value_1 21 rfl
theorem dX9_value_169 : decode cX9_value 169 = .ok (.bipush 99, 2) := okd_at mX9_value_1 22 rfl
theorem dX9_value_171 : decode cX9_value 171 = .ok (.aload_n 0, 1) := okd_at mX9_value_1 23 rfl
theorem dX9_value_172 : decode cX9_value 172 = .ok (.invokevirtual 43, 3) := okd_at mX9_value_1 24 rfl
theorem dX9_value_175 : decode cX9_value 175 = .ok (.invokestatic 51, 3) := okd_at mX9_value_1 25 rfl
theorem dX9_value_178 : decode cX9_value 178 = .ok (.invokestatic 57, 3) := okd_at mX9_value_1 26 rfl
theorem dX9_value_181 : decode cX9_value 181 = .ok (.ireturn, 1) := okd_at mX9_value_1 27 rfl
