theorem dX0_startFrom_0 : decode cX0_startFrom 0 = .ok (.aload_n 0, 1) := by decide +kernel
theorem dX0_startFrom_1 : decode cX0_startFrom 1 = .ok (.iconst (-1), 1) := by decide +kernel
theorem dX0_startFrom_2 : decode cX0_startFrom 2 = .ok (.aload_n 1, 1) := by decide +kernel
theorem dX0_startFrom_3 : decode cX0_startFrom 3 = .ok (.invokevirtual 9, 3) := by decide +kernel
theorem dX0_startFrom_6 : decode cX0_startFrom 6 = .ok (.return_, 1) := by decide +kernel
theorem dX0_take_0 : decode cX0_take 0 = .ok (.aload_n 0, 1) := by decide +kernel
theorem dX0_take_1 : decode cX0_take 1 = .ok (.iload_n 1, 1) := by decide +kernel
theorem dX0_take_2 : decode cX0_take 2 = .ok (.putfield 26, 3) := by decide +kernel
theorem dX0_take_5 : decode cX0_take 5 = .ok (.aload_n 0, 1) := by decide +kernel
theorem dX0_take_6 : decode cX0_take 6 = .ok (.aload_n 2, 1) := by decide +kernel
theorem dX0_take_7 : decode cX0_take 7 = .ok (.getfield 15, 3) := by decide +kernel
theorem dX0_take_10 : decode cX0_take 10 = .ok (.putfield 21, 3) := by decide +kernel
theorem dX0_take_13 : decode cX0_take 13 = .ok (.aload_n 0, 1) := by decide +kernel
theorem dX0_take_14 : decode cX0_take 14 = .ok (.aload_n 2, 1) := by decide +kernel
theorem dX0_take_15 : decode cX0_take 15 = .ok (.getfield 22, 3) := by decide +kernel
theorem dX0_take_18 : decode cX0_take 18 = .ok (.putfield 25, 3) := by decide +kernel
theorem dX0_take_21 : decode cX0_take 21 = .ok (.return_, 1) := by decide +kernel
theorem dX0_tells_0 : decode cX0_tells 0 = .ok (.iload_n 1, 1) := by decide +kernel
theorem dX0_tells_1 : decode cX0_tells 1 = .ok (.ifCond .ne 10, 3) := by decide +kernel
theorem dX0_tells_4 : decode cX0_tells 4 = .ok (.aload_n 0, 1) := by decide +kernel
theorem dX0_tells_5 : decode cX0_tells 5 = .ok (.getfield 26, 3) := by decide +kernel
theorem dX0_tells_8 : decode cX0_tells 8 = .ok (.goto 19, 3) := by decide +kernel
theorem dX0_tells_11 : decode cX0_tells 11 = .ok (.iload_n 1, 1) := by decide +kernel
theorem dX0_tells_12 : decode cX0_tells 12 = .ok (.iconst 1, 1) := by decide +kernel
theorem dX0_tells_13 : decode cX0_tells 13 = .ok (.if_icmp .ne 10, 3) := by decide +kernel
theorem dX0_tells_16 : decode cX0_tells 16 = .ok (.aload_n 0, 1) := by decide +kernel
theorem dX0_tells_17 : decode cX0_tells 17 = .ok (.getfield 21, 3) := by decide +kernel
theorem dX0_tells_20 : decode cX0_tells 20 = .ok (.goto 7, 3) := by decide +kernel
theorem dX0_tells_23 : decode cX0_tells 23 = .ok (.aload_n 0, 1) := by decide +kernel
theorem dX0_tells_24 : decode cX0_tells 24 = .ok (.getfield 25, 3) := by decide +kernel
theorem dX0_tells_27 : decode cX0_tells 27 = .ok (.ireturn, 1) := by decide +kernel
theorem dX0_weigh_0 : decode cX0_weigh 0 = .ok (.aload_n 2, 1) := by decide +kernel
theorem dX0_weigh_1 : decode cX0_weigh 1 = .ok (.getfield 15, 3) := by decide +kernel
theorem dX0_weigh_4 : decode cX0_weigh 4 = .ok (.aload_n 0, 1) := by decide +kernel
theorem dX0_weigh_5 : decode cX0_weigh 5 = .ok (.getfield 21, 3) := by decide +kernel
theorem dX0_weigh_8 : decode cX0_weigh 8 = .ok (.if_icmp .lt 25, 3) := by decide +kernel
theorem dX0_weigh_11 : decode cX0_weigh 11 = .ok (.aload_n 2, 1) := by decide +kernel
theorem dX0_weigh_12 : decode cX0_weigh 12 = .ok (.getfield 15, 3) := by decide +kernel
theorem dX0_weigh_15 : decode cX0_weigh 15 = .ok (.aload_n 0, 1) := by decide +kernel
theorem dX0_weigh_16 : decode cX0_weigh 16 = .ok (.getfield 21, 3) := by decide +kernel
theorem dX0_weigh_19 : decode cX0_weigh 19 = .ok (.if_icmp .ne 20, 3) := by decide +kernel
theorem dX0_weigh_22 : decode cX0_weigh 22 = .ok (.aload_n 2, 1) := by decide +kernel
theorem dX0_weigh_23 : decode cX0_weigh 23 = .ok (.getfield 22, 3) := by decide +kernel
theorem dX0_weigh_26 : decode cX0_weigh 26 = .ok (.aload_n 0, 1) := by decide +kernel
theorem dX0_weigh_27 : decode cX0_weigh 27 = .ok (.getfield 25, 3) := by decide +kernel
theorem dX0_weigh_30 : decode cX0_weigh 30 = .ok (.if_icmp .le 9, 3) := by decide +kernel
theorem dX0_weigh_33 : decode cX0_weigh 33 = .ok (.aload_n 0, 1) := by decide +kernel
theorem dX0_weigh_34 : decode cX0_weigh 34 = .ok (.iload_n 1, 1) := by decide +kernel
theorem dX0_weigh_35 : decode cX0_weigh 35 = .ok (.aload_n 2, 1) := by decide +kernel
theorem dX0_weigh_36 : decode cX0_weigh 36 = .ok (.invokevirtual 9, 3) := by decide +kernel
theorem dX0_weigh_39 : decode cX0_weigh 39 = .ok (.return_, 1) := by decide +kernel
theorem dX3_doesIn_0 : decode cX3_doesIn 0 = .ok (.iload_n 0, 1) := by decide +kernel
theorem dX3_doesIn_1 : decode cX3_doesIn 1 = .ok (.tableswitch 74 1 5 #[35, 41, 45, 54, 60], 35) := by decide +kernel
theorem dX3_doesIn_36 : decode cX3_doesIn 36 = .ok (.iload_n 1, 1) := by decide +kernel
theorem dX3_doesIn_37 : decode cX3_doesIn 37 = .ok (.iload_n 2, 1) := by decide +kernel
theorem dX3_doesIn_38 : decode cX3_doesIn 38 = .ok (.invokestatic 13, 3) := by decide +kernel
theorem dX3_doesIn_41 : decode cX3_doesIn 41 = .ok (.ireturn, 1) := by decide +kernel
theorem dX3_doesIn_42 : decode cX3_doesIn 42 = .ok (.iload_n 2, 1) := by decide +kernel
theorem dX3_doesIn_43 : decode cX3_doesIn 43 = .ok (.iload_n 3, 1) := by decide +kernel
theorem dX3_doesIn_44 : decode cX3_doesIn 44 = .ok (.iadd, 1) := by decide +kernel
theorem dX3_doesIn_45 : decode cX3_doesIn 45 = .ok (.ireturn, 1) := by decide +kernel
theorem dX3_doesIn_46 : decode cX3_doesIn 46 = .ok (.bipush 99, 2) := by decide +kernel
theorem dX3_doesIn_48 : decode cX3_doesIn 48 = .ok (.iload_n 1, 1) := by decide +kernel
theorem dX3_doesIn_49 : decode cX3_doesIn 49 = .ok (.iload_n 2, 1) := by decide +kernel
theorem dX3_doesIn_50 : decode cX3_doesIn 50 = .ok (.invokestatic 13, 3) := by decide +kernel
theorem dX3_doesIn_53 : decode cX3_doesIn 53 = .ok (.isub, 1) := by decide +kernel
theorem dX3_doesIn_54 : decode cX3_doesIn 54 = .ok (.ireturn, 1) := by decide +kernel
theorem dX3_doesIn_55 : decode cX3_doesIn 55 = .ok (.iload_n 2, 1) := by decide +kernel
theorem dX3_doesIn_56 : decode cX3_doesIn 56 = .ok (.iload_n 3, 1) := by decide +kernel
theorem dX3_doesIn_57 : decode cX3_doesIn 57 = .ok (.iadd, 1) := by decide +kernel
theorem dX3_doesIn_58 : decode cX3_doesIn 58 = .ok (.iload_n 1, 1) := by decide +kernel
theorem dX3_doesIn_59 : decode cX3_doesIn 59 = .ok (.isub, 1) := by decide +kernel
theorem dX3_doesIn_60 : decode cX3_doesIn 60 = .ok (.ireturn, 1) := by decide +kernel
theorem dX3_doesIn_61 : decode cX3_doesIn 61 = .ok (.bipush 7, 2) := by decide +kernel
theorem dX3_doesIn_63 : decode cX3_doesIn 63 = .ok (.iload_n 1, 1) := by decide +kernel
theorem dX3_doesIn_64 : decode cX3_doesIn 64 = .ok (.imul, 1) := by decide +kernel
theorem dX3_doesIn_65 : decode cX3_doesIn 65 = .ok (.iconst 3, 1) := by decide +kernel
theorem dX3_doesIn_66 : decode cX3_doesIn 66 = .ok (.iload_n 2, 1) := by decide +kernel
theorem dX3_doesIn_67 : decode cX3_doesIn 67 = .ok (.imul, 1) := by decide +kernel
theorem dX3_doesIn_68 : decode cX3_doesIn 68 = .ok (.iadd, 1) := by decide +kernel
theorem dX3_doesIn_69 : decode cX3_doesIn 69 = .ok (.iload_n 3, 1) := by decide +kernel
theorem dX3_doesIn_70 : decode cX3_doesIn 70 = .ok (.iadd, 1) := by decide +kernel
theorem dX3_doesIn_71 : decode cX3_doesIn 71 = .ok (.bipush 31, 2) := by decide +kernel
theorem dX3_doesIn_73 : decode cX3_doesIn 73 = .ok (.irem, 1) := by decide +kernel
theorem dX3_doesIn_74 : decode cX3_doesIn 74 = .ok (.ireturn, 1) := by decide +kernel
theorem dX3_doesIn_75 : decode cX3_doesIn 75 = .ok (.iload_n 1, 1) := by decide +kernel
theorem dX3_doesIn_76 : decode cX3_doesIn 76 = .ok (.ireturn, 1) := by decide +kernel
theorem dX3_inSack_0 : decode cX3_inSack 0 = .ok (.iload_n 0, 1) := by decide +kernel
theorem dX3_inSack_1 : decode cX3_inSack 1 = .ok (.iconst 2, 1) := by decide +kernel
theorem dX3_inSack_2 : decode cX3_inSack 2 = .ok (.idiv, 1) := by decide +kernel
theorem dX3_inSack_3 : decode cX3_inSack 3 = .ok (.iload_n 1, 1) := by decide +kernel
theorem dX3_inSack_4 : decode cX3_inSack 4 = .ok (.iadd, 1) := by decide +kernel
theorem dX3_inSack_5 : decode cX3_inSack 5 = .ok (.ireturn, 1) := by decide +kernel
theorem dX3_isOne_0 : decode cX3_isOne 0 = .ok (.iload_n 0, 1) := by decide +kernel
theorem dX3_isOne_1 : decode cX3_isOne 1 = .ok (.istore_n 2, 1) := by decide +kernel
theorem dX3_isOne_2 : decode cX3_isOne 2 = .ok (.iconst 0, 1) := by decide +kernel
theorem dX3_isOne_3 : decode cX3_isOne 3 = .ok (.istore_n 3, 1) := by decide +kernel
theorem dX3_isOne_4 : decode cX3_isOne 4 = .ok (.iload_n 3, 1) := by decide +kernel
theorem dX3_isOne_5 : decode cX3_isOne 5 = .ok (.iconst 5, 1) := by decide +kernel
theorem dX3_isOne_6 : decode cX3_isOne 6 = .ok (.if_icmp .gt 38, 3) := by decide +kernel
theorem dX3_isOne_9 : decode cX3_isOne 9 = .ok (.iload_n 2, 1) := by decide +kernel
theorem dX3_isOne_10 : decode cX3_isOne 10 = .ok (.ifCond .lt 34, 3) := by decide +kernel
theorem dX3_isOne_13 : decode cX3_isOne 13 = .ok (.iload_n 2, 1) := by decide +kernel
theorem dX3_isOne_14 : decode cX3_isOne 14 = .ok (.iload_n 1, 1) := by decide +kernel
theorem dX3_isOne_15 : decode cX3_isOne 15 = .ok (.if_icmp .ne 5, 3) := by decide +kernel
theorem dX3_isOne_18 : decode cX3_isOne 18 = .ok (.iconst 1, 1) := by decide +kernel
theorem dX3_isOne_19 : decode cX3_isOne 19 = .ok (.ireturn, 1) := by decide +kernel
theorem dX3_isOne_20 : decode cX3_isOne 20 = .ok (.iload_n 2, 1) := by decide +kernel
theorem dX3_isOne_21 : decode cX3_isOne 21 = .ok (.getstatic 9, 3) := by decide +kernel
theorem dX3_isOne_24 : decode cX3_isOne 24 = .ok (.arraylength, 1) := by decide +kernel
theorem dX3_isOne_25 : decode cX3_isOne 25 = .ok (.if_icmp .ge 11, 3) := by decide +kernel
theorem dX3_isOne_28 : decode cX3_isOne 28 = .ok (.getstatic 9, 3) := by decide +kernel
theorem dX3_isOne_31 : decode cX3_isOne 31 = .ok (.iload_n 2, 1) := by decide +kernel
theorem dX3_isOne_32 : decode cX3_isOne 32 = .ok (.iaload, 1) := by decide +kernel
theorem dX3_isOne_33 : decode cX3_isOne 33 = .ok (.goto 4, 3) := by decide +kernel
theorem dX3_isOne_36 : decode cX3_isOne 36 = .ok (.iconst (-1), 1) := by decide +kernel
theorem dX3_isOne_37 : decode cX3_isOne 37 = .ok (.istore_n 2, 1) := by decide +kernel
theorem dX3_isOne_38 : decode cX3_isOne 38 = .ok (.iinc 3 1, 3) := by decide +kernel
theorem dX3_isOne_41 : decode cX3_isOne 41 = .ok (.goto (-37), 3) := by decide +kernel
theorem dX3_isOne_44 : decode cX3_isOne 44 = .ok (.iconst 0, 1) := by decide +kernel
theorem dX3_isOne_45 : decode cX3_isOne 45 = .ok (.ireturn, 1) := by decide +kernel
theorem dX3_ribbonsIn_0 : decode cX3_ribbonsIn 0 = .ok (.iload_n 0, 1) := by decide +kernel
theorem dX3_ribbonsIn_1 : decode cX3_ribbonsIn 1 = .ok (.iconst 2, 1) := by decide +kernel
theorem dX3_ribbonsIn_2 : decode cX3_ribbonsIn 2 = .ok (.invokestatic 17, 3) := by decide +kernel
theorem dX3_ribbonsIn_5 : decode cX3_ribbonsIn 5 = .ok (.ifCond .eq 10, 3) := by decide +kernel
theorem dX3_ribbonsIn_8 : decode cX3_ribbonsIn 8 = .ok (.iload_n 2, 1) := by decide +kernel
theorem dX3_ribbonsIn_9 : decode cX3_ribbonsIn 9 = .ok (.iconst 3, 1) := by decide +kernel
theorem dX3_ribbonsIn_10 : decode cX3_ribbonsIn 10 = .ok (.if_icmp .ge 5, 3) := by decide +kernel
theorem dX3_ribbonsIn_13 : decode cX3_ribbonsIn 13 = .ok (.iconst 1, 1) := by decide +kernel
theorem dX3_ribbonsIn_14 : decode cX3_ribbonsIn 14 = .ok (.ireturn, 1) := by decide +kernel
theorem dX3_ribbonsIn_15 : decode cX3_ribbonsIn 15 = .ok (.iload_n 0, 1) := by decide +kernel
theorem dX3_ribbonsIn_16 : decode cX3_ribbonsIn 16 = .ok (.iconst 5, 1) := by decide +kernel
theorem dX3_ribbonsIn_17 : decode cX3_ribbonsIn 17 = .ok (.if_icmp .ne 9, 3) := by decide +kernel
theorem dX3_ribbonsIn_20 : decode cX3_ribbonsIn 20 = .ok (.iload_n 2, 1) := by decide +kernel
theorem dX3_ribbonsIn_21 : decode cX3_ribbonsIn 21 = .ok (.iconst 2, 1) := by decide +kernel
theorem dX3_ribbonsIn_22 : decode cX3_ribbonsIn 22 = .ok (.idiv, 1) := by decide +kernel
theorem dX3_ribbonsIn_23 : decode cX3_ribbonsIn 23 = .ok (.goto 4, 3) := by decide +kernel
theorem dX3_ribbonsIn_26 : decode cX3_ribbonsIn 26 = .ok (.iload_n 1, 1) := by decide +kernel
theorem dX3_ribbonsIn_27 : decode cX3_ribbonsIn 27 = .ok (.ireturn, 1) := by decide +kernel
theorem dX3_yardsCountIn_0 : decode cX3_yardsCountIn 0 = .ok (.iload_n 0, 1) := by decide +kernel
theorem dX3_yardsCountIn_1 : decode cX3_yardsCountIn 1 = .ok (.lookupswitch 36 #[(3, 27), (4, 33)], 27) := by decide +kernel
theorem dX3_yardsCountIn_28 : decode cX3_yardsCountIn 28 = .ok (.iload_n 1, 1) := by decide +kernel
theorem dX3_yardsCountIn_29 : decode cX3_yardsCountIn 29 = .ok (.iload_n 2, 1) := by decide +kernel
theorem dX3_yardsCountIn_30 : decode cX3_yardsCountIn 30 = .ok (.imul, 1) := by decide +kernel
theorem dX3_yardsCountIn_31 : decode cX3_yardsCountIn 31 = .ok (.iconst 2, 1) := by decide +kernel
theorem dX3_yardsCountIn_32 : decode cX3_yardsCountIn 32 = .ok (.idiv, 1) := by decide +kernel
theorem dX3_yardsCountIn_33 : decode cX3_yardsCountIn 33 = .ok (.ireturn, 1) := by decide +kernel
theorem dX3_yardsCountIn_34 : decode cX3_yardsCountIn 34 = .ok (.iload_n 1, 1) := by decide +kernel
theorem dX3_yardsCountIn_35 : decode cX3_yardsCountIn 35 = .ok (.ineg, 1) := by decide +kernel
theorem dX3_yardsCountIn_36 : decode cX3_yardsCountIn 36 = .ok (.ireturn, 1) := by decide +kernel
theorem dX3_yardsCountIn_37 : decode cX3_yardsCountIn 37 = .ok (.iload_n 1, 1) := by decide +kernel
theorem dX3_yardsCountIn_38 : decode cX3_yardsCountIn 38 = .ok (.ireturn, 1) := by decide +kernel
