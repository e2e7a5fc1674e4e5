/-! more words: the law's calls, the reference's constructor -/
set_option maxRecDepth 100000
def lmd_0 : List (Nat × Cond) := [(95, Cond.methodLink "EveryoneWinsLaw" 9 yX11_init), (1048, Cond.methodLink "EveryoneWinsLaw" 12 yX12_init), (1051, Cond.methodLink "EveryoneWinsModel" 1 Lib.objectInit), (1117, Cond.fieldLink "EveryoneWinsModel" 46 "EveryoneWinsModel" "law" "[I")]
theorem md_0 : okw lmd_0 = true := by decide +kernel
theorem wd_95 : Cond.methodLink "EveryoneWinsLaw" 9 yX11_init ∈ gtbl := okw_at md_0 0 rfl
theorem wd_1048 : Cond.methodLink "EveryoneWinsLaw" 12 yX12_init ∈ gtbl := okw_at md_0 1 rfl
theorem wd_1051 : Cond.methodLink "EveryoneWinsModel" 1 Lib.objectInit ∈ gtbl := okw_at md_0 2 rfl
theorem wd_1117 : Cond.fieldLink "EveryoneWinsModel" 46 "EveryoneWinsModel" "law" "[I" ∈ gtbl := okw_at md_0 3 rfl
def lme_0 : List (Nat × Cond) := [(630, Cond.methodLink "EveryoneWinsLaw" 13 yX11_count), (631, Cond.instanceMethod yX11_count), (632, Cond.selects "EveryoneWins" yX11_count yX11_count), (633, Cond.code yX11_count prog_1_method_2_code 2 (Option.some Jvm.ClassFile.FieldType.int)), (634, Cond.methodLink "EveryoneWinsLaw" 18 yX11_child), (646, Cond.methodLink "EveryoneWinsLaw" 22 yX11_put), (647, Cond.instanceMethod yX11_put), (648, Cond.selects "EveryoneWins" yX11_put yX11_put), (649, Cond.code yX11_put prog_1_method_4_code 4 (Option.some Jvm.ClassFile.FieldType.int)), (663, Cond.methodLink "EveryoneWinsLaw" 27 yX11_told), (664, Cond.instanceMethod yX11_told), (665, Cond.selects "EveryoneWins" yX11_told yX11_told), (666, Cond.code yX11_told prog_1_method_5_code 3 (Option.some Jvm.ClassFile.FieldType.int)), (667, Cond.methodLink "EveryoneWinsLaw" 32 yX11_feed), (668, Cond.instanceMethod yX11_feed), (669, Cond.selects "EveryoneWins" yX11_feed yX11_feed), (670, Cond.code yX11_feed prog_1_method_6_code 8 (Option.some Jvm.ClassFile.FieldType.int)), (674, Cond.methodLink "EveryoneWinsLaw" 37 yX11_text), (675, Cond.instanceMethod yX11_text), (676, Cond.selects "EveryoneWins" yX11_text yX11_text), (677, Cond.code yX11_text prog_1_method_7_code 1 (Option.some Jvm.ClassFile.FieldType.int)), (678, Cond.methodLink "EveryoneWinsLaw" 42 yX11_force), (679, Cond.instanceMethod yX11_force), (680, Cond.selects "EveryoneWins" yX11_force yX11_force), (681, Cond.code yX11_force prog_1_method_8_code 3 (Option.some Jvm.ClassFile.FieldType.int)), (682, Cond.methodLink "EveryoneWinsLaw" 46 yX11_asks), (683, Cond.instanceMethod yX11_asks), (684, Cond.selects "EveryoneWins" yX11_asks yX11_asks), (685, Cond.code yX11_asks prog_1_method_9_code 6 (Option.some Jvm.ClassFile.FieldType.int)), (733, Cond.methodLink "EveryoneWinsLaw" 51 yX11_race), (734, Cond.instanceMethod yX11_race), (735, Cond.selects "EveryoneWins" yX11_race yX11_race), (736, Cond.code yX11_race prog_1_method_10_code 3 (Option.some Jvm.ClassFile.FieldType.int)), (746, Cond.methodLink "EveryoneWinsLaw" 55 yX11_enter), (747, Cond.instanceMethod yX11_enter), (748, Cond.selects "EveryoneWins" yX11_enter yX11_enter), (749, Cond.code yX11_enter prog_1_method_11_code 4 (Option.some Jvm.ClassFile.FieldType.int)), (750, Cond.methodLink "EveryoneWinsLaw" 59 yX11_card), (751, Cond.instanceMethod yX11_card), (752, Cond.selects "EveryoneWins" yX11_card yX11_card), (753, Cond.code yX11_card prog_1_method_12_code 3 (Option.some Jvm.ClassFile.FieldType.int)), (758, Cond.methodLink "EveryoneWinsLaw" 63 yX11_comes), (759, Cond.instanceMethod yX11_comes), (760, Cond.selects "EveryoneWins" yX11_comes yX11_comes), (761, Cond.code yX11_comes prog_1_method_13_code 3 (Option.some Jvm.ClassFile.FieldType.int)), (792, Cond.methodLink "EveryoneWinsLaw" 67 yX11_does), (793, Cond.instanceMethod yX11_does), (794, Cond.selects "EveryoneWins" yX11_does yX11_does), (795, Cond.code yX11_does prog_1_method_14_code 3 (Option.some Jvm.ClassFile.FieldType.int)), (797, Cond.methodLink "EveryoneWinsLaw" 71 yX11_day), (798, Cond.instanceMethod yX11_day), (799, Cond.selects "EveryoneWins" yX11_day yX11_day), (800, Cond.code yX11_day prog_1_method_15_code 2 (Option.some Jvm.ClassFile.FieldType.int)), (827, Cond.methodLink "EveryoneWinsLaw" 75 yX11_let), (828, Cond.instanceMethod yX11_let), (829, Cond.selects "EveryoneWins" yX11_let yX11_let), (830, Cond.code yX11_let prog_1_method_16_code 2 (Option.some Jvm.ClassFile.FieldType.int)), (852, Cond.methodLink "EveryoneWinsLaw" 79 yX11_spare), (853, Cond.instanceMethod yX11_spare), (854, Cond.selects "EveryoneWins" yX11_spare yX11_spare)]
theorem me_0 : okw lme_0 = true := by decide +kernel
theorem wd_630 : Cond.methodLink "EveryoneWinsLaw" 13 yX11_count ∈ gtbl := okw_at me_0 0 rfl
theorem wd_631 : Cond.instanceMethod yX11_count ∈ gtbl := okw_at me_0 1 rfl
theorem wd_632 : Cond.selects "EveryoneWins" yX11_count yX11_count ∈ gtbl := okw_at me_0 2 rfl
theorem wd_633 : Cond.code yX11_count prog_1_method_2_code 2 (Option.some Jvm.ClassFile.FieldType.int) ∈ gtbl := okw_at me_0 3 rfl
theorem wd_634 : Cond.methodLink "EveryoneWinsLaw" 18 yX11_child ∈ gtbl := okw_at me_0 4 rfl
theorem wd_646 : Cond.methodLink "EveryoneWinsLaw" 22 yX11_put ∈ gtbl := okw_at me_0 5 rfl
theorem wd_647 : Cond.instanceMethod yX11_put ∈ gtbl := okw_at me_0 6 rfl
theorem wd_648 : Cond.selects "EveryoneWins" yX11_put yX11_put ∈ gtbl := okw_at me_0 7 rfl
theorem wd_649 : Cond.code yX11_put prog_1_method_4_code 4 (Option.some Jvm.ClassFile.FieldType.int) ∈ gtbl := okw_at me_0 8 rfl
theorem wd_663 : Cond.methodLink "EveryoneWinsLaw" 27 yX11_told ∈ gtbl := okw_at me_0 9 rfl
theorem wd_664 : Cond.instanceMethod yX11_told ∈ gtbl := okw_at me_0 10 rfl
theorem wd_665 : Cond.selects "EveryoneWins" yX11_told yX11_told ∈ gtbl := okw_at me_0 11 rfl
theorem wd_666 : Cond.code yX11_told prog_1_method_5_code 3 (Option.some Jvm.ClassFile.FieldType.int) ∈ gtbl := okw_at me_0 12 rfl
theorem wd_667 : Cond.methodLink "EveryoneWinsLaw" 32 yX11_feed ∈ gtbl := okw_at me_0 13 rfl
theorem wd_668 : Cond.instanceMethod yX11_feed ∈ gtbl := okw_at me_0 14 rfl
theorem wd_669 : Cond.selects "EveryoneWins" yX11_feed yX11_feed ∈ gtbl := okw_at me_0 15 rfl
theorem wd_670 : Cond.code yX11_feed prog_1_method_6_code 8 (Option.some Jvm.ClassFile.FieldType.int) ∈ gtbl := okw_at me_0 16 rfl
theorem wd_674 : Cond.methodLink "EveryoneWinsLaw" 37 yX11_text ∈ gtbl := okw_at me_0 17 rfl
theorem wd_675 : Cond.instanceMethod yX11_text ∈ gtbl := okw_at me_0 18 rfl
theorem wd_676 : Cond.selects "EveryoneWins" yX11_text yX11_text ∈ gtbl := okw_at me_0 19 rfl
theorem wd_677 : Cond.code yX11_text prog_1_method_7_code 1 (Option.some Jvm.ClassFile.FieldType.int) ∈ gtbl := okw_at me_0 20 rfl
theorem wd_678 : Cond.methodLink "EveryoneWinsLaw" 42 yX11_force ∈ gtbl := okw_at me_0 21 rfl
theorem wd_679 : Cond.instanceMethod yX11_force ∈ gtbl := okw_at me_0 22 rfl
theorem wd_680 : Cond.selects "EveryoneWins" yX11_force yX11_force ∈ gtbl := okw_at me_0 23 rfl
theorem wd_681 : Cond.code yX11_force prog_1_method_8_code 3 (Option.some Jvm.ClassFile.FieldType.int) ∈ gtbl := okw_at me_0 24 rfl
theorem wd_682 : Cond.methodLink "EveryoneWinsLaw" 46 yX11_asks ∈ gtbl := okw_at me_0 25 rfl
theorem wd_683 : Cond.instanceMethod yX11_asks ∈ gtbl := okw_at me_0 26 rfl
theorem wd_684 : Cond.selects "EveryoneWins" yX11_asks yX11_asks ∈ gtbl := okw_at me_0 27 rfl
theorem wd_685 : Cond.code yX11_asks prog_1_method_9_code 6 (Option.some Jvm.ClassFile.FieldType.int) ∈ gtbl := okw_at me_0 28 rfl
theorem wd_733 : Cond.methodLink "EveryoneWinsLaw" 51 yX11_race ∈ gtbl := okw_at me_0 29 rfl
theorem wd_734 : Cond.instanceMethod yX11_race ∈ gtbl := okw_at me_0 30 rfl
theorem wd_735 : Cond.selects "EveryoneWins" yX11_race yX11_race ∈ gtbl := okw_at me_0 31 rfl
theorem wd_736 : Cond.code yX11_race prog_1_method_10_code 3 (Option.some Jvm.ClassFile.FieldType.int) ∈ gtbl := okw_at me_0 32 rfl
theorem wd_746 : Cond.methodLink "EveryoneWinsLaw" 55 yX11_enter ∈ gtbl := okw_at me_0 33 rfl
theorem wd_747 : Cond.instanceMethod yX11_enter ∈ gtbl := okw_at me_0 34 rfl
theorem wd_748 : Cond.selects "EveryoneWins" yX11_enter yX11_enter ∈ gtbl := okw_at me_0 35 rfl
theorem wd_749 : Cond.code yX11_enter prog_1_method_11_code 4 (Option.some Jvm.ClassFile.FieldType.int) ∈ gtbl := okw_at me_0 36 rfl
theorem wd_750 : Cond.methodLink "EveryoneWinsLaw" 59 yX11_card ∈ gtbl := okw_at me_0 37 rfl
theorem wd_751 : Cond.instanceMethod yX11_card ∈ gtbl := okw_at me_0 38 rfl
theorem wd_752 : Cond.selects "EveryoneWins" yX11_card yX11_card ∈ gtbl := okw_at me_0 39 rfl
theorem wd_753 : Cond.code yX11_card prog_1_method_12_code 3 (Option.some Jvm.ClassFile.FieldType.int) ∈ gtbl := okw_at me_0 40 rfl
theorem wd_758 : Cond.methodLink "EveryoneWinsLaw" 63 yX11_comes ∈ gtbl := okw_at me_0 41 rfl
theorem wd_759 : Cond.instanceMethod yX11_comes ∈ gtbl := okw_at me_0 42 rfl
theorem wd_760 : Cond.selects "EveryoneWins" yX11_comes yX11_comes ∈ gtbl := okw_at me_0 43 rfl
theorem wd_761 : Cond.code yX11_comes prog_1_method_13_code 3 (Option.some Jvm.ClassFile.FieldType.int) ∈ gtbl := okw_at me_0 44 rfl
theorem wd_792 : Cond.methodLink "EveryoneWinsLaw" 67 yX11_does ∈ gtbl := okw_at me_0 45 rfl
theorem wd_793 : Cond.instanceMethod yX11_does ∈ gtbl := okw_at me_0 46 rfl
theorem wd_794 : Cond.selects "EveryoneWins" yX11_does yX11_does ∈ gtbl := okw_at me_0 47 rfl
theorem wd_795 : Cond.code yX11_does prog_1_method_14_code 3 (Option.some Jvm.ClassFile.FieldType.int) ∈ gtbl := okw_at me_0 48 rfl
theorem wd_797 : Cond.methodLink "EveryoneWinsLaw" 71 yX11_day ∈ gtbl := okw_at me_0 49 rfl
theorem wd_798 : Cond.instanceMethod yX11_day ∈ gtbl := okw_at me_0 50 rfl
theorem wd_799 : Cond.selects "EveryoneWins" yX11_day yX11_day ∈ gtbl := okw_at me_0 51 rfl
theorem wd_800 : Cond.code yX11_day prog_1_method_15_code 2 (Option.some Jvm.ClassFile.FieldType.int) ∈ gtbl := okw_at me_0 52 rfl
theorem wd_827 : Cond.methodLink "EveryoneWinsLaw" 75 yX11_let ∈ gtbl := okw_at me_0 53 rfl
theorem wd_828 : Cond.instanceMethod yX11_let ∈ gtbl := okw_at me_0 54 rfl
theorem wd_829 : Cond.selects "EveryoneWins" yX11_let yX11_let ∈ gtbl := okw_at me_0 55 rfl
theorem wd_830 : Cond.code yX11_let prog_1_method_16_code 2 (Option.some Jvm.ClassFile.FieldType.int) ∈ gtbl := okw_at me_0 56 rfl
theorem wd_852 : Cond.methodLink "EveryoneWinsLaw" 79 yX11_spare ∈ gtbl := okw_at me_0 57 rfl
theorem wd_853 : Cond.instanceMethod yX11_spare ∈ gtbl := okw_at me_0 58 rfl
theorem wd_854 : Cond.selects "EveryoneWins" yX11_spare yX11_spare ∈ gtbl := okw_at me_0 59 rfl
def lme_60 : List (Nat × Cond) := [(855, Cond.code yX11_spare prog_1_method_17_code 2 (Option.some Jvm.ClassFile.FieldType.int)), (856, Cond.methodLink "EveryoneWinsLaw" 83 yX11_drop), (857, Cond.instanceMethod yX11_drop), (858, Cond.selects "EveryoneWins" yX11_drop yX11_drop), (859, Cond.code yX11_drop prog_1_method_18_code 3 (Option.some Jvm.ClassFile.FieldType.int)), (861, Cond.methodLink "EveryoneWinsLaw" 87 yX11_order), (862, Cond.instanceMethod yX11_order), (863, Cond.selects "EveryoneWins" yX11_order yX11_order), (864, Cond.code yX11_order prog_1_method_19_code 2 (Option.some Jvm.ClassFile.FieldType.int)), (900, Cond.methodLink "EveryoneWinsLaw" 91 yX11_tie), (901, Cond.instanceMethod yX11_tie), (902, Cond.selects "EveryoneWins" yX11_tie yX11_tie), (903, Cond.code yX11_tie prog_1_method_20_code 5 (Option.some Jvm.ClassFile.FieldType.int)), (904, Cond.methodLink "EveryoneWinsLaw" 95 yX11_needs), (905, Cond.instanceMethod yX11_needs), (906, Cond.selects "EveryoneWins" yX11_needs yX11_needs), (907, Cond.code yX11_needs prog_1_method_21_code 6 (Option.some Jvm.ClassFile.FieldType.int)), (908, Cond.methodLink "EveryoneWinsLaw" 99 yX11_judge), (909, Cond.instanceMethod yX11_judge), (910, Cond.selects "EveryoneWins" yX11_judge yX11_judge), (911, Cond.code yX11_judge prog_1_method_22_code 4 (Option.some Jvm.ClassFile.FieldType.int)), (933, Cond.methodLink "EveryoneWinsLaw" 103 yX11_kinds), (934, Cond.instanceMethod yX11_kinds), (935, Cond.selects "EveryoneWins" yX11_kinds yX11_kinds), (936, Cond.code yX11_kinds prog_1_method_23_code 6 (Option.some Jvm.ClassFile.FieldType.int)), (941, Cond.methodLink "EveryoneWinsLaw" 107 yX11_quick), (942, Cond.instanceMethod yX11_quick), (943, Cond.selects "EveryoneWins" yX11_quick yX11_quick), (944, Cond.code yX11_quick prog_1_method_24_code 6 (Option.some Jvm.ClassFile.FieldType.int)), (945, Cond.methodLink "EveryoneWinsLaw" 111 yX11_laws), (946, Cond.instanceMethod yX11_laws), (947, Cond.selects "EveryoneWins" yX11_laws yX11_laws), (948, Cond.code yX11_laws prog_1_method_25_code 7 (Option.some Jvm.ClassFile.FieldType.int)), (949, Cond.methodLink "EveryoneWinsLaw" 115 yX11_film), (950, Cond.instanceMethod yX11_film), (951, Cond.selects "EveryoneWins" yX11_film yX11_film), (952, Cond.code yX11_film prog_1_method_26_code 4 (Option.some Jvm.ClassFile.FieldType.int)), (962, Cond.methodLink "EveryoneWinsLaw" 119 yX11_drawn), (963, Cond.instanceMethod yX11_drawn), (964, Cond.selects "EveryoneWins" yX11_drawn yX11_drawn), (965, Cond.code yX11_drawn prog_1_method_27_code 3 (Option.some Jvm.ClassFile.FieldType.int)), (983, Cond.methodLink "EveryoneWinsLaw" 123 yX11_odds), (984, Cond.instanceMethod yX11_odds), (985, Cond.selects "EveryoneWins" yX11_odds yX11_odds), (986, Cond.code yX11_odds prog_1_method_28_code 8 (Option.some Jvm.ClassFile.FieldType.long)), (991, Cond.methodLink "EveryoneWinsLaw" 128 yX11_image), (992, Cond.instanceMethod yX11_image), (993, Cond.selects "EveryoneWins" yX11_image yX11_image), (994, Cond.code yX11_image prog_1_method_29_code 1 (Option.some Jvm.ClassFile.FieldType.int)), (1005, Cond.methodLink "EveryoneWinsLaw" 132 yX11_back), (1006, Cond.instanceMethod yX11_back), (1007, Cond.selects "EveryoneWins" yX11_back yX11_back), (1008, Cond.code yX11_back prog_1_method_30_code 1 (Option.some Jvm.ClassFile.FieldType.int)), (1009, Cond.methodLink "EveryoneWinsLaw" 136 yX11_sheet), (1010, Cond.instanceMethod yX11_sheet), (1011, Cond.selects "EveryoneWins" yX11_sheet yX11_sheet), (1012, Cond.code yX11_sheet prog_1_method_31_code 5 (Option.some Jvm.ClassFile.FieldType.int)), (1017, Cond.methodLink "EveryoneWinsLaw" 140 yX11_cell), (1018, Cond.instanceMethod yX11_cell), (1019, Cond.selects "EveryoneWins" yX11_cell yX11_cell)]
theorem me_60 : okw lme_60 = true := by decide +kernel
theorem wd_855 : Cond.code yX11_spare prog_1_method_17_code 2 (Option.some Jvm.ClassFile.FieldType.int) ∈ gtbl := okw_at me_60 0 rfl
theorem wd_856 : Cond.methodLink "EveryoneWinsLaw" 83 yX11_drop ∈ gtbl := okw_at me_60 1 rfl
theorem wd_857 : Cond.instanceMethod yX11_drop ∈ gtbl := okw_at me_60 2 rfl
theorem wd_858 : Cond.selects "EveryoneWins" yX11_drop yX11_drop ∈ gtbl := okw_at me_60 3 rfl
theorem wd_859 : Cond.code yX11_drop prog_1_method_18_code 3 (Option.some Jvm.ClassFile.FieldType.int) ∈ gtbl := okw_at me_60 4 rfl
theorem wd_861 : Cond.methodLink "EveryoneWinsLaw" 87 yX11_order ∈ gtbl := okw_at me_60 5 rfl
theorem wd_862 : Cond.instanceMethod yX11_order ∈ gtbl := okw_at me_60 6 rfl
theorem wd_863 : Cond.selects "EveryoneWins" yX11_order yX11_order ∈ gtbl := okw_at me_60 7 rfl
theorem wd_864 : Cond.code yX11_order prog_1_method_19_code 2 (Option.some Jvm.ClassFile.FieldType.int) ∈ gtbl := okw_at me_60 8 rfl
theorem wd_900 : Cond.methodLink "EveryoneWinsLaw" 91 yX11_tie ∈ gtbl := okw_at me_60 9 rfl
theorem wd_901 : Cond.instanceMethod yX11_tie ∈ gtbl := okw_at me_60 10 rfl
theorem wd_902 : Cond.selects "EveryoneWins" yX11_tie yX11_tie ∈ gtbl := okw_at me_60 11 rfl
theorem wd_903 : Cond.code yX11_tie prog_1_method_20_code 5 (Option.some Jvm.ClassFile.FieldType.int) ∈ gtbl := okw_at me_60 12 rfl
theorem wd_904 : Cond.methodLink "EveryoneWinsLaw" 95 yX11_needs ∈ gtbl := okw_at me_60 13 rfl
theorem wd_905 : Cond.instanceMethod yX11_needs ∈ gtbl := okw_at me_60 14 rfl
theorem wd_906 : Cond.selects "EveryoneWins" yX11_needs yX11_needs ∈ gtbl := okw_at me_60 15 rfl
theorem wd_907 : Cond.code yX11_needs prog_1_method_21_code 6 (Option.some Jvm.ClassFile.FieldType.int) ∈ gtbl := okw_at me_60 16 rfl
theorem wd_908 : Cond.methodLink "EveryoneWinsLaw" 99 yX11_judge ∈ gtbl := okw_at me_60 17 rfl
theorem wd_909 : Cond.instanceMethod yX11_judge ∈ gtbl := okw_at me_60 18 rfl
theorem wd_910 : Cond.selects "EveryoneWins" yX11_judge yX11_judge ∈ gtbl := okw_at me_60 19 rfl
theorem wd_911 : Cond.code yX11_judge prog_1_method_22_code 4 (Option.some Jvm.ClassFile.FieldType.int) ∈ gtbl := okw_at me_60 20 rfl
theorem wd_933 : Cond.methodLink "EveryoneWinsLaw" 103 yX11_kinds ∈ gtbl := okw_at me_60 21 rfl
theorem wd_934 : Cond.instanceMethod yX11_kinds ∈ gtbl := okw_at me_60 22 rfl
theorem wd_935 : Cond.selects "EveryoneWins" yX11_kinds yX11_kinds ∈ gtbl := okw_at me_60 23 rfl
theorem wd_936 : Cond.code yX11_kinds prog_1_method_23_code 6 (Option.some Jvm.ClassFile.FieldType.int) ∈ gtbl := okw_at me_60 24 rfl
theorem wd_941 : Cond.methodLink "EveryoneWinsLaw" 107 yX11_quick ∈ gtbl := okw_at me_60 25 rfl
theorem wd_942 : Cond.instanceMethod yX11_quick ∈ gtbl := okw_at me_60 26 rfl
theorem wd_943 : Cond.selects "EveryoneWins" yX11_quick yX11_quick ∈ gtbl := okw_at me_60 27 rfl
theorem wd_944 : Cond.code yX11_quick prog_1_method_24_code 6 (Option.some Jvm.ClassFile.FieldType.int) ∈ gtbl := okw_at me_60 28 rfl
theorem wd_945 : Cond.methodLink "EveryoneWinsLaw" 111 yX11_laws ∈ gtbl := okw_at me_60 29 rfl
theorem wd_946 : Cond.instanceMethod yX11_laws ∈ gtbl := okw_at me_60 30 rfl
theorem wd_947 : Cond.selects "EveryoneWins" yX11_laws yX11_laws ∈ gtbl := okw_at me_60 31 rfl
theorem wd_948 : Cond.code yX11_laws prog_1_method_25_code 7 (Option.some Jvm.ClassFile.FieldType.int) ∈ gtbl := okw_at me_60 32 rfl
theorem wd_949 : Cond.methodLink "EveryoneWinsLaw" 115 yX11_film ∈ gtbl := okw_at me_60 33 rfl
theorem wd_950 : Cond.instanceMethod yX11_film ∈ gtbl := okw_at me_60 34 rfl
theorem wd_951 : Cond.selects "EveryoneWins" yX11_film yX11_film ∈ gtbl := okw_at me_60 35 rfl
theorem wd_952 : Cond.code yX11_film prog_1_method_26_code 4 (Option.some Jvm.ClassFile.FieldType.int) ∈ gtbl := okw_at me_60 36 rfl
theorem wd_962 : Cond.methodLink "EveryoneWinsLaw" 119 yX11_drawn ∈ gtbl := okw_at me_60 37 rfl
theorem wd_963 : Cond.instanceMethod yX11_drawn ∈ gtbl := okw_at me_60 38 rfl
theorem wd_964 : Cond.selects "EveryoneWins" yX11_drawn yX11_drawn ∈ gtbl := okw_at me_60 39 rfl
theorem wd_965 : Cond.code yX11_drawn prog_1_method_27_code 3 (Option.some Jvm.ClassFile.FieldType.int) ∈ gtbl := okw_at me_60 40 rfl
theorem wd_983 : Cond.methodLink "EveryoneWinsLaw" 123 yX11_odds ∈ gtbl := okw_at me_60 41 rfl
theorem wd_984 : Cond.instanceMethod yX11_odds ∈ gtbl := okw_at me_60 42 rfl
theorem wd_985 : Cond.selects "EveryoneWins" yX11_odds yX11_odds ∈ gtbl := okw_at me_60 43 rfl
theorem wd_986 : Cond.code yX11_odds prog_1_method_28_code 8 (Option.some Jvm.ClassFile.FieldType.long) ∈ gtbl := okw_at me_60 44 rfl
theorem wd_991 : Cond.methodLink "EveryoneWinsLaw" 128 yX11_image ∈ gtbl := okw_at me_60 45 rfl
theorem wd_992 : Cond.instanceMethod yX11_image ∈ gtbl := okw_at me_60 46 rfl
theorem wd_993 : Cond.selects "EveryoneWins" yX11_image yX11_image ∈ gtbl := okw_at me_60 47 rfl
theorem wd_994 : Cond.code yX11_image prog_1_method_29_code 1 (Option.some Jvm.ClassFile.FieldType.int) ∈ gtbl := okw_at me_60 48 rfl
theorem wd_1005 : Cond.methodLink "EveryoneWinsLaw" 132 yX11_back ∈ gtbl := okw_at me_60 49 rfl
theorem wd_1006 : Cond.instanceMethod yX11_back ∈ gtbl := okw_at me_60 50 rfl
theorem wd_1007 : Cond.selects "EveryoneWins" yX11_back yX11_back ∈ gtbl := okw_at me_60 51 rfl
theorem wd_1008 : Cond.code yX11_back prog_1_method_30_code 1 (Option.some Jvm.ClassFile.FieldType.int) ∈ gtbl := okw_at me_60 52 rfl
theorem wd_1009 : Cond.methodLink "EveryoneWinsLaw" 136 yX11_sheet ∈ gtbl := okw_at me_60 53 rfl
theorem wd_1010 : Cond.instanceMethod yX11_sheet ∈ gtbl := okw_at me_60 54 rfl
theorem wd_1011 : Cond.selects "EveryoneWins" yX11_sheet yX11_sheet ∈ gtbl := okw_at me_60 55 rfl
theorem wd_1012 : Cond.code yX11_sheet prog_1_method_31_code 5 (Option.some Jvm.ClassFile.FieldType.int) ∈ gtbl := okw_at me_60 56 rfl
theorem wd_1017 : Cond.methodLink "EveryoneWinsLaw" 140 yX11_cell ∈ gtbl := okw_at me_60 57 rfl
theorem wd_1018 : Cond.instanceMethod yX11_cell ∈ gtbl := okw_at me_60 58 rfl
theorem wd_1019 : Cond.selects "EveryoneWins" yX11_cell yX11_cell ∈ gtbl := okw_at me_60 59 rfl
def lme_120 : List (Nat × Cond) := [(1020, Cond.code yX11_cell prog_1_method_32_code 5 (Option.some Jvm.ClassFile.FieldType.int)), (1021, Cond.methodLink "EveryoneWinsLaw" 144 yX11_copy), (1022, Cond.instanceMethod yX11_copy), (1023, Cond.selects "EveryoneWins" yX11_copy yX11_copy), (1024, Cond.code yX11_copy prog_1_method_33_code 8 (Option.some Jvm.ClassFile.FieldType.int)), (1032, Cond.methodLink "EveryoneWinsLaw" 149 yX11_childrenBy), (1033, Cond.instanceMethod yX11_childrenBy), (1034, Cond.selects "EveryoneWins" yX11_childrenBy yX11_childrenBy), (1035, Cond.code yX11_childrenBy prog_1_method_34_code 8 (Option.some Jvm.ClassFile.FieldType.int)), (1037, Cond.methodLink "EveryoneWinsLaw" 153 yX11_taken), (1038, Cond.instanceMethod yX11_taken), (1039, Cond.selects "EveryoneWins" yX11_taken yX11_taken), (1040, Cond.code yX11_taken prog_1_method_35_code 4 (Option.some Jvm.ClassFile.FieldType.int)), (1052, Cond.methodLink "EveryoneWinsModel" 86 yX12_text), (1053, Cond.instanceMethod yX12_text), (1054, Cond.selects "EveryoneWinsModel" yX12_text yX12_text), (1055, Cond.code yX12_text prog_14_method_24_code 3 (Option.some Jvm.ClassFile.FieldType.int)), (1235, Cond.methodLink "EveryoneWinsLaw" 17 yX12_count), (1236, Cond.instanceMethod yX12_count), (1237, Cond.selects "EveryoneWinsModel" yX12_count yX12_count), (1238, Cond.code yX12_count prog_14_method_8_code 2 (Option.some Jvm.ClassFile.FieldType.int)), (1239, Cond.methodLink "EveryoneWinsLaw" 21 yX12_child), (1243, Cond.methodLink "EveryoneWinsLaw" 26 yX12_put), (1244, Cond.instanceMethod yX12_put), (1245, Cond.selects "EveryoneWinsModel" yX12_put yX12_put), (1246, Cond.code yX12_put prog_14_method_10_code 5 (Option.some Jvm.ClassFile.FieldType.int)), (1251, Cond.methodLink "EveryoneWinsLaw" 31 yX12_told), (1252, Cond.instanceMethod yX12_told), (1253, Cond.selects "EveryoneWinsModel" yX12_told yX12_told), (1254, Cond.code yX12_told prog_14_method_11_code 3 (Option.some Jvm.ClassFile.FieldType.int)), (1255, Cond.methodLink "EveryoneWinsLaw" 36 yX12_feed), (1256, Cond.instanceMethod yX12_feed), (1257, Cond.selects "EveryoneWinsModel" yX12_feed yX12_feed), (1258, Cond.code yX12_feed prog_14_method_13_code 8 (Option.some Jvm.ClassFile.FieldType.int)), (1262, Cond.methodLink "EveryoneWinsLaw" 41 yX12_text), (1263, Cond.methodLink "EveryoneWinsLaw" 45 yX12_force), (1264, Cond.instanceMethod yX12_force), (1265, Cond.selects "EveryoneWinsModel" yX12_force yX12_force), (1266, Cond.code yX12_force prog_14_method_27_code 3 (Option.some Jvm.ClassFile.FieldType.int)), (1267, Cond.methodLink "EveryoneWinsLaw" 50 yX12_asks), (1268, Cond.instanceMethod yX12_asks), (1269, Cond.selects "EveryoneWinsModel" yX12_asks yX12_asks), (1270, Cond.code yX12_asks prog_14_method_29_code 5 (Option.some Jvm.ClassFile.FieldType.int)), (1292, Cond.methodLink "EveryoneWinsLaw" 54 yX12_race), (1293, Cond.instanceMethod yX12_race), (1294, Cond.selects "EveryoneWinsModel" yX12_race yX12_race), (1295, Cond.code yX12_race prog_14_method_31_code 3 (Option.some Jvm.ClassFile.FieldType.int)), (1300, Cond.methodLink "EveryoneWinsLaw" 58 yX12_enter), (1301, Cond.instanceMethod yX12_enter), (1302, Cond.selects "EveryoneWinsModel" yX12_enter yX12_enter), (1303, Cond.code yX12_enter prog_14_method_32_code 6 (Option.some Jvm.ClassFile.FieldType.int)), (1304, Cond.methodLink "EveryoneWinsLaw" 62 yX12_card), (1305, Cond.instanceMethod yX12_card), (1306, Cond.selects "EveryoneWinsModel" yX12_card yX12_card), (1307, Cond.code yX12_card prog_14_method_33_code 3 (Option.some Jvm.ClassFile.FieldType.int)), (1308, Cond.methodLink "EveryoneWinsLaw" 66 yX12_comes), (1309, Cond.instanceMethod yX12_comes), (1310, Cond.selects "EveryoneWinsModel" yX12_comes yX12_comes), (1311, Cond.code yX12_comes prog_14_method_38_code 3 (Option.some Jvm.ClassFile.FieldType.int)), (1324, Cond.methodLink "EveryoneWinsLaw" 70 yX12_does)]
theorem me_120 : okw lme_120 = true := by decide +kernel
theorem wd_1020 : Cond.code yX11_cell prog_1_method_32_code 5 (Option.some Jvm.ClassFile.FieldType.int) ∈ gtbl := okw_at me_120 0 rfl
theorem wd_1021 : Cond.methodLink "EveryoneWinsLaw" 144 yX11_copy ∈ gtbl := okw_at me_120 1 rfl
theorem wd_1022 : Cond.instanceMethod yX11_copy ∈ gtbl := okw_at me_120 2 rfl
theorem wd_1023 : Cond.selects "EveryoneWins" yX11_copy yX11_copy ∈ gtbl := okw_at me_120 3 rfl
theorem wd_1024 : Cond.code yX11_copy prog_1_method_33_code 8 (Option.some Jvm.ClassFile.FieldType.int) ∈ gtbl := okw_at me_120 4 rfl
theorem wd_1032 : Cond.methodLink "EveryoneWinsLaw" 149 yX11_childrenBy ∈ gtbl := okw_at me_120 5 rfl
theorem wd_1033 : Cond.instanceMethod yX11_childrenBy ∈ gtbl := okw_at me_120 6 rfl
theorem wd_1034 : Cond.selects "EveryoneWins" yX11_childrenBy yX11_childrenBy ∈ gtbl := okw_at me_120 7 rfl
theorem wd_1035 : Cond.code yX11_childrenBy prog_1_method_34_code 8 (Option.some Jvm.ClassFile.FieldType.int) ∈ gtbl := okw_at me_120 8 rfl
theorem wd_1037 : Cond.methodLink "EveryoneWinsLaw" 153 yX11_taken ∈ gtbl := okw_at me_120 9 rfl
theorem wd_1038 : Cond.instanceMethod yX11_taken ∈ gtbl := okw_at me_120 10 rfl
theorem wd_1039 : Cond.selects "EveryoneWins" yX11_taken yX11_taken ∈ gtbl := okw_at me_120 11 rfl
theorem wd_1040 : Cond.code yX11_taken prog_1_method_35_code 4 (Option.some Jvm.ClassFile.FieldType.int) ∈ gtbl := okw_at me_120 12 rfl
theorem wd_1052 : Cond.methodLink "EveryoneWinsModel" 86 yX12_text ∈ gtbl := okw_at me_120 13 rfl
theorem wd_1053 : Cond.instanceMethod yX12_text ∈ gtbl := okw_at me_120 14 rfl
theorem wd_1054 : Cond.selects "EveryoneWinsModel" yX12_text yX12_text ∈ gtbl := okw_at me_120 15 rfl
theorem wd_1055 : Cond.code yX12_text prog_14_method_24_code 3 (Option.some Jvm.ClassFile.FieldType.int) ∈ gtbl := okw_at me_120 16 rfl
theorem wd_1235 : Cond.methodLink "EveryoneWinsLaw" 17 yX12_count ∈ gtbl := okw_at me_120 17 rfl
theorem wd_1236 : Cond.instanceMethod yX12_count ∈ gtbl := okw_at me_120 18 rfl
theorem wd_1237 : Cond.selects "EveryoneWinsModel" yX12_count yX12_count ∈ gtbl := okw_at me_120 19 rfl
theorem wd_1238 : Cond.code yX12_count prog_14_method_8_code 2 (Option.some Jvm.ClassFile.FieldType.int) ∈ gtbl := okw_at me_120 20 rfl
theorem wd_1239 : Cond.methodLink "EveryoneWinsLaw" 21 yX12_child ∈ gtbl := okw_at me_120 21 rfl
theorem wd_1243 : Cond.methodLink "EveryoneWinsLaw" 26 yX12_put ∈ gtbl := okw_at me_120 22 rfl
theorem wd_1244 : Cond.instanceMethod yX12_put ∈ gtbl := okw_at me_120 23 rfl
theorem wd_1245 : Cond.selects "EveryoneWinsModel" yX12_put yX12_put ∈ gtbl := okw_at me_120 24 rfl
theorem wd_1246 : Cond.code yX12_put prog_14_method_10_code 5 (Option.some Jvm.ClassFile.FieldType.int) ∈ gtbl := okw_at me_120 25 rfl
theorem wd_1251 : Cond.methodLink "EveryoneWinsLaw" 31 yX12_told ∈ gtbl := okw_at me_120 26 rfl
theorem wd_1252 : Cond.instanceMethod yX12_told ∈ gtbl := okw_at me_120 27 rfl
theorem wd_1253 : Cond.selects "EveryoneWinsModel" yX12_told yX12_told ∈ gtbl := okw_at me_120 28 rfl
theorem wd_1254 : Cond.code yX12_told prog_14_method_11_code 3 (Option.some Jvm.ClassFile.FieldType.int) ∈ gtbl := okw_at me_120 29 rfl
theorem wd_1255 : Cond.methodLink "EveryoneWinsLaw" 36 yX12_feed ∈ gtbl := okw_at me_120 30 rfl
theorem wd_1256 : Cond.instanceMethod yX12_feed ∈ gtbl := okw_at me_120 31 rfl
theorem wd_1257 : Cond.selects "EveryoneWinsModel" yX12_feed yX12_feed ∈ gtbl := okw_at me_120 32 rfl
theorem wd_1258 : Cond.code yX12_feed prog_14_method_13_code 8 (Option.some Jvm.ClassFile.FieldType.int) ∈ gtbl := okw_at me_120 33 rfl
theorem wd_1262 : Cond.methodLink "EveryoneWinsLaw" 41 yX12_text ∈ gtbl := okw_at me_120 34 rfl
theorem wd_1263 : Cond.methodLink "EveryoneWinsLaw" 45 yX12_force ∈ gtbl := okw_at me_120 35 rfl
theorem wd_1264 : Cond.instanceMethod yX12_force ∈ gtbl := okw_at me_120 36 rfl
theorem wd_1265 : Cond.selects "EveryoneWinsModel" yX12_force yX12_force ∈ gtbl := okw_at me_120 37 rfl
theorem wd_1266 : Cond.code yX12_force prog_14_method_27_code 3 (Option.some Jvm.ClassFile.FieldType.int) ∈ gtbl := okw_at me_120 38 rfl
theorem wd_1267 : Cond.methodLink "EveryoneWinsLaw" 50 yX12_asks ∈ gtbl := okw_at me_120 39 rfl
theorem wd_1268 : Cond.instanceMethod yX12_asks ∈ gtbl := okw_at me_120 40 rfl
theorem wd_1269 : Cond.selects "EveryoneWinsModel" yX12_asks yX12_asks ∈ gtbl := okw_at me_120 41 rfl
theorem wd_1270 : Cond.code yX12_asks prog_14_method_29_code 5 (Option.some Jvm.ClassFile.FieldType.int) ∈ gtbl := okw_at me_120 42 rfl
theorem wd_1292 : Cond.methodLink "EveryoneWinsLaw" 54 yX12_race ∈ gtbl := okw_at me_120 43 rfl
theorem wd_1293 : Cond.instanceMethod yX12_race ∈ gtbl := okw_at me_120 44 rfl
theorem wd_1294 : Cond.selects "EveryoneWinsModel" yX12_race yX12_race ∈ gtbl := okw_at me_120 45 rfl
theorem wd_1295 : Cond.code yX12_race prog_14_method_31_code 3 (Option.some Jvm.ClassFile.FieldType.int) ∈ gtbl := okw_at me_120 46 rfl
theorem wd_1300 : Cond.methodLink "EveryoneWinsLaw" 58 yX12_enter ∈ gtbl := okw_at me_120 47 rfl
theorem wd_1301 : Cond.instanceMethod yX12_enter ∈ gtbl := okw_at me_120 48 rfl
theorem wd_1302 : Cond.selects "EveryoneWinsModel" yX12_enter yX12_enter ∈ gtbl := okw_at me_120 49 rfl
theorem wd_1303 : Cond.code yX12_enter prog_14_method_32_code 6 (Option.some Jvm.ClassFile.FieldType.int) ∈ gtbl := okw_at me_120 50 rfl
theorem wd_1304 : Cond.methodLink "EveryoneWinsLaw" 62 yX12_card ∈ gtbl := okw_at me_120 51 rfl
theorem wd_1305 : Cond.instanceMethod yX12_card ∈ gtbl := okw_at me_120 52 rfl
theorem wd_1306 : Cond.selects "EveryoneWinsModel" yX12_card yX12_card ∈ gtbl := okw_at me_120 53 rfl
theorem wd_1307 : Cond.code yX12_card prog_14_method_33_code 3 (Option.some Jvm.ClassFile.FieldType.int) ∈ gtbl := okw_at me_120 54 rfl
theorem wd_1308 : Cond.methodLink "EveryoneWinsLaw" 66 yX12_comes ∈ gtbl := okw_at me_120 55 rfl
theorem wd_1309 : Cond.instanceMethod yX12_comes ∈ gtbl := okw_at me_120 56 rfl
theorem wd_1310 : Cond.selects "EveryoneWinsModel" yX12_comes yX12_comes ∈ gtbl := okw_at me_120 57 rfl
theorem wd_1311 : Cond.code yX12_comes prog_14_method_38_code 3 (Option.some Jvm.ClassFile.FieldType.int) ∈ gtbl := okw_at me_120 58 rfl
theorem wd_1324 : Cond.methodLink "EveryoneWinsLaw" 70 yX12_does ∈ gtbl := okw_at me_120 59 rfl
def lme_180 : List (Nat × Cond) := [(1325, Cond.instanceMethod yX12_does), (1326, Cond.selects "EveryoneWinsModel" yX12_does yX12_does), (1327, Cond.code yX12_does prog_14_method_39_code 3 (Option.some Jvm.ClassFile.FieldType.int)), (1328, Cond.methodLink "EveryoneWinsLaw" 74 yX12_day), (1329, Cond.instanceMethod yX12_day), (1330, Cond.selects "EveryoneWinsModel" yX12_day yX12_day), (1331, Cond.code yX12_day prog_14_method_43_code 2 (Option.some Jvm.ClassFile.FieldType.int)), (1348, Cond.methodLink "EveryoneWinsLaw" 78 yX12_let), (1349, Cond.instanceMethod yX12_let), (1350, Cond.selects "EveryoneWinsModel" yX12_let yX12_let), (1351, Cond.code yX12_let prog_14_method_48_code 2 (Option.some Jvm.ClassFile.FieldType.int)), (1368, Cond.methodLink "EveryoneWinsLaw" 82 yX12_spare), (1369, Cond.instanceMethod yX12_spare), (1370, Cond.selects "EveryoneWinsModel" yX12_spare yX12_spare), (1371, Cond.code yX12_spare prog_14_method_49_code 2 (Option.some Jvm.ClassFile.FieldType.int)), (1372, Cond.methodLink "EveryoneWinsLaw" 86 yX12_drop), (1373, Cond.instanceMethod yX12_drop), (1374, Cond.selects "EveryoneWinsModel" yX12_drop yX12_drop), (1375, Cond.code yX12_drop prog_14_method_50_code 3 (Option.some Jvm.ClassFile.FieldType.int)), (1376, Cond.methodLink "EveryoneWinsLaw" 90 yX12_order), (1377, Cond.instanceMethod yX12_order), (1378, Cond.selects "EveryoneWinsModel" yX12_order yX12_order), (1379, Cond.code yX12_order prog_14_method_52_code 4 (Option.some Jvm.ClassFile.FieldType.int)), (1384, Cond.methodLink "EveryoneWinsLaw" 94 yX12_tie), (1385, Cond.instanceMethod yX12_tie), (1386, Cond.selects "EveryoneWinsModel" yX12_tie yX12_tie), (1387, Cond.code yX12_tie prog_14_method_53_code 5 (Option.some Jvm.ClassFile.FieldType.int)), (1388, Cond.methodLink "EveryoneWinsLaw" 98 yX12_needs), (1389, Cond.instanceMethod yX12_needs), (1390, Cond.selects "EveryoneWinsModel" yX12_needs yX12_needs), (1391, Cond.code yX12_needs prog_14_method_54_code 6 (Option.some Jvm.ClassFile.FieldType.int)), (1392, Cond.methodLink "EveryoneWinsLaw" 102 yX12_judge), (1393, Cond.instanceMethod yX12_judge), (1394, Cond.selects "EveryoneWinsModel" yX12_judge yX12_judge), (1395, Cond.code yX12_judge prog_14_method_57_code 3 (Option.some Jvm.ClassFile.FieldType.int)), (1404, Cond.methodLink "EveryoneWinsLaw" 106 yX12_kinds), (1405, Cond.instanceMethod yX12_kinds), (1406, Cond.selects "EveryoneWinsModel" yX12_kinds yX12_kinds), (1407, Cond.code yX12_kinds prog_14_method_58_code 10 (Option.some Jvm.ClassFile.FieldType.int)), (1408, Cond.methodLink "EveryoneWinsLaw" 110 yX12_quick), (1409, Cond.instanceMethod yX12_quick), (1410, Cond.selects "EveryoneWinsModel" yX12_quick yX12_quick), (1411, Cond.code yX12_quick prog_14_method_59_code 11 (Option.some Jvm.ClassFile.FieldType.int)), (1412, Cond.methodLink "EveryoneWinsLaw" 114 yX12_laws), (1413, Cond.instanceMethod yX12_laws), (1414, Cond.selects "EveryoneWinsModel" yX12_laws yX12_laws), (1415, Cond.code yX12_laws prog_14_method_60_code 6 (Option.some Jvm.ClassFile.FieldType.int)), (1416, Cond.methodLink "EveryoneWinsLaw" 118 yX12_film), (1417, Cond.instanceMethod yX12_film), (1418, Cond.selects "EveryoneWinsModel" yX12_film yX12_film), (1419, Cond.code yX12_film prog_14_method_61_code 3 (Option.some Jvm.ClassFile.FieldType.int)), (1420, Cond.methodLink "EveryoneWinsLaw" 122 yX12_drawn), (1421, Cond.instanceMethod yX12_drawn), (1422, Cond.selects "EveryoneWinsModel" yX12_drawn yX12_drawn), (1423, Cond.code yX12_drawn prog_14_method_63_code 3 (Option.some Jvm.ClassFile.FieldType.int)), (1432, Cond.methodLink "EveryoneWinsLaw" 127 yX12_odds), (1433, Cond.instanceMethod yX12_odds), (1434, Cond.selects "EveryoneWinsModel" yX12_odds yX12_odds), (1435, Cond.code yX12_odds prog_14_method_65_code 8 (Option.some Jvm.ClassFile.FieldType.long)), (1440, Cond.methodLink "EveryoneWinsLaw" 131 yX12_image)]
theorem me_180 : okw lme_180 = true := by decide +kernel
theorem wd_1325 : Cond.instanceMethod yX12_does ∈ gtbl := okw_at me_180 0 rfl
theorem wd_1326 : Cond.selects "EveryoneWinsModel" yX12_does yX12_does ∈ gtbl := okw_at me_180 1 rfl
theorem wd_1327 : Cond.code yX12_does prog_14_method_39_code 3 (Option.some Jvm.ClassFile.FieldType.int) ∈ gtbl := okw_at me_180 2 rfl
theorem wd_1328 : Cond.methodLink "EveryoneWinsLaw" 74 yX12_day ∈ gtbl := okw_at me_180 3 rfl
theorem wd_1329 : Cond.instanceMethod yX12_day ∈ gtbl := okw_at me_180 4 rfl
theorem wd_1330 : Cond.selects "EveryoneWinsModel" yX12_day yX12_day ∈ gtbl := okw_at me_180 5 rfl
theorem wd_1331 : Cond.code yX12_day prog_14_method_43_code 2 (Option.some Jvm.ClassFile.FieldType.int) ∈ gtbl := okw_at me_180 6 rfl
theorem wd_1348 : Cond.methodLink "EveryoneWinsLaw" 78 yX12_let ∈ gtbl := okw_at me_180 7 rfl
theorem wd_1349 : Cond.instanceMethod yX12_let ∈ gtbl := okw_at me_180 8 rfl
theorem wd_1350 : Cond.selects "EveryoneWinsModel" yX12_let yX12_let ∈ gtbl := okw_at me_180 9 rfl
theorem wd_1351 : Cond.code yX12_let prog_14_method_48_code 2 (Option.some Jvm.ClassFile.FieldType.int) ∈ gtbl := okw_at me_180 10 rfl
theorem wd_1368 : Cond.methodLink "EveryoneWinsLaw" 82 yX12_spare ∈ gtbl := okw_at me_180 11 rfl
theorem wd_1369 : Cond.instanceMethod yX12_spare ∈ gtbl := okw_at me_180 12 rfl
theorem wd_1370 : Cond.selects "EveryoneWinsModel" yX12_spare yX12_spare ∈ gtbl := okw_at me_180 13 rfl
theorem wd_1371 : Cond.code yX12_spare prog_14_method_49_code 2 (Option.some Jvm.ClassFile.FieldType.int) ∈ gtbl := okw_at me_180 14 rfl
theorem wd_1372 : Cond.methodLink "EveryoneWinsLaw" 86 yX12_drop ∈ gtbl := okw_at me_180 15 rfl
theorem wd_1373 : Cond.instanceMethod yX12_drop ∈ gtbl := okw_at me_180 16 rfl
theorem wd_1374 : Cond.selects "EveryoneWinsModel" yX12_drop yX12_drop ∈ gtbl := okw_at me_180 17 rfl
theorem wd_1375 : Cond.code yX12_drop prog_14_method_50_code 3 (Option.some Jvm.ClassFile.FieldType.int) ∈ gtbl := okw_at me_180 18 rfl
theorem wd_1376 : Cond.methodLink "EveryoneWinsLaw" 90 yX12_order ∈ gtbl := okw_at me_180 19 rfl
theorem wd_1377 : Cond.instanceMethod yX12_order ∈ gtbl := okw_at me_180 20 rfl
theorem wd_1378 : Cond.selects "EveryoneWinsModel" yX12_order yX12_order ∈ gtbl := okw_at me_180 21 rfl
theorem wd_1379 : Cond.code yX12_order prog_14_method_52_code 4 (Option.some Jvm.ClassFile.FieldType.int) ∈ gtbl := okw_at me_180 22 rfl
theorem wd_1384 : Cond.methodLink "EveryoneWinsLaw" 94 yX12_tie ∈ gtbl := okw_at me_180 23 rfl
theorem wd_1385 : Cond.instanceMethod yX12_tie ∈ gtbl := okw_at me_180 24 rfl
theorem wd_1386 : Cond.selects "EveryoneWinsModel" yX12_tie yX12_tie ∈ gtbl := okw_at me_180 25 rfl
theorem wd_1387 : Cond.code yX12_tie prog_14_method_53_code 5 (Option.some Jvm.ClassFile.FieldType.int) ∈ gtbl := okw_at me_180 26 rfl
theorem wd_1388 : Cond.methodLink "EveryoneWinsLaw" 98 yX12_needs ∈ gtbl := okw_at me_180 27 rfl
theorem wd_1389 : Cond.instanceMethod yX12_needs ∈ gtbl := okw_at me_180 28 rfl
theorem wd_1390 : Cond.selects "EveryoneWinsModel" yX12_needs yX12_needs ∈ gtbl := okw_at me_180 29 rfl
theorem wd_1391 : Cond.code yX12_needs prog_14_method_54_code 6 (Option.some Jvm.ClassFile.FieldType.int) ∈ gtbl := okw_at me_180 30 rfl
theorem wd_1392 : Cond.methodLink "EveryoneWinsLaw" 102 yX12_judge ∈ gtbl := okw_at me_180 31 rfl
theorem wd_1393 : Cond.instanceMethod yX12_judge ∈ gtbl := okw_at me_180 32 rfl
theorem wd_1394 : Cond.selects "EveryoneWinsModel" yX12_judge yX12_judge ∈ gtbl := okw_at me_180 33 rfl
theorem wd_1395 : Cond.code yX12_judge prog_14_method_57_code 3 (Option.some Jvm.ClassFile.FieldType.int) ∈ gtbl := okw_at me_180 34 rfl
theorem wd_1404 : Cond.methodLink "EveryoneWinsLaw" 106 yX12_kinds ∈ gtbl := okw_at me_180 35 rfl
theorem wd_1405 : Cond.instanceMethod yX12_kinds ∈ gtbl := okw_at me_180 36 rfl
theorem wd_1406 : Cond.selects "EveryoneWinsModel" yX12_kinds yX12_kinds ∈ gtbl := okw_at me_180 37 rfl
theorem wd_1407 : Cond.code yX12_kinds prog_14_method_58_code 10 (Option.some Jvm.ClassFile.FieldType.int) ∈ gtbl := okw_at me_180 38 rfl
theorem wd_1408 : Cond.methodLink "EveryoneWinsLaw" 110 yX12_quick ∈ gtbl := okw_at me_180 39 rfl
theorem wd_1409 : Cond.instanceMethod yX12_quick ∈ gtbl := okw_at me_180 40 rfl
theorem wd_1410 : Cond.selects "EveryoneWinsModel" yX12_quick yX12_quick ∈ gtbl := okw_at me_180 41 rfl
theorem wd_1411 : Cond.code yX12_quick prog_14_method_59_code 11 (Option.some Jvm.ClassFile.FieldType.int) ∈ gtbl := okw_at me_180 42 rfl
theorem wd_1412 : Cond.methodLink "EveryoneWinsLaw" 114 yX12_laws ∈ gtbl := okw_at me_180 43 rfl
theorem wd_1413 : Cond.instanceMethod yX12_laws ∈ gtbl := okw_at me_180 44 rfl
theorem wd_1414 : Cond.selects "EveryoneWinsModel" yX12_laws yX12_laws ∈ gtbl := okw_at me_180 45 rfl
theorem wd_1415 : Cond.code yX12_laws prog_14_method_60_code 6 (Option.some Jvm.ClassFile.FieldType.int) ∈ gtbl := okw_at me_180 46 rfl
theorem wd_1416 : Cond.methodLink "EveryoneWinsLaw" 118 yX12_film ∈ gtbl := okw_at me_180 47 rfl
theorem wd_1417 : Cond.instanceMethod yX12_film ∈ gtbl := okw_at me_180 48 rfl
theorem wd_1418 : Cond.selects "EveryoneWinsModel" yX12_film yX12_film ∈ gtbl := okw_at me_180 49 rfl
theorem wd_1419 : Cond.code yX12_film prog_14_method_61_code 3 (Option.some Jvm.ClassFile.FieldType.int) ∈ gtbl := okw_at me_180 50 rfl
theorem wd_1420 : Cond.methodLink "EveryoneWinsLaw" 122 yX12_drawn ∈ gtbl := okw_at me_180 51 rfl
theorem wd_1421 : Cond.instanceMethod yX12_drawn ∈ gtbl := okw_at me_180 52 rfl
theorem wd_1422 : Cond.selects "EveryoneWinsModel" yX12_drawn yX12_drawn ∈ gtbl := okw_at me_180 53 rfl
theorem wd_1423 : Cond.code yX12_drawn prog_14_method_63_code 3 (Option.some Jvm.ClassFile.FieldType.int) ∈ gtbl := okw_at me_180 54 rfl
theorem wd_1432 : Cond.methodLink "EveryoneWinsLaw" 127 yX12_odds ∈ gtbl := okw_at me_180 55 rfl
theorem wd_1433 : Cond.instanceMethod yX12_odds ∈ gtbl := okw_at me_180 56 rfl
theorem wd_1434 : Cond.selects "EveryoneWinsModel" yX12_odds yX12_odds ∈ gtbl := okw_at me_180 57 rfl
theorem wd_1435 : Cond.code yX12_odds prog_14_method_65_code 8 (Option.some Jvm.ClassFile.FieldType.long) ∈ gtbl := okw_at me_180 58 rfl
theorem wd_1440 : Cond.methodLink "EveryoneWinsLaw" 131 yX12_image ∈ gtbl := okw_at me_180 59 rfl
def lme_240 : List (Nat × Cond) := [(1441, Cond.instanceMethod yX12_image), (1442, Cond.selects "EveryoneWinsModel" yX12_image yX12_image), (1443, Cond.code yX12_image prog_14_method_66_code 2 (Option.some Jvm.ClassFile.FieldType.int)), (1444, Cond.methodLink "EveryoneWinsLaw" 135 yX12_back), (1445, Cond.instanceMethod yX12_back), (1446, Cond.selects "EveryoneWinsModel" yX12_back yX12_back), (1447, Cond.code yX12_back prog_14_method_67_code 2 (Option.some Jvm.ClassFile.FieldType.int)), (1448, Cond.methodLink "EveryoneWinsLaw" 139 yX12_sheet), (1449, Cond.instanceMethod yX12_sheet), (1450, Cond.selects "EveryoneWinsModel" yX12_sheet yX12_sheet), (1451, Cond.code yX12_sheet prog_14_method_68_code 5 (Option.some Jvm.ClassFile.FieldType.int)), (1452, Cond.methodLink "EveryoneWinsLaw" 143 yX12_cell), (1453, Cond.instanceMethod yX12_cell), (1454, Cond.selects "EveryoneWinsModel" yX12_cell yX12_cell), (1455, Cond.code yX12_cell prog_14_method_69_code 4 (Option.some Jvm.ClassFile.FieldType.int)), (1456, Cond.methodLink "EveryoneWinsLaw" 148 yX12_copy), (1457, Cond.instanceMethod yX12_copy), (1458, Cond.selects "EveryoneWinsModel" yX12_copy yX12_copy), (1459, Cond.code yX12_copy prog_14_method_70_code 10 (Option.some Jvm.ClassFile.FieldType.int)), (1460, Cond.methodLink "EveryoneWinsLaw" 152 yX12_childrenBy), (1461, Cond.instanceMethod yX12_childrenBy), (1462, Cond.selects "EveryoneWinsModel" yX12_childrenBy yX12_childrenBy), (1463, Cond.code yX12_childrenBy prog_14_method_71_code 9 (Option.some Jvm.ClassFile.FieldType.int)), (1465, Cond.methodLink "EveryoneWinsLaw" 156 yX12_taken), (1466, Cond.instanceMethod yX12_taken), (1467, Cond.selects "EveryoneWinsModel" yX12_taken yX12_taken), (1468, Cond.code yX12_taken prog_14_method_73_code 3 (Option.some Jvm.ClassFile.FieldType.int))]
theorem me_240 : okw lme_240 = true := by decide +kernel
theorem wd_1441 : Cond.instanceMethod yX12_image ∈ gtbl := okw_at me_240 0 rfl
theorem wd_1442 : Cond.selects "EveryoneWinsModel" yX12_image yX12_image ∈ gtbl := okw_at me_240 1 rfl
theorem wd_1443 : Cond.code yX12_image prog_14_method_66_code 2 (Option.some Jvm.ClassFile.FieldType.int) ∈ gtbl := okw_at me_240 2 rfl
theorem wd_1444 : Cond.methodLink "EveryoneWinsLaw" 135 yX12_back ∈ gtbl := okw_at me_240 3 rfl
theorem wd_1445 : Cond.instanceMethod yX12_back ∈ gtbl := okw_at me_240 4 rfl
theorem wd_1446 : Cond.selects "EveryoneWinsModel" yX12_back yX12_back ∈ gtbl := okw_at me_240 5 rfl
theorem wd_1447 : Cond.code yX12_back prog_14_method_67_code 2 (Option.some Jvm.ClassFile.FieldType.int) ∈ gtbl := okw_at me_240 6 rfl
theorem wd_1448 : Cond.methodLink "EveryoneWinsLaw" 139 yX12_sheet ∈ gtbl := okw_at me_240 7 rfl
theorem wd_1449 : Cond.instanceMethod yX12_sheet ∈ gtbl := okw_at me_240 8 rfl
theorem wd_1450 : Cond.selects "EveryoneWinsModel" yX12_sheet yX12_sheet ∈ gtbl := okw_at me_240 9 rfl
theorem wd_1451 : Cond.code yX12_sheet prog_14_method_68_code 5 (Option.some Jvm.ClassFile.FieldType.int) ∈ gtbl := okw_at me_240 10 rfl
theorem wd_1452 : Cond.methodLink "EveryoneWinsLaw" 143 yX12_cell ∈ gtbl := okw_at me_240 11 rfl
theorem wd_1453 : Cond.instanceMethod yX12_cell ∈ gtbl := okw_at me_240 12 rfl
theorem wd_1454 : Cond.selects "EveryoneWinsModel" yX12_cell yX12_cell ∈ gtbl := okw_at me_240 13 rfl
theorem wd_1455 : Cond.code yX12_cell prog_14_method_69_code 4 (Option.some Jvm.ClassFile.FieldType.int) ∈ gtbl := okw_at me_240 14 rfl
theorem wd_1456 : Cond.methodLink "EveryoneWinsLaw" 148 yX12_copy ∈ gtbl := okw_at me_240 15 rfl
theorem wd_1457 : Cond.instanceMethod yX12_copy ∈ gtbl := okw_at me_240 16 rfl
theorem wd_1458 : Cond.selects "EveryoneWinsModel" yX12_copy yX12_copy ∈ gtbl := okw_at me_240 17 rfl
theorem wd_1459 : Cond.code yX12_copy prog_14_method_70_code 10 (Option.some Jvm.ClassFile.FieldType.int) ∈ gtbl := okw_at me_240 18 rfl
theorem wd_1460 : Cond.methodLink "EveryoneWinsLaw" 152 yX12_childrenBy ∈ gtbl := okw_at me_240 19 rfl
theorem wd_1461 : Cond.instanceMethod yX12_childrenBy ∈ gtbl := okw_at me_240 20 rfl
theorem wd_1462 : Cond.selects "EveryoneWinsModel" yX12_childrenBy yX12_childrenBy ∈ gtbl := okw_at me_240 21 rfl
theorem wd_1463 : Cond.code yX12_childrenBy prog_14_method_71_code 9 (Option.some Jvm.ClassFile.FieldType.int) ∈ gtbl := okw_at me_240 22 rfl
theorem wd_1465 : Cond.methodLink "EveryoneWinsLaw" 156 yX12_taken ∈ gtbl := okw_at me_240 23 rfl
theorem wd_1466 : Cond.instanceMethod yX12_taken ∈ gtbl := okw_at me_240 24 rfl
theorem wd_1467 : Cond.selects "EveryoneWinsModel" yX12_taken yX12_taken ∈ gtbl := okw_at me_240 25 rfl
theorem wd_1468 : Cond.code yX12_taken prog_14_method_73_code 3 (Option.some Jvm.ClassFile.FieldType.int) ∈ gtbl := okw_at me_240 26 rfl
theorem vb_X11_count : VB yX11_count cX11_count 2 (some FieldType.int) "EveryoneWins" 1 := ⟨wd_633, wd_73, wd_631, wd_632, by decide, by decide +kernel⟩
theorem vb_X11_put : VB yX11_put cX11_put 4 (some FieldType.int) "EveryoneWins" 3 := ⟨wd_649, wd_73, wd_647, wd_648, by decide, by decide +kernel⟩
theorem vb_X11_told : VB yX11_told cX11_told 3 (some FieldType.int) "EveryoneWins" 2 := ⟨wd_666, wd_73, wd_664, wd_665, by decide, by decide +kernel⟩
theorem vb_X11_feed : VB yX11_feed cX11_feed 8 (some FieldType.int) "EveryoneWins" 6 := ⟨wd_670, wd_73, wd_668, wd_669, by decide, by decide +kernel⟩
theorem vb_X11_text : VB yX11_text cX11_text 1 (some FieldType.int) "EveryoneWins" 0 := ⟨wd_677, wd_73, wd_675, wd_676, by decide, by decide +kernel⟩
theorem vb_X11_force : VB yX11_force cX11_force 3 (some FieldType.int) "EveryoneWins" 1 := ⟨wd_681, wd_73, wd_679, wd_680, by decide, by decide +kernel⟩
theorem vb_X11_asks : VB yX11_asks cX11_asks 6 (some FieldType.int) "EveryoneWins" 4 := ⟨wd_685, wd_73, wd_683, wd_684, by decide, by decide +kernel⟩
theorem vb_X11_race : VB yX11_race cX11_race 3 (some FieldType.int) "EveryoneWins" 2 := ⟨wd_736, wd_73, wd_734, wd_735, by decide, by decide +kernel⟩
theorem vb_X11_enter : VB yX11_enter cX11_enter 4 (some FieldType.int) "EveryoneWins" 3 := ⟨wd_749, wd_73, wd_747, wd_748, by decide, by decide +kernel⟩
theorem vb_X11_card : VB yX11_card cX11_card 3 (some FieldType.int) "EveryoneWins" 2 := ⟨wd_753, wd_73, wd_751, wd_752, by decide, by decide +kernel⟩
theorem vb_X11_comes : VB yX11_comes cX11_comes 3 (some FieldType.int) "EveryoneWins" 2 := ⟨wd_761, wd_73, wd_759, wd_760, by decide, by decide +kernel⟩
theorem vb_X11_does : VB yX11_does cX11_does 3 (some FieldType.int) "EveryoneWins" 2 := ⟨wd_795, wd_73, wd_793, wd_794, by decide, by decide +kernel⟩
theorem vb_X11_day : VB yX11_day cX11_day 2 (some FieldType.int) "EveryoneWins" 1 := ⟨wd_800, wd_73, wd_798, wd_799, by decide, by decide +kernel⟩
theorem vb_X11_let : VB yX11_let cX11_let 2 (some FieldType.int) "EveryoneWins" 1 := ⟨wd_830, wd_73, wd_828, wd_829, by decide, by decide +kernel⟩
theorem vb_X11_spare : VB yX11_spare cX11_spare 2 (some FieldType.int) "EveryoneWins" 1 := ⟨wd_855, wd_73, wd_853, wd_854, by decide, by decide +kernel⟩
theorem vb_X11_drop : VB yX11_drop cX11_drop 3 (some FieldType.int) "EveryoneWins" 1 := ⟨wd_859, wd_73, wd_857, wd_858, by decide, by decide +kernel⟩
theorem vb_X11_order : VB yX11_order cX11_order 2 (some FieldType.int) "EveryoneWins" 1 := ⟨wd_864, wd_73, wd_862, wd_863, by decide, by decide +kernel⟩
theorem vb_X11_tie : VB yX11_tie cX11_tie 5 (some FieldType.int) "EveryoneWins" 1 := ⟨wd_903, wd_73, wd_901, wd_902, by decide, by decide +kernel⟩
theorem vb_X11_needs : VB yX11_needs cX11_needs 6 (some FieldType.int) "EveryoneWins" 2 := ⟨wd_907, wd_73, wd_905, wd_906, by decide, by decide +kernel⟩
theorem vb_X11_judge : VB yX11_judge cX11_judge 4 (some FieldType.int) "EveryoneWins" 1 := ⟨wd_911, wd_73, wd_909, wd_910, by decide, by decide +kernel⟩
theorem vb_X11_kinds : VB yX11_kinds cX11_kinds 6 (some FieldType.int) "EveryoneWins" 3 := ⟨wd_936, wd_73, wd_934, wd_935, by decide, by decide +kernel⟩
theorem vb_X11_quick : VB yX11_quick cX11_quick 6 (some FieldType.int) "EveryoneWins" 3 := ⟨wd_944, wd_73, wd_942, wd_943, by decide, by decide +kernel⟩
theorem vb_X11_laws : VB yX11_laws cX11_laws 7 (some FieldType.int) "EveryoneWins" 1 := ⟨wd_948, wd_73, wd_946, wd_947, by decide, by decide +kernel⟩
theorem vb_X11_film : VB yX11_film cX11_film 4 (some FieldType.int) "EveryoneWins" 1 := ⟨wd_952, wd_73, wd_950, wd_951, by decide, by decide +kernel⟩
theorem vb_X11_drawn : VB yX11_drawn cX11_drawn 3 (some FieldType.int) "EveryoneWins" 2 := ⟨wd_965, wd_73, wd_963, wd_964, by decide, by decide +kernel⟩
theorem vb_X11_odds : VB yX11_odds cX11_odds 8 (some FieldType.long) "EveryoneWins" 4 := ⟨wd_986, wd_73, wd_984, wd_985, by decide, by decide +kernel⟩
theorem vb_X11_image : VB yX11_image cX11_image 1 (some FieldType.int) "EveryoneWins" 0 := ⟨wd_994, wd_73, wd_992, wd_993, by decide, by decide +kernel⟩
theorem vb_X11_back : VB yX11_back cX11_back 1 (some FieldType.int) "EveryoneWins" 0 := ⟨wd_1008, wd_73, wd_1006, wd_1007, by decide, by decide +kernel⟩
theorem vb_X11_sheet : VB yX11_sheet cX11_sheet 5 (some FieldType.int) "EveryoneWins" 3 := ⟨wd_1012, wd_73, wd_1010, wd_1011, by decide, by decide +kernel⟩
theorem vb_X11_cell : VB yX11_cell cX11_cell 5 (some FieldType.int) "EveryoneWins" 3 := ⟨wd_1020, wd_73, wd_1018, wd_1019, by decide, by decide +kernel⟩
theorem vb_X11_copy : VB yX11_copy cX11_copy 8 (some FieldType.int) "EveryoneWins" 5 := ⟨wd_1024, wd_73, wd_1022, wd_1023, by decide, by decide +kernel⟩
theorem vb_X11_childrenBy : VB yX11_childrenBy cX11_childrenBy 8 (some FieldType.int) "EveryoneWins" 4 := ⟨wd_1035, wd_73, wd_1033, wd_1034, by decide, by decide +kernel⟩
theorem vb_X11_taken : VB yX11_taken cX11_taken 4 (some FieldType.int) "EveryoneWins" 2 := ⟨wd_1040, wd_73, wd_1038, wd_1039, by decide, by decide +kernel⟩
theorem vb_X12_count : VB yX12_count cX12_count 2 (some FieldType.int) "EveryoneWinsModel" 1 := ⟨wd_1238, wd_88, wd_1236, wd_1237, by decide, by decide +kernel⟩
theorem vb_X12_put : VB yX12_put cX12_put 5 (some FieldType.int) "EveryoneWinsModel" 3 := ⟨wd_1246, wd_88, wd_1244, wd_1245, by decide, by decide +kernel⟩
theorem vb_X12_told : VB yX12_told cX12_told 3 (some FieldType.int) "EveryoneWinsModel" 2 := ⟨wd_1254, wd_88, wd_1252, wd_1253, by decide, by decide +kernel⟩
theorem vb_X12_feed : VB yX12_feed cX12_feed 8 (some FieldType.int) "EveryoneWinsModel" 6 := ⟨wd_1258, wd_88, wd_1256, wd_1257, by decide, by decide +kernel⟩
theorem vb_X12_text : VB yX12_text cX12_text 3 (some FieldType.int) "EveryoneWinsModel" 0 := ⟨wd_1055, wd_88, wd_1053, wd_1054, by decide, by decide +kernel⟩
theorem vb_X12_force : VB yX12_force cX12_force 3 (some FieldType.int) "EveryoneWinsModel" 1 := ⟨wd_1266, wd_88, wd_1264, wd_1265, by decide, by decide +kernel⟩
theorem vb_X12_asks : VB yX12_asks cX12_asks 5 (some FieldType.int) "EveryoneWinsModel" 4 := ⟨wd_1270, wd_88, wd_1268, wd_1269, by decide, by decide +kernel⟩
theorem vb_X12_race : VB yX12_race cX12_race 3 (some FieldType.int) "EveryoneWinsModel" 2 := ⟨wd_1295, wd_88, wd_1293, wd_1294, by decide, by decide +kernel⟩
theorem vb_X12_enter : VB yX12_enter cX12_enter 6 (some FieldType.int) "EveryoneWinsModel" 3 := ⟨wd_1303, wd_88, wd_1301, wd_1302, by decide, by decide +kernel⟩
theorem vb_X12_card : VB yX12_card cX12_card 3 (some FieldType.int) "EveryoneWinsModel" 2 := ⟨wd_1307, wd_88, wd_1305, wd_1306, by decide, by decide +kernel⟩
theorem vb_X12_comes : VB yX12_comes cX12_comes 3 (some FieldType.int) "EveryoneWinsModel" 2 := ⟨wd_1311, wd_88, wd_1309, wd_1310, by decide, by decide +kernel⟩
theorem vb_X12_does : VB yX12_does cX12_does 3 (some FieldType.int) "EveryoneWinsModel" 2 := ⟨wd_1327, wd_88, wd_1325, wd_1326, by decide, by decide +kernel⟩
theorem vb_X12_day : VB yX12_day cX12_day 2 (some FieldType.int) "EveryoneWinsModel" 1 := ⟨wd_1331, wd_88, wd_1329, wd_1330, by decide, by decide +kernel⟩
theorem vb_X12_let : VB yX12_let cX12_let 2 (some FieldType.int) "EveryoneWinsModel" 1 := ⟨wd_1351, wd_88, wd_1349, wd_1350, by decide, by decide +kernel⟩
theorem vb_X12_spare : VB yX12_spare cX12_spare 2 (some FieldType.int) "EveryoneWinsModel" 1 := ⟨wd_1371, wd_88, wd_1369, wd_1370, by decide, by decide +kernel⟩
theorem vb_X12_drop : VB yX12_drop cX12_drop 3 (some FieldType.int) "EveryoneWinsModel" 1 := ⟨wd_1375, wd_88, wd_1373, wd_1374, by decide, by decide +kernel⟩
theorem vb_X12_order : VB yX12_order cX12_order 4 (some FieldType.int) "EveryoneWinsModel" 1 := ⟨wd_1379, wd_88, wd_1377, wd_1378, by decide, by decide +kernel⟩
theorem vb_X12_tie : VB yX12_tie cX12_tie 5 (some FieldType.int) "EveryoneWinsModel" 1 := ⟨wd_1387, wd_88, wd_1385, wd_1386, by decide, by decide +kernel⟩
theorem vb_X12_needs : VB yX12_needs cX12_needs 6 (some FieldType.int) "EveryoneWinsModel" 2 := ⟨wd_1391, wd_88, wd_1389, wd_1390, by decide, by decide +kernel⟩
theorem vb_X12_judge : VB yX12_judge cX12_judge 3 (some FieldType.int) "EveryoneWinsModel" 1 := ⟨wd_1395, wd_88, wd_1393, wd_1394, by decide, by decide +kernel⟩
theorem vb_X12_kinds : VB yX12_kinds cX12_kinds 10 (some FieldType.int) "EveryoneWinsModel" 3 := ⟨wd_1407, wd_88, wd_1405, wd_1406, by decide, by decide +kernel⟩
theorem vb_X12_quick : VB yX12_quick cX12_quick 11 (some FieldType.int) "EveryoneWinsModel" 3 := ⟨wd_1411, wd_88, wd_1409, wd_1410, by decide, by decide +kernel⟩
theorem vb_X12_laws : VB yX12_laws cX12_laws 6 (some FieldType.int) "EveryoneWinsModel" 1 := ⟨wd_1415, wd_88, wd_1413, wd_1414, by decide, by decide +kernel⟩
theorem vb_X12_film : VB yX12_film cX12_film 3 (some FieldType.int) "EveryoneWinsModel" 1 := ⟨wd_1419, wd_88, wd_1417, wd_1418, by decide, by decide +kernel⟩
theorem vb_X12_drawn : VB yX12_drawn cX12_drawn 3 (some FieldType.int) "EveryoneWinsModel" 2 := ⟨wd_1423, wd_88, wd_1421, wd_1422, by decide, by decide +kernel⟩
theorem vb_X12_odds : VB yX12_odds cX12_odds 8 (some FieldType.long) "EveryoneWinsModel" 4 := ⟨wd_1435, wd_88, wd_1433, wd_1434, by decide, by decide +kernel⟩
theorem vb_X12_image : VB yX12_image cX12_image 2 (some FieldType.int) "EveryoneWinsModel" 0 := ⟨wd_1443, wd_88, wd_1441, wd_1442, by decide, by decide +kernel⟩
theorem vb_X12_back : VB yX12_back cX12_back 2 (some FieldType.int) "EveryoneWinsModel" 0 := ⟨wd_1447, wd_88, wd_1445, wd_1446, by decide, by decide +kernel⟩
theorem vb_X12_sheet : VB yX12_sheet cX12_sheet 5 (some FieldType.int) "EveryoneWinsModel" 3 := ⟨wd_1451, wd_88, wd_1449, wd_1450, by decide, by decide +kernel⟩
theorem vb_X12_cell : VB yX12_cell cX12_cell 4 (some FieldType.int) "EveryoneWinsModel" 3 := ⟨wd_1455, wd_88, wd_1453, wd_1454, by decide, by decide +kernel⟩
theorem vb_X12_copy : VB yX12_copy cX12_copy 10 (some FieldType.int) "EveryoneWinsModel" 5 := ⟨wd_1459, wd_88, wd_1457, wd_1458, by decide, by decide +kernel⟩
theorem vb_X12_childrenBy : VB yX12_childrenBy cX12_childrenBy 9 (some FieldType.int) "EveryoneWinsModel" 4 := ⟨wd_1463, wd_88, wd_1461, wd_1462, by decide, by decide +kernel⟩
theorem vb_X12_taken : VB yX12_taken cX12_taken 3 (some FieldType.int) "EveryoneWinsModel" 2 := ⟨wd_1468, wd_88, wd_1466, wd_1467, by decide, by decide +kernel⟩
def lmL_law_0 : List (Nat × Instr × Nat) := [(0, .new 7, 3), (3, .dup, 1), (4, .invokespecial 9, 3), (7, .astore_n 1, 1), (8, .new 10, 3), (11, .dup, 1), (12, .invokespecial 12, 3), (15, .astore_n 2, 1), (16, .iconst 0, 1), (17, .istore_n 3, 1), (18, .iload_n 3, 1), (19, .aload_n 0, 1), (20, .arraylength, 1), (21, .bipush 7, 2), (23, .isub, 1), (24, .if_icmp .gt 1301, 3), (27, .aload_n 0, 1), (28, .iload_n 3, 1), (29, .iaload, 1), (30, .bipush 63, 2), (32, .iand, 1), (33, .tableswitch 1286 0 33 #[151, 174, 197, 240, 273, 348, 361, 384, 437, 470, 513, 546, 579, 612, 635, 658, 681, 704, 727, 750, 783, 806, 849, 892, 915, 938, 971, 1025, 1038, 1051, 1094, 1137, 1200, 1253], 151), (184, .aload_n 1, 1), (185, .aload_n 0, 1), (186, .iload_n 3, 1), (187, .iconst 1, 1), (188, .iadd, 1), (189, .iaload, 1), (190, .invokevirtual 13, 3), (193, .aload_n 2, 1), (194, .aload_n 0, 1), (195, .iload_n 3, 1), (196, .iconst 1, 1), (197, .iadd, 1), (198, .iaload, 1), (199, .invokevirtual 17, 3), (202, .if_icmp .eq 1117, 3), (205, .iconst 0, 1), (206, .ireturn, 1), (207, .aload_n 1, 1), (208, .aload_n 0, 1), (209, .iload_n 3, 1), (210, .iconst 1, 1), (211, .iadd, 1), (212, .iaload, 1), (213, .invokevirtual 18, 3), (216, .aload_n 2, 1), (217, .aload_n 0, 1), (218, .iload_n 3, 1), (219, .iconst 1, 1), (220, .iadd, 1), (221, .iaload, 1), (222, .invokevirtual 21, 3), (225, .if_icmp .eq 1094, 3), (228, .iconst 0, 1), (229, .ireturn, 1), (230, .aload_n 1, 1), (231, .aload_n 0, 1), (232, .iload_n 3, 1), (233, .iconst 1, 1)]
theorem mL_law_0 : okd cL_law lmL_law_0 = true := by decide +kernel
theorem dL_law_0 : decode cL_law 0 = .ok (.new 7, 3) := okd_at mL_law_0 0 rfl
theorem dL_law_3 : decode cL_law 3 = .ok (.dup, 1) := okd_at mL_law_0 1 rfl
theorem dL_law_4 : decode cL_law 4 = .ok (.invokespecial 9, 3) := okd_at mL_law_0 2 rfl
theorem dL_law_7 : decode cL_law 7 = .ok (.astore_n 1, 1) := okd_at mL_law_0 3 rfl
theorem dL_law_8 : decode cL_law 8 = .ok (.new 10, 3) := okd_at mL_law_0 4 rfl
theorem dL_law_11 : decode cL_law 11 = .ok (.dup, 1) := okd_at mL_law_0 5 rfl
theorem dL_law_12 : decode cL_law 12 = .ok (.invokespecial 12, 3) := okd_at mL_law_0 6 rfl
theorem dL_law_15 : decode cL_law 15 = .ok (.astore_n 2, 1) := okd_at mL_law_0 7 rfl
theorem dL_law_16 : decode cL_law 16 = .ok (.iconst 0, 1) := okd_at mL_law_0 8 rfl
theorem dL_law_17 : decode cL_law 17 = .ok (.istore_n 3, 1) := okd_at mL_law_0 9 rfl
theorem dL_law_18 : decode cL_law 18 = .ok (.iload_n 3, 1) := okd_at mL_law_0 10 rfl
theorem dL_law_19 : decode cL_law 19 = .ok (.aload_n 0, 1) := okd_at mL_law_0 11 rfl
theorem dL_law_20 : decode cL_law 20 = .ok (.arraylength, 1) := okd_at mL_law_0 12 rfl
theorem dL_law_21 : decode cL_law 21 = .ok (.bipush 7, 2) := okd_at mL_law_0 13 rfl
theorem dL_law_23 : decode cL_law 23 = .ok (.isub, 1) := okd_at mL_law_0 14 rfl
theorem dL_law_24 : decode cL_law 24 = .ok (.if_icmp .gt 1301, 3) := okd_at mL_law_0 15 rfl
theorem dL_law_27 : decode cL_law 27 = .ok (.aload_n 0, 1) := okd_at mL_law_0 16 rfl
theorem dL_law_28 : decode cL_law 28 = .ok (.iload_n 3, 1) := okd_at mL_law_0 17 rfl
theorem dL_law_29 : decode cL_law 29 = .ok (.iaload, 1) := okd_at mL_law_0 18 rfl
theorem dL_law_30 : decode cL_law 30 = .ok (.bipush 63, 2) := okd_at mL_law_0 19 rfl
theorem dL_law_32 : decode cL_law 32 = .ok (.iand, 1) := okd_at mL_law_0 20 rfl
theorem dL_law_33 : decode cL_law 33 = .ok (.tableswitch 1286 0 33 #[151, 174, 197, 240, 273, 348, 361, 384, 437, 470, 513, 546, 579, 612, 635, 658, 681, 704, 727, 750, 783, 806, 849, 892, 915, 938, 971, 1025, 1038, 1051, 1094, 1137, 1200, 1253], 151) := okd_at mL_law_0 21 rfl
theorem dL_law_184 : decode cL_law 184 = .ok (.aload_n 1, 1) := okd_at mL_law_0 22 rfl
theorem dL_law_185 : decode cL_law 185 = .ok (.aload_n 0, 1) := okd_at mL_law_0 23 rfl
theorem dL_law_186 : decode cL_law 186 = .ok (.iload_n 3, 1) := okd_at mL_law_0 24 rfl
theorem dL_law_187 : decode cL_law 187 = .ok (.iconst 1, 1) := okd_at mL_law_0 25 rfl
theorem dL_law_188 : decode cL_law 188 = .ok (.iadd, 1) := okd_at mL_law_0 26 rfl
theorem dL_law_189 : decode cL_law 189 = .ok (.iaload, 1) := okd_at mL_law_0 27 rfl
theorem dL_law_190 : decode cL_law 190 = .ok (.invokevirtual 13, 3) := okd_at mL_law_0 28 rfl
theorem dL_law_193 : decode cL_law 193 = .ok (.aload_n 2, 1) := okd_at mL_law_0 29 rfl
theorem dL_law_194 : decode cL_law 194 = .ok (.aload_n 0, 1) := okd_at mL_law_0 30 rfl
theorem dL_law_195 : decode cL_law 195 = .ok (.iload_n 3, 1) := okd_at mL_law_0 31 rfl
theorem dL_law_196 : decode cL_law 196 = .ok (.iconst 1, 1) := okd_at mL_law_0 32 rfl
theorem dL_law_197 : decode cL_law 197 = .ok (.iadd, 1) := okd_at mL_law_0 33 rfl
theorem dL_law_198 : decode cL_law 198 = .ok (.iaload, 1) := okd_at mL_law_0 34 rfl
theorem dL_law_199 : decode cL_law 199 = .ok (.invokevirtual 17, 3) := okd_at mL_law_0 35 rfl
theorem dL_law_202 : decode cL_law 202 = .ok (.if_icmp .eq 1117, 3) := okd_at mL_law_0 36 rfl
theorem dL_law_205 : decode cL_law 205 = .ok (.iconst 0, 1) := okd_at mL_law_0 37 rfl
theorem dL_law_206 : decode cL_law 206 = .ok (.ireturn, 1) := okd_at mL_law_0 38 rfl
theorem dL_law_207 : decode cL_law 207 = .ok (.aload_n 1, 1) := okd_at mL_law_0 39 rfl
theorem dL_law_208 : decode cL_law 208 = .ok (.aload_n 0, 1) := okd_at mL_law_0 40 rfl
theorem dL_law_209 : decode cL_law 209 = .ok (.iload_n 3, 1) := okd_at mL_law_0 41 rfl
theorem dL_law_210 : decode cL_law 210 = .ok (.iconst 1, 1) := okd_at mL_law_0 42 rfl
theorem dL_law_211 : decode cL_law 211 = .ok (.iadd, 1) := okd_at mL_law_0 43 rfl
theorem dL_law_212 : decode cL_law 212 = .ok (.iaload, 1) := okd_at mL_law_0 44 rfl
theorem dL_law_213 : decode cL_law 213 = .ok (.invokevirtual 18, 3) := okd_at mL_law_0 45 rfl
theorem dL_law_216 : decode cL_law 216 = .ok (.aload_n 2, 1) := okd_at mL_law_0 46 rfl
theorem dL_law_217 : decode cL_law 217 = .ok (.aload_n 0, 1) := okd_at mL_law_0 47 rfl
theorem dL_law_218 : decode cL_law 218 = .ok (.iload_n 3, 1) := okd_at mL_law_0 48 rfl
theorem dL_law_219 : decode cL_law 219 = .ok (.iconst 1, 1) := okd_at mL_law_0 49 rfl
theorem dL_law_220 : decode cL_law 220 = .ok (.iadd, 1) := okd_at mL_law_0 50 rfl
theorem dL_law_221 : decode cL_law 221 = .ok (.iaload, 1) := okd_at mL_law_0 51 rfl
theorem dL_law_222 : decode cL_law 222 = .ok (.invokevirtual 21, 3) := okd_at mL_law_0 52 rfl
theorem dL_law_225 : decode cL_law 225 = .ok (.if_icmp .eq 1094, 3) := okd_at mL_law_0 53 rfl
theorem dL_law_228 : decode cL_law 228 = .ok (.iconst 0, 1) := okd_at mL_law_0 54 rfl
theorem dL_law_229 : decode cL_law 229 = .ok (.ireturn, 1) := okd_at mL_law_0 55 rfl
theorem dL_law_230 : decode cL_law 230 = .ok (.aload_n 1, 1) := okd_at mL_law_0 56 rfl
theorem dL_law_231 : decode cL_law 231 = .ok (.aload_n 0, 1) := okd_at mL_law_0 57 rfl
theorem dL_law_232 : decode cL_law 232 = .ok (.iload_n 3, 1) := okd_at mL_law_0 58 rfl
theorem dL_law_233 : decode cL_law 233 = .ok (.iconst 1, 1) := okd_at mL_law_0 59 rfl
def lmL_law_1 : List (Nat × Instr × Nat) := [(234, .iadd, 1), (235, .iaload, 1), (236, .aload_n 0, 1), (237, .iload_n 3, 1), (238, .iconst 2, 1), (239, .iadd, 1), (240, .iaload, 1), (241, .aload_n 0, 1), (242, .iload_n 3, 1), (243, .iconst 3, 1), (244, .iadd, 1), (245, .iaload, 1), (246, .invokevirtual 22, 3), (249, .aload_n 2, 1), (250, .aload_n 0, 1), (251, .iload_n 3, 1), (252, .iconst 1, 1), (253, .iadd, 1), (254, .iaload, 1), (255, .aload_n 0, 1), (256, .iload_n 3, 1), (257, .iconst 2, 1), (258, .iadd, 1), (259, .iaload, 1), (260, .aload_n 0, 1), (261, .iload_n 3, 1), (262, .iconst 3, 1), (263, .iadd, 1), (264, .iaload, 1), (265, .invokevirtual 26, 3), (268, .if_icmp .eq 1051, 3), (271, .iconst 0, 1), (272, .ireturn, 1), (273, .aload_n 1, 1), (274, .aload_n 0, 1), (275, .iload_n 3, 1), (276, .iconst 1, 1), (277, .iadd, 1), (278, .iaload, 1), (279, .aload_n 0, 1), (280, .iload_n 3, 1), (281, .iconst 2, 1), (282, .iadd, 1), (283, .iaload, 1), (284, .invokevirtual 27, 3), (287, .aload_n 2, 1), (288, .aload_n 0, 1), (289, .iload_n 3, 1), (290, .iconst 1, 1), (291, .iadd, 1), (292, .iaload, 1), (293, .aload_n 0, 1), (294, .iload_n 3, 1), (295, .iconst 2, 1), (296, .iadd, 1), (297, .iaload, 1), (298, .invokevirtual 31, 3), (301, .if_icmp .eq 1018, 3), (304, .iconst 0, 1), (305, .ireturn, 1)]
theorem mL_law_1 : okd cL_law lmL_law_1 = true := by decide +kernel
theorem dL_law_234 : decode cL_law 234 = .ok (.iadd, 1) := okd_at mL_law_1 0 rfl
theorem dL_law_235 : decode cL_law 235 = .ok (.iaload, 1) := okd_at mL_law_1 1 rfl
theorem dL_law_236 : decode cL_law 236 = .ok (.aload_n 0, 1) := okd_at mL_law_1 2 rfl
theorem dL_law_237 : decode cL_law 237 = .ok (.iload_n 3, 1) := okd_at mL_law_1 3 rfl
theorem dL_law_238 : decode cL_law 238 = .ok (.iconst 2, 1) := okd_at mL_law_1 4 rfl
theorem dL_law_239 : decode cL_law 239 = .ok (.iadd, 1) := okd_at mL_law_1 5 rfl
theorem dL_law_240 : decode cL_law 240 = .ok (.iaload, 1) := okd_at mL_law_1 6 rfl
theorem dL_law_241 : decode cL_law 241 = .ok (.aload_n 0, 1) := okd_at mL_law_1 7 rfl
theorem dL_law_242 : decode cL_law 242 = .ok (.iload_n 3, 1) := okd_at mL_law_1 8 rfl
theorem dL_law_243 : decode cL_law 243 = .ok (.iconst 3, 1) := okd_at mL_law_1 9 rfl
theorem dL_law_244 : decode cL_law 244 = .ok (.iadd, 1) := okd_at mL_law_1 10 rfl
theorem dL_law_245 : decode cL_law 245 = .ok (.iaload, 1) := okd_at mL_law_1 11 rfl
theorem dL_law_246 : decode cL_law 246 = .ok (.invokevirtual 22, 3) := okd_at mL_law_1 12 rfl
theorem dL_law_249 : decode cL_law 249 = .ok (.aload_n 2, 1) := okd_at mL_law_1 13 rfl
theorem dL_law_250 : decode cL_law 250 = .ok (.aload_n 0, 1) := okd_at mL_law_1 14 rfl
theorem dL_law_251 : decode cL_law 251 = .ok (.iload_n 3, 1) := okd_at mL_law_1 15 rfl
theorem dL_law_252 : decode cL_law 252 = .ok (.iconst 1, 1) := okd_at mL_law_1 16 rfl
theorem dL_law_253 : decode cL_law 253 = .ok (.iadd, 1) := okd_at mL_law_1 17 rfl
theorem dL_law_254 : decode cL_law 254 = .ok (.iaload, 1) := okd_at mL_law_1 18 rfl
theorem dL_law_255 : decode cL_law 255 = .ok (.aload_n 0, 1) := okd_at mL_law_1 19 rfl
theorem dL_law_256 : decode cL_law 256 = .ok (.iload_n 3, 1) := okd_at mL_law_1 20 rfl
theorem dL_law_257 : decode cL_law 257 = .ok (.iconst 2, 1) := okd_at mL_law_1 21 rfl
theorem dL_law_258 : decode cL_law 258 = .ok (.iadd, 1) := okd_at mL_law_1 22 rfl
theorem dL_law_259 : decode cL_law 259 = .ok (.iaload, 1) := okd_at mL_law_1 23 rfl
theorem dL_law_260 : decode cL_law 260 = .ok (.aload_n 0, 1) := okd_at mL_law_1 24 rfl
theorem dL_law_261 : decode cL_law 261 = .ok (.iload_n 3, 1) := okd_at mL_law_1 25 rfl
theorem dL_law_262 : decode cL_law 262 = .ok (.iconst 3, 1) := okd_at mL_law_1 26 rfl
theorem dL_law_263 : decode cL_law 263 = .ok (.iadd, 1) := okd_at mL_law_1 27 rfl
theorem dL_law_264 : decode cL_law 264 = .ok (.iaload, 1) := okd_at mL_law_1 28 rfl
theorem dL_law_265 : decode cL_law 265 = .ok (.invokevirtual 26, 3) := okd_at mL_law_1 29 rfl
theorem dL_law_268 : decode cL_law 268 = .ok (.if_icmp .eq 1051, 3) := okd_at mL_law_1 30 rfl
theorem dL_law_271 : decode cL_law 271 = .ok (.iconst 0, 1) := okd_at mL_law_1 31 rfl
theorem dL_law_272 : decode cL_law 272 = .ok (.ireturn, 1) := okd_at mL_law_1 32 rfl
theorem dL_law_273 : decode cL_law 273 = .ok (.aload_n 1, 1) := okd_at mL_law_1 33 rfl
theorem dL_law_274 : decode cL_law 274 = .ok (.aload_n 0, 1) := okd_at mL_law_1 34 rfl
theorem dL_law_275 : decode cL_law 275 = .ok (.iload_n 3, 1) := okd_at mL_law_1 35 rfl
theorem dL_law_276 : decode cL_law 276 = .ok (.iconst 1, 1) := okd_at mL_law_1 36 rfl
theorem dL_law_277 : decode cL_law 277 = .ok (.iadd, 1) := okd_at mL_law_1 37 rfl
theorem dL_law_278 : decode cL_law 278 = .ok (.iaload, 1) := okd_at mL_law_1 38 rfl
theorem dL_law_279 : decode cL_law 279 = .ok (.aload_n 0, 1) := okd_at mL_law_1 39 rfl
theorem dL_law_280 : decode cL_law 280 = .ok (.iload_n 3, 1) := okd_at mL_law_1 40 rfl
theorem dL_law_281 : decode cL_law 281 = .ok (.iconst 2, 1) := okd_at mL_law_1 41 rfl
theorem dL_law_282 : decode cL_law 282 = .ok (.iadd, 1) := okd_at mL_law_1 42 rfl
theorem dL_law_283 : decode cL_law 283 = .ok (.iaload, 1) := okd_at mL_law_1 43 rfl
theorem dL_law_284 : decode cL_law 284 = .ok (.invokevirtual 27, 3) := okd_at mL_law_1 44 rfl
theorem dL_law_287 : decode cL_law 287 = .ok (.aload_n 2, 1) := okd_at mL_law_1 45 rfl
theorem dL_law_288 : decode cL_law 288 = .ok (.aload_n 0, 1) := okd_at mL_law_1 46 rfl
theorem dL_law_289 : decode cL_law 289 = .ok (.iload_n 3, 1) := okd_at mL_law_1 47 rfl
theorem dL_law_290 : decode cL_law 290 = .ok (.iconst 1, 1) := okd_at mL_law_1 48 rfl
theorem dL_law_291 : decode cL_law 291 = .ok (.iadd, 1) := okd_at mL_law_1 49 rfl
theorem dL_law_292 : decode cL_law 292 = .ok (.iaload, 1) := okd_at mL_law_1 50 rfl
theorem dL_law_293 : decode cL_law 293 = .ok (.aload_n 0, 1) := okd_at mL_law_1 51 rfl
theorem dL_law_294 : decode cL_law 294 = .ok (.iload_n 3, 1) := okd_at mL_law_1 52 rfl
theorem dL_law_295 : decode cL_law 295 = .ok (.iconst 2, 1) := okd_at mL_law_1 53 rfl
theorem dL_law_296 : decode cL_law 296 = .ok (.iadd, 1) := okd_at mL_law_1 54 rfl
theorem dL_law_297 : decode cL_law 297 = .ok (.iaload, 1) := okd_at mL_law_1 55 rfl
theorem dL_law_298 : decode cL_law 298 = .ok (.invokevirtual 31, 3) := okd_at mL_law_1 56 rfl
theorem dL_law_301 : decode cL_law 301 = .ok (.if_icmp .eq 1018, 3) := okd_at mL_law_1 57 rfl
theorem dL_law_304 : decode cL_law 304 = .ok (.iconst 0, 1) := okd_at mL_law_1 58 rfl
theorem dL_law_305 : decode cL_law 305 = .ok (.ireturn, 1) := okd_at mL_law_1 59 rfl
def lmL_law_2 : List (Nat × Instr × Nat) := [(306, .aload_n 1, 1), (307, .aload_n 0, 1), (308, .iload_n 3, 1), (309, .iconst 1, 1), (310, .iadd, 1), (311, .iaload, 1), (312, .aload_n 0, 1), (313, .iload_n 3, 1), (314, .iconst 2, 1), (315, .iadd, 1), (316, .iaload, 1), (317, .aload_n 0, 1), (318, .iload_n 3, 1), (319, .iconst 3, 1), (320, .iadd, 1), (321, .iaload, 1), (322, .aload_n 0, 1), (323, .iload_n 3, 1), (324, .iconst 4, 1), (325, .iadd, 1), (326, .iaload, 1), (327, .aload_n 0, 1), (328, .iload_n 3, 1), (329, .iconst 5, 1), (330, .iadd, 1), (331, .iaload, 1), (332, .aload_n 0, 1), (333, .iload_n 3, 1), (334, .bipush 6, 2), (336, .iadd, 1), (337, .iaload, 1), (338, .invokevirtual 32, 3), (341, .aload_n 2, 1), (342, .aload_n 0, 1), (343, .iload_n 3, 1), (344, .iconst 1, 1), (345, .iadd, 1), (346, .iaload, 1), (347, .aload_n 0, 1), (348, .iload_n 3, 1), (349, .iconst 2, 1), (350, .iadd, 1), (351, .iaload, 1), (352, .aload_n 0, 1), (353, .iload_n 3, 1), (354, .iconst 3, 1), (355, .iadd, 1), (356, .iaload, 1), (357, .aload_n 0, 1), (358, .iload_n 3, 1), (359, .iconst 4, 1), (360, .iadd, 1), (361, .iaload, 1), (362, .aload_n 0, 1), (363, .iload_n 3, 1), (364, .iconst 5, 1), (365, .iadd, 1), (366, .iaload, 1), (367, .aload_n 0, 1), (368, .iload_n 3, 1)]
theorem mL_law_2 : okd cL_law lmL_law_2 = true := by decide +kernel
theorem dL_law_306 : decode cL_law 306 = .ok (.aload_n 1, 1) := okd_at mL_law_2 0 rfl
theorem dL_law_307 : decode cL_law 307 = .ok (.aload_n 0, 1) := okd_at mL_law_2 1 rfl
theorem dL_law_308 : decode cL_law 308 = .ok (.iload_n 3, 1) := okd_at mL_law_2 2 rfl
theorem dL_law_309 : decode cL_law 309 = .ok (.iconst 1, 1) := okd_at mL_law_2 3 rfl
theorem dL_law_310 : decode cL_law 310 = .ok (.iadd, 1) := okd_at mL_law_2 4 rfl
theorem dL_law_311 : decode cL_law 311 = .ok (.iaload, 1) := okd_at mL_law_2 5 rfl
theorem dL_law_312 : decode cL_law 312 = .ok (.aload_n 0, 1) := okd_at mL_law_2 6 rfl
theorem dL_law_313 : decode cL_law 313 = .ok (.iload_n 3, 1) := okd_at mL_law_2 7 rfl
theorem dL_law_314 : decode cL_law 314 = .ok (.iconst 2, 1) := okd_at mL_law_2 8 rfl
theorem dL_law_315 : decode cL_law 315 = .ok (.iadd, 1) := okd_at mL_law_2 9 rfl
theorem dL_law_316 : decode cL_law 316 = .ok (.iaload, 1) := okd_at mL_law_2 10 rfl
theorem dL_law_317 : decode cL_law 317 = .ok (.aload_n 0, 1) := okd_at mL_law_2 11 rfl
theorem dL_law_318 : decode cL_law 318 = .ok (.iload_n 3, 1) := okd_at mL_law_2 12 rfl
theorem dL_law_319 : decode cL_law 319 = .ok (.iconst 3, 1) := okd_at mL_law_2 13 rfl
theorem dL_law_320 : decode cL_law 320 = .ok (.iadd, 1) := okd_at mL_law_2 14 rfl
theorem dL_law_321 : decode cL_law 321 = .ok (.iaload, 1) := okd_at mL_law_2 15 rfl
theorem dL_law_322 : decode cL_law 322 = .ok (.aload_n 0, 1) := okd_at mL_law_2 16 rfl
theorem dL_law_323 : decode cL_law 323 = .ok (.iload_n 3, 1) := okd_at mL_law_2 17 rfl
theorem dL_law_324 : decode cL_law 324 = .ok (.iconst 4, 1) := okd_at mL_law_2 18 rfl
theorem dL_law_325 : decode cL_law 325 = .ok (.iadd, 1) := okd_at mL_law_2 19 rfl
theorem dL_law_326 : decode cL_law 326 = .ok (.iaload, 1) := okd_at mL_law_2 20 rfl
theorem dL_law_327 : decode cL_law 327 = .ok (.aload_n 0, 1) := okd_at mL_law_2 21 rfl
theorem dL_law_328 : decode cL_law 328 = .ok (.iload_n 3, 1) := okd_at mL_law_2 22 rfl
theorem dL_law_329 : decode cL_law 329 = .ok (.iconst 5, 1) := okd_at mL_law_2 23 rfl
theorem dL_law_330 : decode cL_law 330 = .ok (.iadd, 1) := okd_at mL_law_2 24 rfl
theorem dL_law_331 : decode cL_law 331 = .ok (.iaload, 1) := okd_at mL_law_2 25 rfl
theorem dL_law_332 : decode cL_law 332 = .ok (.aload_n 0, 1) := okd_at mL_law_2 26 rfl
theorem dL_law_333 : decode cL_law 333 = .ok (.iload_n 3, 1) := okd_at mL_law_2 27 rfl
theorem dL_law_334 : decode cL_law 334 = .ok (.bipush 6, 2) := okd_at mL_law_2 28 rfl
theorem dL_law_336 : decode cL_law 336 = .ok (.iadd, 1) := okd_at mL_law_2 29 rfl
theorem dL_law_337 : decode cL_law 337 = .ok (.iaload, 1) := okd_at mL_law_2 30 rfl
theorem dL_law_338 : decode cL_law 338 = .ok (.invokevirtual 32, 3) := okd_at mL_law_2 31 rfl
theorem dL_law_341 : decode cL_law 341 = .ok (.aload_n 2, 1) := okd_at mL_law_2 32 rfl
theorem dL_law_342 : decode cL_law 342 = .ok (.aload_n 0, 1) := okd_at mL_law_2 33 rfl
theorem dL_law_343 : decode cL_law 343 = .ok (.iload_n 3, 1) := okd_at mL_law_2 34 rfl
theorem dL_law_344 : decode cL_law 344 = .ok (.iconst 1, 1) := okd_at mL_law_2 35 rfl
theorem dL_law_345 : decode cL_law 345 = .ok (.iadd, 1) := okd_at mL_law_2 36 rfl
theorem dL_law_346 : decode cL_law 346 = .ok (.iaload, 1) := okd_at mL_law_2 37 rfl
theorem dL_law_347 : decode cL_law 347 = .ok (.aload_n 0, 1) := okd_at mL_law_2 38 rfl
theorem dL_law_348 : decode cL_law 348 = .ok (.iload_n 3, 1) := okd_at mL_law_2 39 rfl
theorem dL_law_349 : decode cL_law 349 = .ok (.iconst 2, 1) := okd_at mL_law_2 40 rfl
theorem dL_law_350 : decode cL_law 350 = .ok (.iadd, 1) := okd_at mL_law_2 41 rfl
theorem dL_law_351 : decode cL_law 351 = .ok (.iaload, 1) := okd_at mL_law_2 42 rfl
theorem dL_law_352 : decode cL_law 352 = .ok (.aload_n 0, 1) := okd_at mL_law_2 43 rfl
theorem dL_law_353 : decode cL_law 353 = .ok (.iload_n 3, 1) := okd_at mL_law_2 44 rfl
theorem dL_law_354 : decode cL_law 354 = .ok (.iconst 3, 1) := okd_at mL_law_2 45 rfl
theorem dL_law_355 : decode cL_law 355 = .ok (.iadd, 1) := okd_at mL_law_2 46 rfl
theorem dL_law_356 : decode cL_law 356 = .ok (.iaload, 1) := okd_at mL_law_2 47 rfl
theorem dL_law_357 : decode cL_law 357 = .ok (.aload_n 0, 1) := okd_at mL_law_2 48 rfl
theorem dL_law_358 : decode cL_law 358 = .ok (.iload_n 3, 1) := okd_at mL_law_2 49 rfl
theorem dL_law_359 : decode cL_law 359 = .ok (.iconst 4, 1) := okd_at mL_law_2 50 rfl
theorem dL_law_360 : decode cL_law 360 = .ok (.iadd, 1) := okd_at mL_law_2 51 rfl
theorem dL_law_361 : decode cL_law 361 = .ok (.iaload, 1) := okd_at mL_law_2 52 rfl
theorem dL_law_362 : decode cL_law 362 = .ok (.aload_n 0, 1) := okd_at mL_law_2 53 rfl
theorem dL_law_363 : decode cL_law 363 = .ok (.iload_n 3, 1) := okd_at mL_law_2 54 rfl
theorem dL_law_364 : decode cL_law 364 = .ok (.iconst 5, 1) := okd_at mL_law_2 55 rfl
theorem dL_law_365 : decode cL_law 365 = .ok (.iadd, 1) := okd_at mL_law_2 56 rfl
theorem dL_law_366 : decode cL_law 366 = .ok (.iaload, 1) := okd_at mL_law_2 57 rfl
theorem dL_law_367 : decode cL_law 367 = .ok (.aload_n 0, 1) := okd_at mL_law_2 58 rfl
theorem dL_law_368 : decode cL_law 368 = .ok (.iload_n 3, 1) := okd_at mL_law_2 59 rfl
def lmL_law_3 : List (Nat × Instr × Nat) := [(369, .bipush 6, 2), (371, .iadd, 1), (372, .iaload, 1), (373, .invokevirtual 36, 3), (376, .if_icmp .eq 943, 3), (379, .iconst 0, 1), (380, .ireturn, 1), (381, .aload_n 1, 1), (382, .invokevirtual 37, 3), (385, .aload_n 2, 1), (386, .invokevirtual 41, 3), (389, .if_icmp .eq 930, 3), (392, .iconst 0, 1), (393, .ireturn, 1), (394, .aload_n 1, 1), (395, .aload_n 0, 1), (396, .iload_n 3, 1), (397, .iconst 1, 1), (398, .iadd, 1), (399, .iaload, 1), (400, .invokevirtual 42, 3), (403, .aload_n 2, 1), (404, .aload_n 0, 1), (405, .iload_n 3, 1), (406, .iconst 1, 1), (407, .iadd, 1), (408, .iaload, 1), (409, .invokevirtual 45, 3), (412, .if_icmp .eq 907, 3), (415, .iconst 0, 1), (416, .ireturn, 1), (417, .aload_n 1, 1), (418, .aload_n 0, 1), (419, .iload_n 3, 1), (420, .iconst 1, 1), (421, .iadd, 1), (422, .iaload, 1), (423, .aload_n 0, 1), (424, .iload_n 3, 1), (425, .iconst 2, 1), (426, .iadd, 1), (427, .iaload, 1), (428, .aload_n 0, 1), (429, .iload_n 3, 1), (430, .iconst 3, 1), (431, .iadd, 1), (432, .iaload, 1), (433, .aload_n 0, 1), (434, .iload_n 3, 1), (435, .iconst 4, 1), (436, .iadd, 1), (437, .iaload, 1), (438, .invokevirtual 46, 3), (441, .aload_n 2, 1), (442, .aload_n 0, 1), (443, .iload_n 3, 1), (444, .iconst 1, 1), (445, .iadd, 1), (446, .iaload, 1), (447, .aload_n 0, 1)]
theorem mL_law_3 : okd cL_law lmL_law_3 = true := by decide +kernel
theorem dL_law_369 : decode cL_law 369 = .ok (.bipush 6, 2) := okd_at mL_law_3 0 rfl
theorem dL_law_371 : decode cL_law 371 = .ok (.iadd, 1) := okd_at mL_law_3 1 rfl
theorem dL_law_372 : decode cL_law 372 = .ok (.iaload, 1) := okd_at mL_law_3 2 rfl
theorem dL_law_373 : decode cL_law 373 = .ok (.invokevirtual 36, 3) := okd_at mL_law_3 3 rfl
theorem dL_law_376 : decode cL_law 376 = .ok (.if_icmp .eq 943, 3) := okd_at mL_law_3 4 rfl
theorem dL_law_379 : decode cL_law 379 = .ok (.iconst 0, 1) := okd_at mL_law_3 5 rfl
theorem dL_law_380 : decode cL_law 380 = .ok (.ireturn, 1) := okd_at mL_law_3 6 rfl
theorem dL_law_381 : decode cL_law 381 = .ok (.aload_n 1, 1) := okd_at mL_law_3 7 rfl
theorem dL_law_382 : decode cL_law 382 = .ok (.invokevirtual 37, 3) := okd_at mL_law_3 8 rfl
theorem dL_law_385 : decode cL_law 385 = .ok (.aload_n 2, 1) := okd_at mL_law_3 9 rfl
theorem dL_law_386 : decode cL_law 386 = .ok (.invokevirtual 41, 3) := okd_at mL_law_3 10 rfl
theorem dL_law_389 : decode cL_law 389 = .ok (.if_icmp .eq 930, 3) := okd_at mL_law_3 11 rfl
theorem dL_law_392 : decode cL_law 392 = .ok (.iconst 0, 1) := okd_at mL_law_3 12 rfl
theorem dL_law_393 : decode cL_law 393 = .ok (.ireturn, 1) := okd_at mL_law_3 13 rfl
theorem dL_law_394 : decode cL_law 394 = .ok (.aload_n 1, 1) := okd_at mL_law_3 14 rfl
theorem dL_law_395 : decode cL_law 395 = .ok (.aload_n 0, 1) := okd_at mL_law_3 15 rfl
theorem dL_law_396 : decode cL_law 396 = .ok (.iload_n 3, 1) := okd_at mL_law_3 16 rfl
theorem dL_law_397 : decode cL_law 397 = .ok (.iconst 1, 1) := okd_at mL_law_3 17 rfl
theorem dL_law_398 : decode cL_law 398 = .ok (.iadd, 1) := okd_at mL_law_3 18 rfl
theorem dL_law_399 : decode cL_law 399 = .ok (.iaload, 1) := okd_at mL_law_3 19 rfl
theorem dL_law_400 : decode cL_law 400 = .ok (.invokevirtual 42, 3) := okd_at mL_law_3 20 rfl
theorem dL_law_403 : decode cL_law 403 = .ok (.aload_n 2, 1) := okd_at mL_law_3 21 rfl
theorem dL_law_404 : decode cL_law 404 = .ok (.aload_n 0, 1) := okd_at mL_law_3 22 rfl
theorem dL_law_405 : decode cL_law 405 = .ok (.iload_n 3, 1) := okd_at mL_law_3 23 rfl
theorem dL_law_406 : decode cL_law 406 = .ok (.iconst 1, 1) := okd_at mL_law_3 24 rfl
theorem dL_law_407 : decode cL_law 407 = .ok (.iadd, 1) := okd_at mL_law_3 25 rfl
theorem dL_law_408 : decode cL_law 408 = .ok (.iaload, 1) := okd_at mL_law_3 26 rfl
theorem dL_law_409 : decode cL_law 409 = .ok (.invokevirtual 45, 3) := okd_at mL_law_3 27 rfl
theorem dL_law_412 : decode cL_law 412 = .ok (.if_icmp .eq 907, 3) := okd_at mL_law_3 28 rfl
theorem dL_law_415 : decode cL_law 415 = .ok (.iconst 0, 1) := okd_at mL_law_3 29 rfl
theorem dL_law_416 : decode cL_law 416 = .ok (.ireturn, 1) := okd_at mL_law_3 30 rfl
theorem dL_law_417 : decode cL_law 417 = .ok (.aload_n 1, 1) := okd_at mL_law_3 31 rfl
theorem dL_law_418 : decode cL_law 418 = .ok (.aload_n 0, 1) := okd_at mL_law_3 32 rfl
theorem dL_law_419 : decode cL_law 419 = .ok (.iload_n 3, 1) := okd_at mL_law_3 33 rfl
theorem dL_law_420 : decode cL_law 420 = .ok (.iconst 1, 1) := okd_at mL_law_3 34 rfl
theorem dL_law_421 : decode cL_law 421 = .ok (.iadd, 1) := okd_at mL_law_3 35 rfl
theorem dL_law_422 : decode cL_law 422 = .ok (.iaload, 1) := okd_at mL_law_3 36 rfl
theorem dL_law_423 : decode cL_law 423 = .ok (.aload_n 0, 1) := okd_at mL_law_3 37 rfl
theorem dL_law_424 : decode cL_law 424 = .ok (.iload_n 3, 1) := okd_at mL_law_3 38 rfl
theorem dL_law_425 : decode cL_law 425 = .ok (.iconst 2, 1) := okd_at mL_law_3 39 rfl
theorem dL_law_426 : decode cL_law 426 = .ok (.iadd, 1) := okd_at mL_law_3 40 rfl
theorem dL_law_427 : decode cL_law 427 = .ok (.iaload, 1) := okd_at mL_law_3 41 rfl
theorem dL_law_428 : decode cL_law 428 = .ok (.aload_n 0, 1) := okd_at mL_law_3 42 rfl
theorem dL_law_429 : decode cL_law 429 = .ok (.iload_n 3, 1) := okd_at mL_law_3 43 rfl
theorem dL_law_430 : decode cL_law 430 = .ok (.iconst 3, 1) := okd_at mL_law_3 44 rfl
theorem dL_law_431 : decode cL_law 431 = .ok (.iadd, 1) := okd_at mL_law_3 45 rfl
theorem dL_law_432 : decode cL_law 432 = .ok (.iaload, 1) := okd_at mL_law_3 46 rfl
theorem dL_law_433 : decode cL_law 433 = .ok (.aload_n 0, 1) := okd_at mL_law_3 47 rfl
theorem dL_law_434 : decode cL_law 434 = .ok (.iload_n 3, 1) := okd_at mL_law_3 48 rfl
theorem dL_law_435 : decode cL_law 435 = .ok (.iconst 4, 1) := okd_at mL_law_3 49 rfl
theorem dL_law_436 : decode cL_law 436 = .ok (.iadd, 1) := okd_at mL_law_3 50 rfl
theorem dL_law_437 : decode cL_law 437 = .ok (.iaload, 1) := okd_at mL_law_3 51 rfl
theorem dL_law_438 : decode cL_law 438 = .ok (.invokevirtual 46, 3) := okd_at mL_law_3 52 rfl
theorem dL_law_441 : decode cL_law 441 = .ok (.aload_n 2, 1) := okd_at mL_law_3 53 rfl
theorem dL_law_442 : decode cL_law 442 = .ok (.aload_n 0, 1) := okd_at mL_law_3 54 rfl
theorem dL_law_443 : decode cL_law 443 = .ok (.iload_n 3, 1) := okd_at mL_law_3 55 rfl
theorem dL_law_444 : decode cL_law 444 = .ok (.iconst 1, 1) := okd_at mL_law_3 56 rfl
theorem dL_law_445 : decode cL_law 445 = .ok (.iadd, 1) := okd_at mL_law_3 57 rfl
theorem dL_law_446 : decode cL_law 446 = .ok (.iaload, 1) := okd_at mL_law_3 58 rfl
theorem dL_law_447 : decode cL_law 447 = .ok (.aload_n 0, 1) := okd_at mL_law_3 59 rfl
def lmL_law_4 : List (Nat × Instr × Nat) := [(448, .iload_n 3, 1), (449, .iconst 2, 1), (450, .iadd, 1), (451, .iaload, 1), (452, .aload_n 0, 1), (453, .iload_n 3, 1), (454, .iconst 3, 1), (455, .iadd, 1), (456, .iaload, 1), (457, .aload_n 0, 1), (458, .iload_n 3, 1), (459, .iconst 4, 1), (460, .iadd, 1), (461, .iaload, 1), (462, .invokevirtual 50, 3), (465, .if_icmp .eq 854, 3), (468, .iconst 0, 1), (469, .ireturn, 1), (470, .aload_n 1, 1), (471, .aload_n 0, 1), (472, .iload_n 3, 1), (473, .iconst 1, 1), (474, .iadd, 1), (475, .iaload, 1), (476, .aload_n 0, 1), (477, .iload_n 3, 1), (478, .iconst 2, 1), (479, .iadd, 1), (480, .iaload, 1), (481, .invokevirtual 51, 3), (484, .aload_n 2, 1), (485, .aload_n 0, 1), (486, .iload_n 3, 1), (487, .iconst 1, 1), (488, .iadd, 1), (489, .iaload, 1), (490, .aload_n 0, 1), (491, .iload_n 3, 1), (492, .iconst 2, 1), (493, .iadd, 1), (494, .iaload, 1), (495, .invokevirtual 54, 3), (498, .if_icmp .eq 821, 3), (501, .iconst 0, 1), (502, .ireturn, 1), (503, .aload_n 1, 1), (504, .aload_n 0, 1), (505, .iload_n 3, 1), (506, .iconst 1, 1), (507, .iadd, 1), (508, .iaload, 1), (509, .aload_n 0, 1), (510, .iload_n 3, 1), (511, .iconst 2, 1), (512, .iadd, 1), (513, .iaload, 1), (514, .aload_n 0, 1), (515, .iload_n 3, 1), (516, .iconst 3, 1), (517, .iadd, 1)]
theorem mL_law_4 : okd cL_law lmL_law_4 = true := by decide +kernel
theorem dL_law_448 : decode cL_law 448 = .ok (.iload_n 3, 1) := okd_at mL_law_4 0 rfl
theorem dL_law_449 : decode cL_law 449 = .ok (.iconst 2, 1) := okd_at mL_law_4 1 rfl
theorem dL_law_450 : decode cL_law 450 = .ok (.iadd, 1) := okd_at mL_law_4 2 rfl
theorem dL_law_451 : decode cL_law 451 = .ok (.iaload, 1) := okd_at mL_law_4 3 rfl
theorem dL_law_452 : decode cL_law 452 = .ok (.aload_n 0, 1) := okd_at mL_law_4 4 rfl
theorem dL_law_453 : decode cL_law 453 = .ok (.iload_n 3, 1) := okd_at mL_law_4 5 rfl
theorem dL_law_454 : decode cL_law 454 = .ok (.iconst 3, 1) := okd_at mL_law_4 6 rfl
theorem dL_law_455 : decode cL_law 455 = .ok (.iadd, 1) := okd_at mL_law_4 7 rfl
theorem dL_law_456 : decode cL_law 456 = .ok (.iaload, 1) := okd_at mL_law_4 8 rfl
theorem dL_law_457 : decode cL_law 457 = .ok (.aload_n 0, 1) := okd_at mL_law_4 9 rfl
theorem dL_law_458 : decode cL_law 458 = .ok (.iload_n 3, 1) := okd_at mL_law_4 10 rfl
theorem dL_law_459 : decode cL_law 459 = .ok (.iconst 4, 1) := okd_at mL_law_4 11 rfl
theorem dL_law_460 : decode cL_law 460 = .ok (.iadd, 1) := okd_at mL_law_4 12 rfl
theorem dL_law_461 : decode cL_law 461 = .ok (.iaload, 1) := okd_at mL_law_4 13 rfl
theorem dL_law_462 : decode cL_law 462 = .ok (.invokevirtual 50, 3) := okd_at mL_law_4 14 rfl
theorem dL_law_465 : decode cL_law 465 = .ok (.if_icmp .eq 854, 3) := okd_at mL_law_4 15 rfl
theorem dL_law_468 : decode cL_law 468 = .ok (.iconst 0, 1) := okd_at mL_law_4 16 rfl
theorem dL_law_469 : decode cL_law 469 = .ok (.ireturn, 1) := okd_at mL_law_4 17 rfl
theorem dL_law_470 : decode cL_law 470 = .ok (.aload_n 1, 1) := okd_at mL_law_4 18 rfl
theorem dL_law_471 : decode cL_law 471 = .ok (.aload_n 0, 1) := okd_at mL_law_4 19 rfl
theorem dL_law_472 : decode cL_law 472 = .ok (.iload_n 3, 1) := okd_at mL_law_4 20 rfl
theorem dL_law_473 : decode cL_law 473 = .ok (.iconst 1, 1) := okd_at mL_law_4 21 rfl
theorem dL_law_474 : decode cL_law 474 = .ok (.iadd, 1) := okd_at mL_law_4 22 rfl
theorem dL_law_475 : decode cL_law 475 = .ok (.iaload, 1) := okd_at mL_law_4 23 rfl
theorem dL_law_476 : decode cL_law 476 = .ok (.aload_n 0, 1) := okd_at mL_law_4 24 rfl
theorem dL_law_477 : decode cL_law 477 = .ok (.iload_n 3, 1) := okd_at mL_law_4 25 rfl
theorem dL_law_478 : decode cL_law 478 = .ok (.iconst 2, 1) := okd_at mL_law_4 26 rfl
theorem dL_law_479 : decode cL_law 479 = .ok (.iadd, 1) := okd_at mL_law_4 27 rfl
theorem dL_law_480 : decode cL_law 480 = .ok (.iaload, 1) := okd_at mL_law_4 28 rfl
theorem dL_law_481 : decode cL_law 481 = .ok (.invokevirtual 51, 3) := okd_at mL_law_4 29 rfl
theorem dL_law_484 : decode cL_law 484 = .ok (.aload_n 2, 1) := okd_at mL_law_4 30 rfl
theorem dL_law_485 : decode cL_law 485 = .ok (.aload_n 0, 1) := okd_at mL_law_4 31 rfl
theorem dL_law_486 : decode cL_law 486 = .ok (.iload_n 3, 1) := okd_at mL_law_4 32 rfl
theorem dL_law_487 : decode cL_law 487 = .ok (.iconst 1, 1) := okd_at mL_law_4 33 rfl
theorem dL_law_488 : decode cL_law 488 = .ok (.iadd, 1) := okd_at mL_law_4 34 rfl
theorem dL_law_489 : decode cL_law 489 = .ok (.iaload, 1) := okd_at mL_law_4 35 rfl
theorem dL_law_490 : decode cL_law 490 = .ok (.aload_n 0, 1) := okd_at mL_law_4 36 rfl
theorem dL_law_491 : decode cL_law 491 = .ok (.iload_n 3, 1) := okd_at mL_law_4 37 rfl
theorem dL_law_492 : decode cL_law 492 = .ok (.iconst 2, 1) := okd_at mL_law_4 38 rfl
theorem dL_law_493 : decode cL_law 493 = .ok (.iadd, 1) := okd_at mL_law_4 39 rfl
theorem dL_law_494 : decode cL_law 494 = .ok (.iaload, 1) := okd_at mL_law_4 40 rfl
theorem dL_law_495 : decode cL_law 495 = .ok (.invokevirtual 54, 3) := okd_at mL_law_4 41 rfl
theorem dL_law_498 : decode cL_law 498 = .ok (.if_icmp .eq 821, 3) := okd_at mL_law_4 42 rfl
theorem dL_law_501 : decode cL_law 501 = .ok (.iconst 0, 1) := okd_at mL_law_4 43 rfl
theorem dL_law_502 : decode cL_law 502 = .ok (.ireturn, 1) := okd_at mL_law_4 44 rfl
theorem dL_law_503 : decode cL_law 503 = .ok (.aload_n 1, 1) := okd_at mL_law_4 45 rfl
theorem dL_law_504 : decode cL_law 504 = .ok (.aload_n 0, 1) := okd_at mL_law_4 46 rfl
theorem dL_law_505 : decode cL_law 505 = .ok (.iload_n 3, 1) := okd_at mL_law_4 47 rfl
theorem dL_law_506 : decode cL_law 506 = .ok (.iconst 1, 1) := okd_at mL_law_4 48 rfl
theorem dL_law_507 : decode cL_law 507 = .ok (.iadd, 1) := okd_at mL_law_4 49 rfl
theorem dL_law_508 : decode cL_law 508 = .ok (.iaload, 1) := okd_at mL_law_4 50 rfl
theorem dL_law_509 : decode cL_law 509 = .ok (.aload_n 0, 1) := okd_at mL_law_4 51 rfl
theorem dL_law_510 : decode cL_law 510 = .ok (.iload_n 3, 1) := okd_at mL_law_4 52 rfl
theorem dL_law_511 : decode cL_law 511 = .ok (.iconst 2, 1) := okd_at mL_law_4 53 rfl
theorem dL_law_512 : decode cL_law 512 = .ok (.iadd, 1) := okd_at mL_law_4 54 rfl
theorem dL_law_513 : decode cL_law 513 = .ok (.iaload, 1) := okd_at mL_law_4 55 rfl
theorem dL_law_514 : decode cL_law 514 = .ok (.aload_n 0, 1) := okd_at mL_law_4 56 rfl
theorem dL_law_515 : decode cL_law 515 = .ok (.iload_n 3, 1) := okd_at mL_law_4 57 rfl
theorem dL_law_516 : decode cL_law 516 = .ok (.iconst 3, 1) := okd_at mL_law_4 58 rfl
theorem dL_law_517 : decode cL_law 517 = .ok (.iadd, 1) := okd_at mL_law_4 59 rfl
def lmL_law_5 : List (Nat × Instr × Nat) := [(518, .iaload, 1), (519, .invokevirtual 55, 3), (522, .aload_n 2, 1), (523, .aload_n 0, 1), (524, .iload_n 3, 1), (525, .iconst 1, 1), (526, .iadd, 1), (527, .iaload, 1), (528, .aload_n 0, 1), (529, .iload_n 3, 1), (530, .iconst 2, 1), (531, .iadd, 1), (532, .iaload, 1), (533, .aload_n 0, 1), (534, .iload_n 3, 1), (535, .iconst 3, 1), (536, .iadd, 1), (537, .iaload, 1), (538, .invokevirtual 58, 3), (541, .if_icmp .eq 778, 3), (544, .iconst 0, 1), (545, .ireturn, 1), (546, .aload_n 1, 1), (547, .aload_n 0, 1), (548, .iload_n 3, 1), (549, .iconst 1, 1), (550, .iadd, 1), (551, .iaload, 1), (552, .aload_n 0, 1), (553, .iload_n 3, 1), (554, .iconst 2, 1), (555, .iadd, 1), (556, .iaload, 1), (557, .invokevirtual 59, 3), (560, .aload_n 2, 1), (561, .aload_n 0, 1), (562, .iload_n 3, 1), (563, .iconst 1, 1), (564, .iadd, 1), (565, .iaload, 1), (566, .aload_n 0, 1), (567, .iload_n 3, 1), (568, .iconst 2, 1), (569, .iadd, 1), (570, .iaload, 1), (571, .invokevirtual 62, 3), (574, .if_icmp .eq 745, 3), (577, .iconst 0, 1), (578, .ireturn, 1), (579, .aload_n 1, 1), (580, .aload_n 0, 1), (581, .iload_n 3, 1), (582, .iconst 1, 1), (583, .iadd, 1), (584, .iaload, 1), (585, .aload_n 0, 1), (586, .iload_n 3, 1), (587, .iconst 2, 1), (588, .iadd, 1), (589, .iaload, 1)]
theorem mL_law_5 : okd cL_law lmL_law_5 = true := by decide +kernel
theorem dL_law_518 : decode cL_law 518 = .ok (.iaload, 1) := okd_at mL_law_5 0 rfl
theorem dL_law_519 : decode cL_law 519 = .ok (.invokevirtual 55, 3) := okd_at mL_law_5 1 rfl
theorem dL_law_522 : decode cL_law 522 = .ok (.aload_n 2, 1) := okd_at mL_law_5 2 rfl
theorem dL_law_523 : decode cL_law 523 = .ok (.aload_n 0, 1) := okd_at mL_law_5 3 rfl
theorem dL_law_524 : decode cL_law 524 = .ok (.iload_n 3, 1) := okd_at mL_law_5 4 rfl
theorem dL_law_525 : decode cL_law 525 = .ok (.iconst 1, 1) := okd_at mL_law_5 5 rfl
theorem dL_law_526 : decode cL_law 526 = .ok (.iadd, 1) := okd_at mL_law_5 6 rfl
theorem dL_law_527 : decode cL_law 527 = .ok (.iaload, 1) := okd_at mL_law_5 7 rfl
theorem dL_law_528 : decode cL_law 528 = .ok (.aload_n 0, 1) := okd_at mL_law_5 8 rfl
theorem dL_law_529 : decode cL_law 529 = .ok (.iload_n 3, 1) := okd_at mL_law_5 9 rfl
theorem dL_law_530 : decode cL_law 530 = .ok (.iconst 2, 1) := okd_at mL_law_5 10 rfl
theorem dL_law_531 : decode cL_law 531 = .ok (.iadd, 1) := okd_at mL_law_5 11 rfl
theorem dL_law_532 : decode cL_law 532 = .ok (.iaload, 1) := okd_at mL_law_5 12 rfl
theorem dL_law_533 : decode cL_law 533 = .ok (.aload_n 0, 1) := okd_at mL_law_5 13 rfl
theorem dL_law_534 : decode cL_law 534 = .ok (.iload_n 3, 1) := okd_at mL_law_5 14 rfl
theorem dL_law_535 : decode cL_law 535 = .ok (.iconst 3, 1) := okd_at mL_law_5 15 rfl
theorem dL_law_536 : decode cL_law 536 = .ok (.iadd, 1) := okd_at mL_law_5 16 rfl
theorem dL_law_537 : decode cL_law 537 = .ok (.iaload, 1) := okd_at mL_law_5 17 rfl
theorem dL_law_538 : decode cL_law 538 = .ok (.invokevirtual 58, 3) := okd_at mL_law_5 18 rfl
theorem dL_law_541 : decode cL_law 541 = .ok (.if_icmp .eq 778, 3) := okd_at mL_law_5 19 rfl
theorem dL_law_544 : decode cL_law 544 = .ok (.iconst 0, 1) := okd_at mL_law_5 20 rfl
theorem dL_law_545 : decode cL_law 545 = .ok (.ireturn, 1) := okd_at mL_law_5 21 rfl
theorem dL_law_546 : decode cL_law 546 = .ok (.aload_n 1, 1) := okd_at mL_law_5 22 rfl
theorem dL_law_547 : decode cL_law 547 = .ok (.aload_n 0, 1) := okd_at mL_law_5 23 rfl
theorem dL_law_548 : decode cL_law 548 = .ok (.iload_n 3, 1) := okd_at mL_law_5 24 rfl
theorem dL_law_549 : decode cL_law 549 = .ok (.iconst 1, 1) := okd_at mL_law_5 25 rfl
theorem dL_law_550 : decode cL_law 550 = .ok (.iadd, 1) := okd_at mL_law_5 26 rfl
theorem dL_law_551 : decode cL_law 551 = .ok (.iaload, 1) := okd_at mL_law_5 27 rfl
theorem dL_law_552 : decode cL_law 552 = .ok (.aload_n 0, 1) := okd_at mL_law_5 28 rfl
theorem dL_law_553 : decode cL_law 553 = .ok (.iload_n 3, 1) := okd_at mL_law_5 29 rfl
theorem dL_law_554 : decode cL_law 554 = .ok (.iconst 2, 1) := okd_at mL_law_5 30 rfl
theorem dL_law_555 : decode cL_law 555 = .ok (.iadd, 1) := okd_at mL_law_5 31 rfl
theorem dL_law_556 : decode cL_law 556 = .ok (.iaload, 1) := okd_at mL_law_5 32 rfl
theorem dL_law_557 : decode cL_law 557 = .ok (.invokevirtual 59, 3) := okd_at mL_law_5 33 rfl
theorem dL_law_560 : decode cL_law 560 = .ok (.aload_n 2, 1) := okd_at mL_law_5 34 rfl
theorem dL_law_561 : decode cL_law 561 = .ok (.aload_n 0, 1) := okd_at mL_law_5 35 rfl
theorem dL_law_562 : decode cL_law 562 = .ok (.iload_n 3, 1) := okd_at mL_law_5 36 rfl
theorem dL_law_563 : decode cL_law 563 = .ok (.iconst 1, 1) := okd_at mL_law_5 37 rfl
theorem dL_law_564 : decode cL_law 564 = .ok (.iadd, 1) := okd_at mL_law_5 38 rfl
theorem dL_law_565 : decode cL_law 565 = .ok (.iaload, 1) := okd_at mL_law_5 39 rfl
theorem dL_law_566 : decode cL_law 566 = .ok (.aload_n 0, 1) := okd_at mL_law_5 40 rfl
theorem dL_law_567 : decode cL_law 567 = .ok (.iload_n 3, 1) := okd_at mL_law_5 41 rfl
theorem dL_law_568 : decode cL_law 568 = .ok (.iconst 2, 1) := okd_at mL_law_5 42 rfl
theorem dL_law_569 : decode cL_law 569 = .ok (.iadd, 1) := okd_at mL_law_5 43 rfl
theorem dL_law_570 : decode cL_law 570 = .ok (.iaload, 1) := okd_at mL_law_5 44 rfl
theorem dL_law_571 : decode cL_law 571 = .ok (.invokevirtual 62, 3) := okd_at mL_law_5 45 rfl
theorem dL_law_574 : decode cL_law 574 = .ok (.if_icmp .eq 745, 3) := okd_at mL_law_5 46 rfl
theorem dL_law_577 : decode cL_law 577 = .ok (.iconst 0, 1) := okd_at mL_law_5 47 rfl
theorem dL_law_578 : decode cL_law 578 = .ok (.ireturn, 1) := okd_at mL_law_5 48 rfl
theorem dL_law_579 : decode cL_law 579 = .ok (.aload_n 1, 1) := okd_at mL_law_5 49 rfl
theorem dL_law_580 : decode cL_law 580 = .ok (.aload_n 0, 1) := okd_at mL_law_5 50 rfl
theorem dL_law_581 : decode cL_law 581 = .ok (.iload_n 3, 1) := okd_at mL_law_5 51 rfl
theorem dL_law_582 : decode cL_law 582 = .ok (.iconst 1, 1) := okd_at mL_law_5 52 rfl
theorem dL_law_583 : decode cL_law 583 = .ok (.iadd, 1) := okd_at mL_law_5 53 rfl
theorem dL_law_584 : decode cL_law 584 = .ok (.iaload, 1) := okd_at mL_law_5 54 rfl
theorem dL_law_585 : decode cL_law 585 = .ok (.aload_n 0, 1) := okd_at mL_law_5 55 rfl
theorem dL_law_586 : decode cL_law 586 = .ok (.iload_n 3, 1) := okd_at mL_law_5 56 rfl
theorem dL_law_587 : decode cL_law 587 = .ok (.iconst 2, 1) := okd_at mL_law_5 57 rfl
theorem dL_law_588 : decode cL_law 588 = .ok (.iadd, 1) := okd_at mL_law_5 58 rfl
theorem dL_law_589 : decode cL_law 589 = .ok (.iaload, 1) := okd_at mL_law_5 59 rfl
def lmL_law_6 : List (Nat × Instr × Nat) := [(590, .invokevirtual 63, 3), (593, .aload_n 2, 1), (594, .aload_n 0, 1), (595, .iload_n 3, 1), (596, .iconst 1, 1), (597, .iadd, 1), (598, .iaload, 1), (599, .aload_n 0, 1), (600, .iload_n 3, 1), (601, .iconst 2, 1), (602, .iadd, 1), (603, .iaload, 1), (604, .invokevirtual 66, 3), (607, .if_icmp .eq 712, 3), (610, .iconst 0, 1), (611, .ireturn, 1), (612, .aload_n 1, 1), (613, .aload_n 0, 1), (614, .iload_n 3, 1), (615, .iconst 1, 1), (616, .iadd, 1), (617, .iaload, 1), (618, .aload_n 0, 1), (619, .iload_n 3, 1), (620, .iconst 2, 1), (621, .iadd, 1), (622, .iaload, 1), (623, .invokevirtual 67, 3), (626, .aload_n 2, 1), (627, .aload_n 0, 1), (628, .iload_n 3, 1), (629, .iconst 1, 1), (630, .iadd, 1), (631, .iaload, 1), (632, .aload_n 0, 1), (633, .iload_n 3, 1), (634, .iconst 2, 1), (635, .iadd, 1), (636, .iaload, 1), (637, .invokevirtual 70, 3), (640, .if_icmp .eq 679, 3), (643, .iconst 0, 1), (644, .ireturn, 1), (645, .aload_n 1, 1), (646, .aload_n 0, 1), (647, .iload_n 3, 1), (648, .iconst 1, 1), (649, .iadd, 1), (650, .iaload, 1), (651, .invokevirtual 71, 3), (654, .aload_n 2, 1), (655, .aload_n 0, 1), (656, .iload_n 3, 1), (657, .iconst 1, 1), (658, .iadd, 1), (659, .iaload, 1), (660, .invokevirtual 74, 3), (663, .if_icmp .eq 656, 3), (666, .iconst 0, 1), (667, .ireturn, 1)]
theorem mL_law_6 : okd cL_law lmL_law_6 = true := by decide +kernel
theorem dL_law_590 : decode cL_law 590 = .ok (.invokevirtual 63, 3) := okd_at mL_law_6 0 rfl
theorem dL_law_593 : decode cL_law 593 = .ok (.aload_n 2, 1) := okd_at mL_law_6 1 rfl
theorem dL_law_594 : decode cL_law 594 = .ok (.aload_n 0, 1) := okd_at mL_law_6 2 rfl
theorem dL_law_595 : decode cL_law 595 = .ok (.iload_n 3, 1) := okd_at mL_law_6 3 rfl
theorem dL_law_596 : decode cL_law 596 = .ok (.iconst 1, 1) := okd_at mL_law_6 4 rfl
theorem dL_law_597 : decode cL_law 597 = .ok (.iadd, 1) := okd_at mL_law_6 5 rfl
theorem dL_law_598 : decode cL_law 598 = .ok (.iaload, 1) := okd_at mL_law_6 6 rfl
theorem dL_law_599 : decode cL_law 599 = .ok (.aload_n 0, 1) := okd_at mL_law_6 7 rfl
theorem dL_law_600 : decode cL_law 600 = .ok (.iload_n 3, 1) := okd_at mL_law_6 8 rfl
theorem dL_law_601 : decode cL_law 601 = .ok (.iconst 2, 1) := okd_at mL_law_6 9 rfl
theorem dL_law_602 : decode cL_law 602 = .ok (.iadd, 1) := okd_at mL_law_6 10 rfl
theorem dL_law_603 : decode cL_law 603 = .ok (.iaload, 1) := okd_at mL_law_6 11 rfl
theorem dL_law_604 : decode cL_law 604 = .ok (.invokevirtual 66, 3) := okd_at mL_law_6 12 rfl
theorem dL_law_607 : decode cL_law 607 = .ok (.if_icmp .eq 712, 3) := okd_at mL_law_6 13 rfl
theorem dL_law_610 : decode cL_law 610 = .ok (.iconst 0, 1) := okd_at mL_law_6 14 rfl
theorem dL_law_611 : decode cL_law 611 = .ok (.ireturn, 1) := okd_at mL_law_6 15 rfl
theorem dL_law_612 : decode cL_law 612 = .ok (.aload_n 1, 1) := okd_at mL_law_6 16 rfl
theorem dL_law_613 : decode cL_law 613 = .ok (.aload_n 0, 1) := okd_at mL_law_6 17 rfl
theorem dL_law_614 : decode cL_law 614 = .ok (.iload_n 3, 1) := okd_at mL_law_6 18 rfl
theorem dL_law_615 : decode cL_law 615 = .ok (.iconst 1, 1) := okd_at mL_law_6 19 rfl
theorem dL_law_616 : decode cL_law 616 = .ok (.iadd, 1) := okd_at mL_law_6 20 rfl
theorem dL_law_617 : decode cL_law 617 = .ok (.iaload, 1) := okd_at mL_law_6 21 rfl
theorem dL_law_618 : decode cL_law 618 = .ok (.aload_n 0, 1) := okd_at mL_law_6 22 rfl
theorem dL_law_619 : decode cL_law 619 = .ok (.iload_n 3, 1) := okd_at mL_law_6 23 rfl
theorem dL_law_620 : decode cL_law 620 = .ok (.iconst 2, 1) := okd_at mL_law_6 24 rfl
theorem dL_law_621 : decode cL_law 621 = .ok (.iadd, 1) := okd_at mL_law_6 25 rfl
theorem dL_law_622 : decode cL_law 622 = .ok (.iaload, 1) := okd_at mL_law_6 26 rfl
theorem dL_law_623 : decode cL_law 623 = .ok (.invokevirtual 67, 3) := okd_at mL_law_6 27 rfl
theorem dL_law_626 : decode cL_law 626 = .ok (.aload_n 2, 1) := okd_at mL_law_6 28 rfl
theorem dL_law_627 : decode cL_law 627 = .ok (.aload_n 0, 1) := okd_at mL_law_6 29 rfl
theorem dL_law_628 : decode cL_law 628 = .ok (.iload_n 3, 1) := okd_at mL_law_6 30 rfl
theorem dL_law_629 : decode cL_law 629 = .ok (.iconst 1, 1) := okd_at mL_law_6 31 rfl
theorem dL_law_630 : decode cL_law 630 = .ok (.iadd, 1) := okd_at mL_law_6 32 rfl
theorem dL_law_631 : decode cL_law 631 = .ok (.iaload, 1) := okd_at mL_law_6 33 rfl
theorem dL_law_632 : decode cL_law 632 = .ok (.aload_n 0, 1) := okd_at mL_law_6 34 rfl
theorem dL_law_633 : decode cL_law 633 = .ok (.iload_n 3, 1) := okd_at mL_law_6 35 rfl
theorem dL_law_634 : decode cL_law 634 = .ok (.iconst 2, 1) := okd_at mL_law_6 36 rfl
theorem dL_law_635 : decode cL_law 635 = .ok (.iadd, 1) := okd_at mL_law_6 37 rfl
theorem dL_law_636 : decode cL_law 636 = .ok (.iaload, 1) := okd_at mL_law_6 38 rfl
theorem dL_law_637 : decode cL_law 637 = .ok (.invokevirtual 70, 3) := okd_at mL_law_6 39 rfl
theorem dL_law_640 : decode cL_law 640 = .ok (.if_icmp .eq 679, 3) := okd_at mL_law_6 40 rfl
theorem dL_law_643 : decode cL_law 643 = .ok (.iconst 0, 1) := okd_at mL_law_6 41 rfl
theorem dL_law_644 : decode cL_law 644 = .ok (.ireturn, 1) := okd_at mL_law_6 42 rfl
theorem dL_law_645 : decode cL_law 645 = .ok (.aload_n 1, 1) := okd_at mL_law_6 43 rfl
theorem dL_law_646 : decode cL_law 646 = .ok (.aload_n 0, 1) := okd_at mL_law_6 44 rfl
theorem dL_law_647 : decode cL_law 647 = .ok (.iload_n 3, 1) := okd_at mL_law_6 45 rfl
theorem dL_law_648 : decode cL_law 648 = .ok (.iconst 1, 1) := okd_at mL_law_6 46 rfl
theorem dL_law_649 : decode cL_law 649 = .ok (.iadd, 1) := okd_at mL_law_6 47 rfl
theorem dL_law_650 : decode cL_law 650 = .ok (.iaload, 1) := okd_at mL_law_6 48 rfl
theorem dL_law_651 : decode cL_law 651 = .ok (.invokevirtual 71, 3) := okd_at mL_law_6 49 rfl
theorem dL_law_654 : decode cL_law 654 = .ok (.aload_n 2, 1) := okd_at mL_law_6 50 rfl
theorem dL_law_655 : decode cL_law 655 = .ok (.aload_n 0, 1) := okd_at mL_law_6 51 rfl
theorem dL_law_656 : decode cL_law 656 = .ok (.iload_n 3, 1) := okd_at mL_law_6 52 rfl
theorem dL_law_657 : decode cL_law 657 = .ok (.iconst 1, 1) := okd_at mL_law_6 53 rfl
theorem dL_law_658 : decode cL_law 658 = .ok (.iadd, 1) := okd_at mL_law_6 54 rfl
theorem dL_law_659 : decode cL_law 659 = .ok (.iaload, 1) := okd_at mL_law_6 55 rfl
theorem dL_law_660 : decode cL_law 660 = .ok (.invokevirtual 74, 3) := okd_at mL_law_6 56 rfl
theorem dL_law_663 : decode cL_law 663 = .ok (.if_icmp .eq 656, 3) := okd_at mL_law_6 57 rfl
theorem dL_law_666 : decode cL_law 666 = .ok (.iconst 0, 1) := okd_at mL_law_6 58 rfl
theorem dL_law_667 : decode cL_law 667 = .ok (.ireturn, 1) := okd_at mL_law_6 59 rfl
def lmL_law_7 : List (Nat × Instr × Nat) := [(668, .aload_n 1, 1), (669, .aload_n 0, 1), (670, .iload_n 3, 1), (671, .iconst 1, 1), (672, .iadd, 1), (673, .iaload, 1), (674, .invokevirtual 75, 3), (677, .aload_n 2, 1), (678, .aload_n 0, 1), (679, .iload_n 3, 1), (680, .iconst 1, 1), (681, .iadd, 1), (682, .iaload, 1), (683, .invokevirtual 78, 3), (686, .if_icmp .eq 633, 3), (689, .iconst 0, 1), (690, .ireturn, 1), (691, .aload_n 1, 1), (692, .aload_n 0, 1), (693, .iload_n 3, 1), (694, .iconst 1, 1), (695, .iadd, 1), (696, .iaload, 1), (697, .invokevirtual 79, 3), (700, .aload_n 2, 1), (701, .aload_n 0, 1), (702, .iload_n 3, 1), (703, .iconst 1, 1), (704, .iadd, 1), (705, .iaload, 1), (706, .invokevirtual 82, 3), (709, .if_icmp .eq 610, 3), (712, .iconst 0, 1), (713, .ireturn, 1), (714, .aload_n 1, 1), (715, .aload_n 0, 1), (716, .iload_n 3, 1), (717, .iconst 1, 1), (718, .iadd, 1), (719, .iaload, 1), (720, .invokevirtual 83, 3), (723, .aload_n 2, 1), (724, .aload_n 0, 1), (725, .iload_n 3, 1), (726, .iconst 1, 1), (727, .iadd, 1), (728, .iaload, 1), (729, .invokevirtual 86, 3), (732, .if_icmp .eq 587, 3), (735, .iconst 0, 1), (736, .ireturn, 1), (737, .aload_n 1, 1), (738, .aload_n 0, 1), (739, .iload_n 3, 1), (740, .iconst 1, 1), (741, .iadd, 1), (742, .iaload, 1), (743, .invokevirtual 87, 3), (746, .aload_n 2, 1), (747, .aload_n 0, 1)]
theorem mL_law_7 : okd cL_law lmL_law_7 = true := by decide +kernel
theorem dL_law_668 : decode cL_law 668 = .ok (.aload_n 1, 1) := okd_at mL_law_7 0 rfl
theorem dL_law_669 : decode cL_law 669 = .ok (.aload_n 0, 1) := okd_at mL_law_7 1 rfl
theorem dL_law_670 : decode cL_law 670 = .ok (.iload_n 3, 1) := okd_at mL_law_7 2 rfl
theorem dL_law_671 : decode cL_law 671 = .ok (.iconst 1, 1) := okd_at mL_law_7 3 rfl
theorem dL_law_672 : decode cL_law 672 = .ok (.iadd, 1) := okd_at mL_law_7 4 rfl
theorem dL_law_673 : decode cL_law 673 = .ok (.iaload, 1) := okd_at mL_law_7 5 rfl
theorem dL_law_674 : decode cL_law 674 = .ok (.invokevirtual 75, 3) := okd_at mL_law_7 6 rfl
theorem dL_law_677 : decode cL_law 677 = .ok (.aload_n 2, 1) := okd_at mL_law_7 7 rfl
theorem dL_law_678 : decode cL_law 678 = .ok (.aload_n 0, 1) := okd_at mL_law_7 8 rfl
theorem dL_law_679 : decode cL_law 679 = .ok (.iload_n 3, 1) := okd_at mL_law_7 9 rfl
theorem dL_law_680 : decode cL_law 680 = .ok (.iconst 1, 1) := okd_at mL_law_7 10 rfl
theorem dL_law_681 : decode cL_law 681 = .ok (.iadd, 1) := okd_at mL_law_7 11 rfl
theorem dL_law_682 : decode cL_law 682 = .ok (.iaload, 1) := okd_at mL_law_7 12 rfl
theorem dL_law_683 : decode cL_law 683 = .ok (.invokevirtual 78, 3) := okd_at mL_law_7 13 rfl
theorem dL_law_686 : decode cL_law 686 = .ok (.if_icmp .eq 633, 3) := okd_at mL_law_7 14 rfl
theorem dL_law_689 : decode cL_law 689 = .ok (.iconst 0, 1) := okd_at mL_law_7 15 rfl
theorem dL_law_690 : decode cL_law 690 = .ok (.ireturn, 1) := okd_at mL_law_7 16 rfl
theorem dL_law_691 : decode cL_law 691 = .ok (.aload_n 1, 1) := okd_at mL_law_7 17 rfl
theorem dL_law_692 : decode cL_law 692 = .ok (.aload_n 0, 1) := okd_at mL_law_7 18 rfl
theorem dL_law_693 : decode cL_law 693 = .ok (.iload_n 3, 1) := okd_at mL_law_7 19 rfl
theorem dL_law_694 : decode cL_law 694 = .ok (.iconst 1, 1) := okd_at mL_law_7 20 rfl
theorem dL_law_695 : decode cL_law 695 = .ok (.iadd, 1) := okd_at mL_law_7 21 rfl
theorem dL_law_696 : decode cL_law 696 = .ok (.iaload, 1) := okd_at mL_law_7 22 rfl
theorem dL_law_697 : decode cL_law 697 = .ok (.invokevirtual 79, 3) := okd_at mL_law_7 23 rfl
theorem dL_law_700 : decode cL_law 700 = .ok (.aload_n 2, 1) := okd_at mL_law_7 24 rfl
theorem dL_law_701 : decode cL_law 701 = .ok (.aload_n 0, 1) := okd_at mL_law_7 25 rfl
theorem dL_law_702 : decode cL_law 702 = .ok (.iload_n 3, 1) := okd_at mL_law_7 26 rfl
theorem dL_law_703 : decode cL_law 703 = .ok (.iconst 1, 1) := okd_at mL_law_7 27 rfl
theorem dL_law_704 : decode cL_law 704 = .ok (.iadd, 1) := okd_at mL_law_7 28 rfl
theorem dL_law_705 : decode cL_law 705 = .ok (.iaload, 1) := okd_at mL_law_7 29 rfl
theorem dL_law_706 : decode cL_law 706 = .ok (.invokevirtual 82, 3) := okd_at mL_law_7 30 rfl
theorem dL_law_709 : decode cL_law 709 = .ok (.if_icmp .eq 610, 3) := okd_at mL_law_7 31 rfl
theorem dL_law_712 : decode cL_law 712 = .ok (.iconst 0, 1) := okd_at mL_law_7 32 rfl
theorem dL_law_713 : decode cL_law 713 = .ok (.ireturn, 1) := okd_at mL_law_7 33 rfl
theorem dL_law_714 : decode cL_law 714 = .ok (.aload_n 1, 1) := okd_at mL_law_7 34 rfl
theorem dL_law_715 : decode cL_law 715 = .ok (.aload_n 0, 1) := okd_at mL_law_7 35 rfl
theorem dL_law_716 : decode cL_law 716 = .ok (.iload_n 3, 1) := okd_at mL_law_7 36 rfl
theorem dL_law_717 : decode cL_law 717 = .ok (.iconst 1, 1) := okd_at mL_law_7 37 rfl
theorem dL_law_718 : decode cL_law 718 = .ok (.iadd, 1) := okd_at mL_law_7 38 rfl
theorem dL_law_719 : decode cL_law 719 = .ok (.iaload, 1) := okd_at mL_law_7 39 rfl
theorem dL_law_720 : decode cL_law 720 = .ok (.invokevirtual 83, 3) := okd_at mL_law_7 40 rfl
theorem dL_law_723 : decode cL_law 723 = .ok (.aload_n 2, 1) := okd_at mL_law_7 41 rfl
theorem dL_law_724 : decode cL_law 724 = .ok (.aload_n 0, 1) := okd_at mL_law_7 42 rfl
theorem dL_law_725 : decode cL_law 725 = .ok (.iload_n 3, 1) := okd_at mL_law_7 43 rfl
theorem dL_law_726 : decode cL_law 726 = .ok (.iconst 1, 1) := okd_at mL_law_7 44 rfl
theorem dL_law_727 : decode cL_law 727 = .ok (.iadd, 1) := okd_at mL_law_7 45 rfl
theorem dL_law_728 : decode cL_law 728 = .ok (.iaload, 1) := okd_at mL_law_7 46 rfl
theorem dL_law_729 : decode cL_law 729 = .ok (.invokevirtual 86, 3) := okd_at mL_law_7 47 rfl
theorem dL_law_732 : decode cL_law 732 = .ok (.if_icmp .eq 587, 3) := okd_at mL_law_7 48 rfl
theorem dL_law_735 : decode cL_law 735 = .ok (.iconst 0, 1) := okd_at mL_law_7 49 rfl
theorem dL_law_736 : decode cL_law 736 = .ok (.ireturn, 1) := okd_at mL_law_7 50 rfl
theorem dL_law_737 : decode cL_law 737 = .ok (.aload_n 1, 1) := okd_at mL_law_7 51 rfl
theorem dL_law_738 : decode cL_law 738 = .ok (.aload_n 0, 1) := okd_at mL_law_7 52 rfl
theorem dL_law_739 : decode cL_law 739 = .ok (.iload_n 3, 1) := okd_at mL_law_7 53 rfl
theorem dL_law_740 : decode cL_law 740 = .ok (.iconst 1, 1) := okd_at mL_law_7 54 rfl
theorem dL_law_741 : decode cL_law 741 = .ok (.iadd, 1) := okd_at mL_law_7 55 rfl
theorem dL_law_742 : decode cL_law 742 = .ok (.iaload, 1) := okd_at mL_law_7 56 rfl
theorem dL_law_743 : decode cL_law 743 = .ok (.invokevirtual 87, 3) := okd_at mL_law_7 57 rfl
theorem dL_law_746 : decode cL_law 746 = .ok (.aload_n 2, 1) := okd_at mL_law_7 58 rfl
theorem dL_law_747 : decode cL_law 747 = .ok (.aload_n 0, 1) := okd_at mL_law_7 59 rfl
def lmL_law_8 : List (Nat × Instr × Nat) := [(748, .iload_n 3, 1), (749, .iconst 1, 1), (750, .iadd, 1), (751, .iaload, 1), (752, .invokevirtual 90, 3), (755, .if_icmp .eq 564, 3), (758, .iconst 0, 1), (759, .ireturn, 1), (760, .aload_n 1, 1), (761, .aload_n 0, 1), (762, .iload_n 3, 1), (763, .iconst 1, 1), (764, .iadd, 1), (765, .iaload, 1), (766, .invokevirtual 91, 3), (769, .aload_n 2, 1), (770, .aload_n 0, 1), (771, .iload_n 3, 1), (772, .iconst 1, 1), (773, .iadd, 1), (774, .iaload, 1), (775, .invokevirtual 94, 3), (778, .if_icmp .eq 541, 3), (781, .iconst 0, 1), (782, .ireturn, 1), (783, .aload_n 1, 1), (784, .aload_n 0, 1), (785, .iload_n 3, 1), (786, .iconst 1, 1), (787, .iadd, 1), (788, .iaload, 1), (789, .aload_n 0, 1), (790, .iload_n 3, 1), (791, .iconst 2, 1), (792, .iadd, 1), (793, .iaload, 1), (794, .invokevirtual 95, 3), (797, .aload_n 2, 1), (798, .aload_n 0, 1), (799, .iload_n 3, 1), (800, .iconst 1, 1), (801, .iadd, 1), (802, .iaload, 1), (803, .aload_n 0, 1), (804, .iload_n 3, 1), (805, .iconst 2, 1), (806, .iadd, 1), (807, .iaload, 1), (808, .invokevirtual 98, 3), (811, .if_icmp .eq 508, 3), (814, .iconst 0, 1), (815, .ireturn, 1), (816, .aload_n 1, 1), (817, .aload_n 0, 1), (818, .iload_n 3, 1), (819, .iconst 1, 1), (820, .iadd, 1), (821, .iaload, 1), (822, .invokevirtual 99, 3), (825, .aload_n 2, 1)]
theorem mL_law_8 : okd cL_law lmL_law_8 = true := by decide +kernel
theorem dL_law_748 : decode cL_law 748 = .ok (.iload_n 3, 1) := okd_at mL_law_8 0 rfl
theorem dL_law_749 : decode cL_law 749 = .ok (.iconst 1, 1) := okd_at mL_law_8 1 rfl
theorem dL_law_750 : decode cL_law 750 = .ok (.iadd, 1) := okd_at mL_law_8 2 rfl
theorem dL_law_751 : decode cL_law 751 = .ok (.iaload, 1) := okd_at mL_law_8 3 rfl
theorem dL_law_752 : decode cL_law 752 = .ok (.invokevirtual 90, 3) := okd_at mL_law_8 4 rfl
theorem dL_law_755 : decode cL_law 755 = .ok (.if_icmp .eq 564, 3) := okd_at mL_law_8 5 rfl
theorem dL_law_758 : decode cL_law 758 = .ok (.iconst 0, 1) := okd_at mL_law_8 6 rfl
theorem dL_law_759 : decode cL_law 759 = .ok (.ireturn, 1) := okd_at mL_law_8 7 rfl
theorem dL_law_760 : decode cL_law 760 = .ok (.aload_n 1, 1) := okd_at mL_law_8 8 rfl
theorem dL_law_761 : decode cL_law 761 = .ok (.aload_n 0, 1) := okd_at mL_law_8 9 rfl
theorem dL_law_762 : decode cL_law 762 = .ok (.iload_n 3, 1) := okd_at mL_law_8 10 rfl
theorem dL_law_763 : decode cL_law 763 = .ok (.iconst 1, 1) := okd_at mL_law_8 11 rfl
theorem dL_law_764 : decode cL_law 764 = .ok (.iadd, 1) := okd_at mL_law_8 12 rfl
theorem dL_law_765 : decode cL_law 765 = .ok (.iaload, 1) := okd_at mL_law_8 13 rfl
theorem dL_law_766 : decode cL_law 766 = .ok (.invokevirtual 91, 3) := okd_at mL_law_8 14 rfl
theorem dL_law_769 : decode cL_law 769 = .ok (.aload_n 2, 1) := okd_at mL_law_8 15 rfl
theorem dL_law_770 : decode cL_law 770 = .ok (.aload_n 0, 1) := okd_at mL_law_8 16 rfl
theorem dL_law_771 : decode cL_law 771 = .ok (.iload_n 3, 1) := okd_at mL_law_8 17 rfl
theorem dL_law_772 : decode cL_law 772 = .ok (.iconst 1, 1) := okd_at mL_law_8 18 rfl
theorem dL_law_773 : decode cL_law 773 = .ok (.iadd, 1) := okd_at mL_law_8 19 rfl
theorem dL_law_774 : decode cL_law 774 = .ok (.iaload, 1) := okd_at mL_law_8 20 rfl
theorem dL_law_775 : decode cL_law 775 = .ok (.invokevirtual 94, 3) := okd_at mL_law_8 21 rfl
theorem dL_law_778 : decode cL_law 778 = .ok (.if_icmp .eq 541, 3) := okd_at mL_law_8 22 rfl
theorem dL_law_781 : decode cL_law 781 = .ok (.iconst 0, 1) := okd_at mL_law_8 23 rfl
theorem dL_law_782 : decode cL_law 782 = .ok (.ireturn, 1) := okd_at mL_law_8 24 rfl
theorem dL_law_783 : decode cL_law 783 = .ok (.aload_n 1, 1) := okd_at mL_law_8 25 rfl
theorem dL_law_784 : decode cL_law 784 = .ok (.aload_n 0, 1) := okd_at mL_law_8 26 rfl
theorem dL_law_785 : decode cL_law 785 = .ok (.iload_n 3, 1) := okd_at mL_law_8 27 rfl
theorem dL_law_786 : decode cL_law 786 = .ok (.iconst 1, 1) := okd_at mL_law_8 28 rfl
theorem dL_law_787 : decode cL_law 787 = .ok (.iadd, 1) := okd_at mL_law_8 29 rfl
theorem dL_law_788 : decode cL_law 788 = .ok (.iaload, 1) := okd_at mL_law_8 30 rfl
theorem dL_law_789 : decode cL_law 789 = .ok (.aload_n 0, 1) := okd_at mL_law_8 31 rfl
theorem dL_law_790 : decode cL_law 790 = .ok (.iload_n 3, 1) := okd_at mL_law_8 32 rfl
theorem dL_law_791 : decode cL_law 791 = .ok (.iconst 2, 1) := okd_at mL_law_8 33 rfl
theorem dL_law_792 : decode cL_law 792 = .ok (.iadd, 1) := okd_at mL_law_8 34 rfl
theorem dL_law_793 : decode cL_law 793 = .ok (.iaload, 1) := okd_at mL_law_8 35 rfl
theorem dL_law_794 : decode cL_law 794 = .ok (.invokevirtual 95, 3) := okd_at mL_law_8 36 rfl
theorem dL_law_797 : decode cL_law 797 = .ok (.aload_n 2, 1) := okd_at mL_law_8 37 rfl
theorem dL_law_798 : decode cL_law 798 = .ok (.aload_n 0, 1) := okd_at mL_law_8 38 rfl
theorem dL_law_799 : decode cL_law 799 = .ok (.iload_n 3, 1) := okd_at mL_law_8 39 rfl
theorem dL_law_800 : decode cL_law 800 = .ok (.iconst 1, 1) := okd_at mL_law_8 40 rfl
theorem dL_law_801 : decode cL_law 801 = .ok (.iadd, 1) := okd_at mL_law_8 41 rfl
theorem dL_law_802 : decode cL_law 802 = .ok (.iaload, 1) := okd_at mL_law_8 42 rfl
theorem dL_law_803 : decode cL_law 803 = .ok (.aload_n 0, 1) := okd_at mL_law_8 43 rfl
theorem dL_law_804 : decode cL_law 804 = .ok (.iload_n 3, 1) := okd_at mL_law_8 44 rfl
theorem dL_law_805 : decode cL_law 805 = .ok (.iconst 2, 1) := okd_at mL_law_8 45 rfl
theorem dL_law_806 : decode cL_law 806 = .ok (.iadd, 1) := okd_at mL_law_8 46 rfl
theorem dL_law_807 : decode cL_law 807 = .ok (.iaload, 1) := okd_at mL_law_8 47 rfl
theorem dL_law_808 : decode cL_law 808 = .ok (.invokevirtual 98, 3) := okd_at mL_law_8 48 rfl
theorem dL_law_811 : decode cL_law 811 = .ok (.if_icmp .eq 508, 3) := okd_at mL_law_8 49 rfl
theorem dL_law_814 : decode cL_law 814 = .ok (.iconst 0, 1) := okd_at mL_law_8 50 rfl
theorem dL_law_815 : decode cL_law 815 = .ok (.ireturn, 1) := okd_at mL_law_8 51 rfl
theorem dL_law_816 : decode cL_law 816 = .ok (.aload_n 1, 1) := okd_at mL_law_8 52 rfl
theorem dL_law_817 : decode cL_law 817 = .ok (.aload_n 0, 1) := okd_at mL_law_8 53 rfl
theorem dL_law_818 : decode cL_law 818 = .ok (.iload_n 3, 1) := okd_at mL_law_8 54 rfl
theorem dL_law_819 : decode cL_law 819 = .ok (.iconst 1, 1) := okd_at mL_law_8 55 rfl
theorem dL_law_820 : decode cL_law 820 = .ok (.iadd, 1) := okd_at mL_law_8 56 rfl
theorem dL_law_821 : decode cL_law 821 = .ok (.iaload, 1) := okd_at mL_law_8 57 rfl
theorem dL_law_822 : decode cL_law 822 = .ok (.invokevirtual 99, 3) := okd_at mL_law_8 58 rfl
theorem dL_law_825 : decode cL_law 825 = .ok (.aload_n 2, 1) := okd_at mL_law_8 59 rfl
def lmL_law_9 : List (Nat × Instr × Nat) := [(826, .aload_n 0, 1), (827, .iload_n 3, 1), (828, .iconst 1, 1), (829, .iadd, 1), (830, .iaload, 1), (831, .invokevirtual 102, 3), (834, .if_icmp .eq 485, 3), (837, .iconst 0, 1), (838, .ireturn, 1), (839, .aload_n 1, 1), (840, .aload_n 0, 1), (841, .iload_n 3, 1), (842, .iconst 1, 1), (843, .iadd, 1), (844, .iaload, 1), (845, .aload_n 0, 1), (846, .iload_n 3, 1), (847, .iconst 2, 1), (848, .iadd, 1), (849, .iaload, 1), (850, .aload_n 0, 1), (851, .iload_n 3, 1), (852, .iconst 3, 1), (853, .iadd, 1), (854, .iaload, 1), (855, .invokevirtual 103, 3), (858, .aload_n 2, 1), (859, .aload_n 0, 1), (860, .iload_n 3, 1), (861, .iconst 1, 1), (862, .iadd, 1), (863, .iaload, 1), (864, .aload_n 0, 1), (865, .iload_n 3, 1), (866, .iconst 2, 1), (867, .iadd, 1), (868, .iaload, 1), (869, .aload_n 0, 1), (870, .iload_n 3, 1), (871, .iconst 3, 1), (872, .iadd, 1), (873, .iaload, 1), (874, .invokevirtual 106, 3), (877, .if_icmp .eq 442, 3), (880, .iconst 0, 1), (881, .ireturn, 1), (882, .aload_n 1, 1), (883, .aload_n 0, 1), (884, .iload_n 3, 1), (885, .iconst 1, 1), (886, .iadd, 1), (887, .iaload, 1), (888, .aload_n 0, 1), (889, .iload_n 3, 1), (890, .iconst 2, 1), (891, .iadd, 1), (892, .iaload, 1), (893, .aload_n 0, 1), (894, .iload_n 3, 1), (895, .iconst 3, 1)]
theorem mL_law_9 : okd cL_law lmL_law_9 = true := by decide +kernel
theorem dL_law_826 : decode cL_law 826 = .ok (.aload_n 0, 1) := okd_at mL_law_9 0 rfl
theorem dL_law_827 : decode cL_law 827 = .ok (.iload_n 3, 1) := okd_at mL_law_9 1 rfl
theorem dL_law_828 : decode cL_law 828 = .ok (.iconst 1, 1) := okd_at mL_law_9 2 rfl
theorem dL_law_829 : decode cL_law 829 = .ok (.iadd, 1) := okd_at mL_law_9 3 rfl
theorem dL_law_830 : decode cL_law 830 = .ok (.iaload, 1) := okd_at mL_law_9 4 rfl
theorem dL_law_831 : decode cL_law 831 = .ok (.invokevirtual 102, 3) := okd_at mL_law_9 5 rfl
theorem dL_law_834 : decode cL_law 834 = .ok (.if_icmp .eq 485, 3) := okd_at mL_law_9 6 rfl
theorem dL_law_837 : decode cL_law 837 = .ok (.iconst 0, 1) := okd_at mL_law_9 7 rfl
theorem dL_law_838 : decode cL_law 838 = .ok (.ireturn, 1) := okd_at mL_law_9 8 rfl
theorem dL_law_839 : decode cL_law 839 = .ok (.aload_n 1, 1) := okd_at mL_law_9 9 rfl
theorem dL_law_840 : decode cL_law 840 = .ok (.aload_n 0, 1) := okd_at mL_law_9 10 rfl
theorem dL_law_841 : decode cL_law 841 = .ok (.iload_n 3, 1) := okd_at mL_law_9 11 rfl
theorem dL_law_842 : decode cL_law 842 = .ok (.iconst 1, 1) := okd_at mL_law_9 12 rfl
theorem dL_law_843 : decode cL_law 843 = .ok (.iadd, 1) := okd_at mL_law_9 13 rfl
theorem dL_law_844 : decode cL_law 844 = .ok (.iaload, 1) := okd_at mL_law_9 14 rfl
theorem dL_law_845 : decode cL_law 845 = .ok (.aload_n 0, 1) := okd_at mL_law_9 15 rfl
theorem dL_law_846 : decode cL_law 846 = .ok (.iload_n 3, 1) := okd_at mL_law_9 16 rfl
theorem dL_law_847 : decode cL_law 847 = .ok (.iconst 2, 1) := okd_at mL_law_9 17 rfl
theorem dL_law_848 : decode cL_law 848 = .ok (.iadd, 1) := okd_at mL_law_9 18 rfl
theorem dL_law_849 : decode cL_law 849 = .ok (.iaload, 1) := okd_at mL_law_9 19 rfl
theorem dL_law_850 : decode cL_law 850 = .ok (.aload_n 0, 1) := okd_at mL_law_9 20 rfl
theorem dL_law_851 : decode cL_law 851 = .ok (.iload_n 3, 1) := okd_at mL_law_9 21 rfl
theorem dL_law_852 : decode cL_law 852 = .ok (.iconst 3, 1) := okd_at mL_law_9 22 rfl
theorem dL_law_853 : decode cL_law 853 = .ok (.iadd, 1) := okd_at mL_law_9 23 rfl
theorem dL_law_854 : decode cL_law 854 = .ok (.iaload, 1) := okd_at mL_law_9 24 rfl
theorem dL_law_855 : decode cL_law 855 = .ok (.invokevirtual 103, 3) := okd_at mL_law_9 25 rfl
theorem dL_law_858 : decode cL_law 858 = .ok (.aload_n 2, 1) := okd_at mL_law_9 26 rfl
theorem dL_law_859 : decode cL_law 859 = .ok (.aload_n 0, 1) := okd_at mL_law_9 27 rfl
theorem dL_law_860 : decode cL_law 860 = .ok (.iload_n 3, 1) := okd_at mL_law_9 28 rfl
theorem dL_law_861 : decode cL_law 861 = .ok (.iconst 1, 1) := okd_at mL_law_9 29 rfl
theorem dL_law_862 : decode cL_law 862 = .ok (.iadd, 1) := okd_at mL_law_9 30 rfl
theorem dL_law_863 : decode cL_law 863 = .ok (.iaload, 1) := okd_at mL_law_9 31 rfl
theorem dL_law_864 : decode cL_law 864 = .ok (.aload_n 0, 1) := okd_at mL_law_9 32 rfl
theorem dL_law_865 : decode cL_law 865 = .ok (.iload_n 3, 1) := okd_at mL_law_9 33 rfl
theorem dL_law_866 : decode cL_law 866 = .ok (.iconst 2, 1) := okd_at mL_law_9 34 rfl
theorem dL_law_867 : decode cL_law 867 = .ok (.iadd, 1) := okd_at mL_law_9 35 rfl
theorem dL_law_868 : decode cL_law 868 = .ok (.iaload, 1) := okd_at mL_law_9 36 rfl
theorem dL_law_869 : decode cL_law 869 = .ok (.aload_n 0, 1) := okd_at mL_law_9 37 rfl
theorem dL_law_870 : decode cL_law 870 = .ok (.iload_n 3, 1) := okd_at mL_law_9 38 rfl
theorem dL_law_871 : decode cL_law 871 = .ok (.iconst 3, 1) := okd_at mL_law_9 39 rfl
theorem dL_law_872 : decode cL_law 872 = .ok (.iadd, 1) := okd_at mL_law_9 40 rfl
theorem dL_law_873 : decode cL_law 873 = .ok (.iaload, 1) := okd_at mL_law_9 41 rfl
theorem dL_law_874 : decode cL_law 874 = .ok (.invokevirtual 106, 3) := okd_at mL_law_9 42 rfl
theorem dL_law_877 : decode cL_law 877 = .ok (.if_icmp .eq 442, 3) := okd_at mL_law_9 43 rfl
theorem dL_law_880 : decode cL_law 880 = .ok (.iconst 0, 1) := okd_at mL_law_9 44 rfl
theorem dL_law_881 : decode cL_law 881 = .ok (.ireturn, 1) := okd_at mL_law_9 45 rfl
theorem dL_law_882 : decode cL_law 882 = .ok (.aload_n 1, 1) := okd_at mL_law_9 46 rfl
theorem dL_law_883 : decode cL_law 883 = .ok (.aload_n 0, 1) := okd_at mL_law_9 47 rfl
theorem dL_law_884 : decode cL_law 884 = .ok (.iload_n 3, 1) := okd_at mL_law_9 48 rfl
theorem dL_law_885 : decode cL_law 885 = .ok (.iconst 1, 1) := okd_at mL_law_9 49 rfl
theorem dL_law_886 : decode cL_law 886 = .ok (.iadd, 1) := okd_at mL_law_9 50 rfl
theorem dL_law_887 : decode cL_law 887 = .ok (.iaload, 1) := okd_at mL_law_9 51 rfl
theorem dL_law_888 : decode cL_law 888 = .ok (.aload_n 0, 1) := okd_at mL_law_9 52 rfl
theorem dL_law_889 : decode cL_law 889 = .ok (.iload_n 3, 1) := okd_at mL_law_9 53 rfl
theorem dL_law_890 : decode cL_law 890 = .ok (.iconst 2, 1) := okd_at mL_law_9 54 rfl
theorem dL_law_891 : decode cL_law 891 = .ok (.iadd, 1) := okd_at mL_law_9 55 rfl
theorem dL_law_892 : decode cL_law 892 = .ok (.iaload, 1) := okd_at mL_law_9 56 rfl
theorem dL_law_893 : decode cL_law 893 = .ok (.aload_n 0, 1) := okd_at mL_law_9 57 rfl
theorem dL_law_894 : decode cL_law 894 = .ok (.iload_n 3, 1) := okd_at mL_law_9 58 rfl
theorem dL_law_895 : decode cL_law 895 = .ok (.iconst 3, 1) := okd_at mL_law_9 59 rfl
def lmL_law_10 : List (Nat × Instr × Nat) := [(896, .iadd, 1), (897, .iaload, 1), (898, .invokevirtual 107, 3), (901, .aload_n 2, 1), (902, .aload_n 0, 1), (903, .iload_n 3, 1), (904, .iconst 1, 1), (905, .iadd, 1), (906, .iaload, 1), (907, .aload_n 0, 1), (908, .iload_n 3, 1), (909, .iconst 2, 1), (910, .iadd, 1), (911, .iaload, 1), (912, .aload_n 0, 1), (913, .iload_n 3, 1), (914, .iconst 3, 1), (915, .iadd, 1), (916, .iaload, 1), (917, .invokevirtual 110, 3), (920, .if_icmp .eq 399, 3), (923, .iconst 0, 1), (924, .ireturn, 1), (925, .aload_n 1, 1), (926, .aload_n 0, 1), (927, .iload_n 3, 1), (928, .iconst 1, 1), (929, .iadd, 1), (930, .iaload, 1), (931, .invokevirtual 111, 3), (934, .aload_n 2, 1), (935, .aload_n 0, 1), (936, .iload_n 3, 1), (937, .iconst 1, 1), (938, .iadd, 1), (939, .iaload, 1), (940, .invokevirtual 114, 3), (943, .if_icmp .eq 376, 3), (946, .iconst 0, 1), (947, .ireturn, 1), (948, .aload_n 1, 1), (949, .aload_n 0, 1), (950, .iload_n 3, 1), (951, .iconst 1, 1), (952, .iadd, 1), (953, .iaload, 1), (954, .invokevirtual 115, 3), (957, .aload_n 2, 1), (958, .aload_n 0, 1), (959, .iload_n 3, 1), (960, .iconst 1, 1), (961, .iadd, 1), (962, .iaload, 1), (963, .invokevirtual 118, 3), (966, .if_icmp .eq 353, 3), (969, .iconst 0, 1), (970, .ireturn, 1), (971, .aload_n 1, 1), (972, .aload_n 0, 1), (973, .iload_n 3, 1)]
theorem mL_law_10 : okd cL_law lmL_law_10 = true := by decide +kernel
theorem dL_law_896 : decode cL_law 896 = .ok (.iadd, 1) := okd_at mL_law_10 0 rfl
theorem dL_law_897 : decode cL_law 897 = .ok (.iaload, 1) := okd_at mL_law_10 1 rfl
theorem dL_law_898 : decode cL_law 898 = .ok (.invokevirtual 107, 3) := okd_at mL_law_10 2 rfl
theorem dL_law_901 : decode cL_law 901 = .ok (.aload_n 2, 1) := okd_at mL_law_10 3 rfl
theorem dL_law_902 : decode cL_law 902 = .ok (.aload_n 0, 1) := okd_at mL_law_10 4 rfl
theorem dL_law_903 : decode cL_law 903 = .ok (.iload_n 3, 1) := okd_at mL_law_10 5 rfl
theorem dL_law_904 : decode cL_law 904 = .ok (.iconst 1, 1) := okd_at mL_law_10 6 rfl
theorem dL_law_905 : decode cL_law 905 = .ok (.iadd, 1) := okd_at mL_law_10 7 rfl
theorem dL_law_906 : decode cL_law 906 = .ok (.iaload, 1) := okd_at mL_law_10 8 rfl
theorem dL_law_907 : decode cL_law 907 = .ok (.aload_n 0, 1) := okd_at mL_law_10 9 rfl
theorem dL_law_908 : decode cL_law 908 = .ok (.iload_n 3, 1) := okd_at mL_law_10 10 rfl
theorem dL_law_909 : decode cL_law 909 = .ok (.iconst 2, 1) := okd_at mL_law_10 11 rfl
theorem dL_law_910 : decode cL_law 910 = .ok (.iadd, 1) := okd_at mL_law_10 12 rfl
theorem dL_law_911 : decode cL_law 911 = .ok (.iaload, 1) := okd_at mL_law_10 13 rfl
theorem dL_law_912 : decode cL_law 912 = .ok (.aload_n 0, 1) := okd_at mL_law_10 14 rfl
theorem dL_law_913 : decode cL_law 913 = .ok (.iload_n 3, 1) := okd_at mL_law_10 15 rfl
theorem dL_law_914 : decode cL_law 914 = .ok (.iconst 3, 1) := okd_at mL_law_10 16 rfl
theorem dL_law_915 : decode cL_law 915 = .ok (.iadd, 1) := okd_at mL_law_10 17 rfl
theorem dL_law_916 : decode cL_law 916 = .ok (.iaload, 1) := okd_at mL_law_10 18 rfl
theorem dL_law_917 : decode cL_law 917 = .ok (.invokevirtual 110, 3) := okd_at mL_law_10 19 rfl
theorem dL_law_920 : decode cL_law 920 = .ok (.if_icmp .eq 399, 3) := okd_at mL_law_10 20 rfl
theorem dL_law_923 : decode cL_law 923 = .ok (.iconst 0, 1) := okd_at mL_law_10 21 rfl
theorem dL_law_924 : decode cL_law 924 = .ok (.ireturn, 1) := okd_at mL_law_10 22 rfl
theorem dL_law_925 : decode cL_law 925 = .ok (.aload_n 1, 1) := okd_at mL_law_10 23 rfl
theorem dL_law_926 : decode cL_law 926 = .ok (.aload_n 0, 1) := okd_at mL_law_10 24 rfl
theorem dL_law_927 : decode cL_law 927 = .ok (.iload_n 3, 1) := okd_at mL_law_10 25 rfl
theorem dL_law_928 : decode cL_law 928 = .ok (.iconst 1, 1) := okd_at mL_law_10 26 rfl
theorem dL_law_929 : decode cL_law 929 = .ok (.iadd, 1) := okd_at mL_law_10 27 rfl
theorem dL_law_930 : decode cL_law 930 = .ok (.iaload, 1) := okd_at mL_law_10 28 rfl
theorem dL_law_931 : decode cL_law 931 = .ok (.invokevirtual 111, 3) := okd_at mL_law_10 29 rfl
theorem dL_law_934 : decode cL_law 934 = .ok (.aload_n 2, 1) := okd_at mL_law_10 30 rfl
theorem dL_law_935 : decode cL_law 935 = .ok (.aload_n 0, 1) := okd_at mL_law_10 31 rfl
theorem dL_law_936 : decode cL_law 936 = .ok (.iload_n 3, 1) := okd_at mL_law_10 32 rfl
theorem dL_law_937 : decode cL_law 937 = .ok (.iconst 1, 1) := okd_at mL_law_10 33 rfl
theorem dL_law_938 : decode cL_law 938 = .ok (.iadd, 1) := okd_at mL_law_10 34 rfl
theorem dL_law_939 : decode cL_law 939 = .ok (.iaload, 1) := okd_at mL_law_10 35 rfl
theorem dL_law_940 : decode cL_law 940 = .ok (.invokevirtual 114, 3) := okd_at mL_law_10 36 rfl
theorem dL_law_943 : decode cL_law 943 = .ok (.if_icmp .eq 376, 3) := okd_at mL_law_10 37 rfl
theorem dL_law_946 : decode cL_law 946 = .ok (.iconst 0, 1) := okd_at mL_law_10 38 rfl
theorem dL_law_947 : decode cL_law 947 = .ok (.ireturn, 1) := okd_at mL_law_10 39 rfl
theorem dL_law_948 : decode cL_law 948 = .ok (.aload_n 1, 1) := okd_at mL_law_10 40 rfl
theorem dL_law_949 : decode cL_law 949 = .ok (.aload_n 0, 1) := okd_at mL_law_10 41 rfl
theorem dL_law_950 : decode cL_law 950 = .ok (.iload_n 3, 1) := okd_at mL_law_10 42 rfl
theorem dL_law_951 : decode cL_law 951 = .ok (.iconst 1, 1) := okd_at mL_law_10 43 rfl
theorem dL_law_952 : decode cL_law 952 = .ok (.iadd, 1) := okd_at mL_law_10 44 rfl
theorem dL_law_953 : decode cL_law 953 = .ok (.iaload, 1) := okd_at mL_law_10 45 rfl
theorem dL_law_954 : decode cL_law 954 = .ok (.invokevirtual 115, 3) := okd_at mL_law_10 46 rfl
theorem dL_law_957 : decode cL_law 957 = .ok (.aload_n 2, 1) := okd_at mL_law_10 47 rfl
theorem dL_law_958 : decode cL_law 958 = .ok (.aload_n 0, 1) := okd_at mL_law_10 48 rfl
theorem dL_law_959 : decode cL_law 959 = .ok (.iload_n 3, 1) := okd_at mL_law_10 49 rfl
theorem dL_law_960 : decode cL_law 960 = .ok (.iconst 1, 1) := okd_at mL_law_10 50 rfl
theorem dL_law_961 : decode cL_law 961 = .ok (.iadd, 1) := okd_at mL_law_10 51 rfl
theorem dL_law_962 : decode cL_law 962 = .ok (.iaload, 1) := okd_at mL_law_10 52 rfl
theorem dL_law_963 : decode cL_law 963 = .ok (.invokevirtual 118, 3) := okd_at mL_law_10 53 rfl
theorem dL_law_966 : decode cL_law 966 = .ok (.if_icmp .eq 353, 3) := okd_at mL_law_10 54 rfl
theorem dL_law_969 : decode cL_law 969 = .ok (.iconst 0, 1) := okd_at mL_law_10 55 rfl
theorem dL_law_970 : decode cL_law 970 = .ok (.ireturn, 1) := okd_at mL_law_10 56 rfl
theorem dL_law_971 : decode cL_law 971 = .ok (.aload_n 1, 1) := okd_at mL_law_10 57 rfl
theorem dL_law_972 : decode cL_law 972 = .ok (.aload_n 0, 1) := okd_at mL_law_10 58 rfl
theorem dL_law_973 : decode cL_law 973 = .ok (.iload_n 3, 1) := okd_at mL_law_10 59 rfl
def lmL_law_11 : List (Nat × Instr × Nat) := [(974, .iconst 1, 1), (975, .iadd, 1), (976, .iaload, 1), (977, .aload_n 0, 1), (978, .iload_n 3, 1), (979, .iconst 2, 1), (980, .iadd, 1), (981, .iaload, 1), (982, .invokevirtual 119, 3), (985, .aload_n 2, 1), (986, .aload_n 0, 1), (987, .iload_n 3, 1), (988, .iconst 1, 1), (989, .iadd, 1), (990, .iaload, 1), (991, .aload_n 0, 1), (992, .iload_n 3, 1), (993, .iconst 2, 1), (994, .iadd, 1), (995, .iaload, 1), (996, .invokevirtual 122, 3), (999, .if_icmp .eq 320, 3), (1002, .iconst 0, 1), (1003, .ireturn, 1), (1004, .aload_n 1, 1), (1005, .aload_n 0, 1), (1006, .iload_n 3, 1), (1007, .iconst 1, 1), (1008, .iadd, 1), (1009, .iaload, 1), (1010, .aload_n 0, 1), (1011, .iload_n 3, 1), (1012, .iconst 2, 1), (1013, .iadd, 1), (1014, .iaload, 1), (1015, .aload_n 0, 1), (1016, .iload_n 3, 1), (1017, .iconst 3, 1), (1018, .iadd, 1), (1019, .iaload, 1), (1020, .aload_n 0, 1), (1021, .iload_n 3, 1), (1022, .iconst 4, 1), (1023, .iadd, 1), (1024, .iaload, 1), (1025, .invokevirtual 123, 3), (1028, .aload_n 2, 1), (1029, .aload_n 0, 1), (1030, .iload_n 3, 1), (1031, .iconst 1, 1), (1032, .iadd, 1), (1033, .iaload, 1), (1034, .aload_n 0, 1), (1035, .iload_n 3, 1), (1036, .iconst 2, 1), (1037, .iadd, 1), (1038, .iaload, 1), (1039, .aload_n 0, 1), (1040, .iload_n 3, 1), (1041, .iconst 3, 1)]
theorem mL_law_11 : okd cL_law lmL_law_11 = true := by decide +kernel
theorem dL_law_974 : decode cL_law 974 = .ok (.iconst 1, 1) := okd_at mL_law_11 0 rfl
theorem dL_law_975 : decode cL_law 975 = .ok (.iadd, 1) := okd_at mL_law_11 1 rfl
theorem dL_law_976 : decode cL_law 976 = .ok (.iaload, 1) := okd_at mL_law_11 2 rfl
theorem dL_law_977 : decode cL_law 977 = .ok (.aload_n 0, 1) := okd_at mL_law_11 3 rfl
theorem dL_law_978 : decode cL_law 978 = .ok (.iload_n 3, 1) := okd_at mL_law_11 4 rfl
theorem dL_law_979 : decode cL_law 979 = .ok (.iconst 2, 1) := okd_at mL_law_11 5 rfl
theorem dL_law_980 : decode cL_law 980 = .ok (.iadd, 1) := okd_at mL_law_11 6 rfl
theorem dL_law_981 : decode cL_law 981 = .ok (.iaload, 1) := okd_at mL_law_11 7 rfl
theorem dL_law_982 : decode cL_law 982 = .ok (.invokevirtual 119, 3) := okd_at mL_law_11 8 rfl
theorem dL_law_985 : decode cL_law 985 = .ok (.aload_n 2, 1) := okd_at mL_law_11 9 rfl
theorem dL_law_986 : decode cL_law 986 = .ok (.aload_n 0, 1) := okd_at mL_law_11 10 rfl
theorem dL_law_987 : decode cL_law 987 = .ok (.iload_n 3, 1) := okd_at mL_law_11 11 rfl
theorem dL_law_988 : decode cL_law 988 = .ok (.iconst 1, 1) := okd_at mL_law_11 12 rfl
theorem dL_law_989 : decode cL_law 989 = .ok (.iadd, 1) := okd_at mL_law_11 13 rfl
theorem dL_law_990 : decode cL_law 990 = .ok (.iaload, 1) := okd_at mL_law_11 14 rfl
theorem dL_law_991 : decode cL_law 991 = .ok (.aload_n 0, 1) := okd_at mL_law_11 15 rfl
theorem dL_law_992 : decode cL_law 992 = .ok (.iload_n 3, 1) := okd_at mL_law_11 16 rfl
theorem dL_law_993 : decode cL_law 993 = .ok (.iconst 2, 1) := okd_at mL_law_11 17 rfl
theorem dL_law_994 : decode cL_law 994 = .ok (.iadd, 1) := okd_at mL_law_11 18 rfl
theorem dL_law_995 : decode cL_law 995 = .ok (.iaload, 1) := okd_at mL_law_11 19 rfl
theorem dL_law_996 : decode cL_law 996 = .ok (.invokevirtual 122, 3) := okd_at mL_law_11 20 rfl
theorem dL_law_999 : decode cL_law 999 = .ok (.if_icmp .eq 320, 3) := okd_at mL_law_11 21 rfl
theorem dL_law_1002 : decode cL_law 1002 = .ok (.iconst 0, 1) := okd_at mL_law_11 22 rfl
theorem dL_law_1003 : decode cL_law 1003 = .ok (.ireturn, 1) := okd_at mL_law_11 23 rfl
theorem dL_law_1004 : decode cL_law 1004 = .ok (.aload_n 1, 1) := okd_at mL_law_11 24 rfl
theorem dL_law_1005 : decode cL_law 1005 = .ok (.aload_n 0, 1) := okd_at mL_law_11 25 rfl
theorem dL_law_1006 : decode cL_law 1006 = .ok (.iload_n 3, 1) := okd_at mL_law_11 26 rfl
theorem dL_law_1007 : decode cL_law 1007 = .ok (.iconst 1, 1) := okd_at mL_law_11 27 rfl
theorem dL_law_1008 : decode cL_law 1008 = .ok (.iadd, 1) := okd_at mL_law_11 28 rfl
theorem dL_law_1009 : decode cL_law 1009 = .ok (.iaload, 1) := okd_at mL_law_11 29 rfl
theorem dL_law_1010 : decode cL_law 1010 = .ok (.aload_n 0, 1) := okd_at mL_law_11 30 rfl
theorem dL_law_1011 : decode cL_law 1011 = .ok (.iload_n 3, 1) := okd_at mL_law_11 31 rfl
theorem dL_law_1012 : decode cL_law 1012 = .ok (.iconst 2, 1) := okd_at mL_law_11 32 rfl
theorem dL_law_1013 : decode cL_law 1013 = .ok (.iadd, 1) := okd_at mL_law_11 33 rfl
theorem dL_law_1014 : decode cL_law 1014 = .ok (.iaload, 1) := okd_at mL_law_11 34 rfl
theorem dL_law_1015 : decode cL_law 1015 = .ok (.aload_n 0, 1) := okd_at mL_law_11 35 rfl
theorem dL_law_1016 : decode cL_law 1016 = .ok (.iload_n 3, 1) := okd_at mL_law_11 36 rfl
theorem dL_law_1017 : decode cL_law 1017 = .ok (.iconst 3, 1) := okd_at mL_law_11 37 rfl
theorem dL_law_1018 : decode cL_law 1018 = .ok (.iadd, 1) := okd_at mL_law_11 38 rfl
theorem dL_law_1019 : decode cL_law 1019 = .ok (.iaload, 1) := okd_at mL_law_11 39 rfl
theorem dL_law_1020 : decode cL_law 1020 = .ok (.aload_n 0, 1) := okd_at mL_law_11 40 rfl
theorem dL_law_1021 : decode cL_law 1021 = .ok (.iload_n 3, 1) := okd_at mL_law_11 41 rfl
theorem dL_law_1022 : decode cL_law 1022 = .ok (.iconst 4, 1) := okd_at mL_law_11 42 rfl
theorem dL_law_1023 : decode cL_law 1023 = .ok (.iadd, 1) := okd_at mL_law_11 43 rfl
theorem dL_law_1024 : decode cL_law 1024 = .ok (.iaload, 1) := okd_at mL_law_11 44 rfl
theorem dL_law_1025 : decode cL_law 1025 = .ok (.invokevirtual 123, 3) := okd_at mL_law_11 45 rfl
theorem dL_law_1028 : decode cL_law 1028 = .ok (.aload_n 2, 1) := okd_at mL_law_11 46 rfl
theorem dL_law_1029 : decode cL_law 1029 = .ok (.aload_n 0, 1) := okd_at mL_law_11 47 rfl
theorem dL_law_1030 : decode cL_law 1030 = .ok (.iload_n 3, 1) := okd_at mL_law_11 48 rfl
theorem dL_law_1031 : decode cL_law 1031 = .ok (.iconst 1, 1) := okd_at mL_law_11 49 rfl
theorem dL_law_1032 : decode cL_law 1032 = .ok (.iadd, 1) := okd_at mL_law_11 50 rfl
theorem dL_law_1033 : decode cL_law 1033 = .ok (.iaload, 1) := okd_at mL_law_11 51 rfl
theorem dL_law_1034 : decode cL_law 1034 = .ok (.aload_n 0, 1) := okd_at mL_law_11 52 rfl
theorem dL_law_1035 : decode cL_law 1035 = .ok (.iload_n 3, 1) := okd_at mL_law_11 53 rfl
theorem dL_law_1036 : decode cL_law 1036 = .ok (.iconst 2, 1) := okd_at mL_law_11 54 rfl
theorem dL_law_1037 : decode cL_law 1037 = .ok (.iadd, 1) := okd_at mL_law_11 55 rfl
theorem dL_law_1038 : decode cL_law 1038 = .ok (.iaload, 1) := okd_at mL_law_11 56 rfl
theorem dL_law_1039 : decode cL_law 1039 = .ok (.aload_n 0, 1) := okd_at mL_law_11 57 rfl
theorem dL_law_1040 : decode cL_law 1040 = .ok (.iload_n 3, 1) := okd_at mL_law_11 58 rfl
theorem dL_law_1041 : decode cL_law 1041 = .ok (.iconst 3, 1) := okd_at mL_law_11 59 rfl
def lmL_law_12 : List (Nat × Instr × Nat) := [(1042, .iadd, 1), (1043, .iaload, 1), (1044, .aload_n 0, 1), (1045, .iload_n 3, 1), (1046, .iconst 4, 1), (1047, .iadd, 1), (1048, .iaload, 1), (1049, .invokevirtual 127, 3), (1052, .lcmp, 1), (1053, .ifCond .eq 266, 3), (1056, .iconst 0, 1), (1057, .ireturn, 1), (1058, .aload_n 1, 1), (1059, .invokevirtual 128, 3), (1062, .aload_n 2, 1), (1063, .invokevirtual 131, 3), (1066, .if_icmp .eq 253, 3), (1069, .iconst 0, 1), (1070, .ireturn, 1), (1071, .aload_n 1, 1), (1072, .invokevirtual 132, 3), (1075, .aload_n 2, 1), (1076, .invokevirtual 135, 3), (1079, .if_icmp .eq 240, 3), (1082, .iconst 0, 1), (1083, .ireturn, 1), (1084, .aload_n 1, 1), (1085, .aload_n 0, 1), (1086, .iload_n 3, 1), (1087, .iconst 1, 1), (1088, .iadd, 1), (1089, .iaload, 1), (1090, .aload_n 0, 1), (1091, .iload_n 3, 1), (1092, .iconst 2, 1), (1093, .iadd, 1), (1094, .iaload, 1), (1095, .aload_n 0, 1), (1096, .iload_n 3, 1), (1097, .iconst 3, 1), (1098, .iadd, 1), (1099, .iaload, 1), (1100, .invokevirtual 136, 3), (1103, .aload_n 2, 1), (1104, .aload_n 0, 1), (1105, .iload_n 3, 1), (1106, .iconst 1, 1), (1107, .iadd, 1), (1108, .iaload, 1), (1109, .aload_n 0, 1), (1110, .iload_n 3, 1), (1111, .iconst 2, 1), (1112, .iadd, 1), (1113, .iaload, 1), (1114, .aload_n 0, 1), (1115, .iload_n 3, 1), (1116, .iconst 3, 1), (1117, .iadd, 1), (1118, .iaload, 1), (1119, .invokevirtual 139, 3)]
theorem mL_law_12 : okd cL_law lmL_law_12 = true := by decide +kernel
theorem dL_law_1042 : decode cL_law 1042 = .ok (.iadd, 1) := okd_at mL_law_12 0 rfl
theorem dL_law_1043 : decode cL_law 1043 = .ok (.iaload, 1) := okd_at mL_law_12 1 rfl
theorem dL_law_1044 : decode cL_law 1044 = .ok (.aload_n 0, 1) := okd_at mL_law_12 2 rfl
theorem dL_law_1045 : decode cL_law 1045 = .ok (.iload_n 3, 1) := okd_at mL_law_12 3 rfl
theorem dL_law_1046 : decode cL_law 1046 = .ok (.iconst 4, 1) := okd_at mL_law_12 4 rfl
theorem dL_law_1047 : decode cL_law 1047 = .ok (.iadd, 1) := okd_at mL_law_12 5 rfl
theorem dL_law_1048 : decode cL_law 1048 = .ok (.iaload, 1) := okd_at mL_law_12 6 rfl
theorem dL_law_1049 : decode cL_law 1049 = .ok (.invokevirtual 127, 3) := okd_at mL_law_12 7 rfl
theorem dL_law_1052 : decode cL_law 1052 = .ok (.lcmp, 1) := okd_at mL_law_12 8 rfl
theorem dL_law_1053 : decode cL_law 1053 = .ok (.ifCond .eq 266, 3) := okd_at mL_law_12 9 rfl
theorem dL_law_1056 : decode cL_law 1056 = .ok (.iconst 0, 1) := okd_at mL_law_12 10 rfl
theorem dL_law_1057 : decode cL_law 1057 = .ok (.ireturn, 1) := okd_at mL_law_12 11 rfl
theorem dL_law_1058 : decode cL_law 1058 = .ok (.aload_n 1, 1) := okd_at mL_law_12 12 rfl
theorem dL_law_1059 : decode cL_law 1059 = .ok (.invokevirtual 128, 3) := okd_at mL_law_12 13 rfl
theorem dL_law_1062 : decode cL_law 1062 = .ok (.aload_n 2, 1) := okd_at mL_law_12 14 rfl
theorem dL_law_1063 : decode cL_law 1063 = .ok (.invokevirtual 131, 3) := okd_at mL_law_12 15 rfl
theorem dL_law_1066 : decode cL_law 1066 = .ok (.if_icmp .eq 253, 3) := okd_at mL_law_12 16 rfl
theorem dL_law_1069 : decode cL_law 1069 = .ok (.iconst 0, 1) := okd_at mL_law_12 17 rfl
theorem dL_law_1070 : decode cL_law 1070 = .ok (.ireturn, 1) := okd_at mL_law_12 18 rfl
theorem dL_law_1071 : decode cL_law 1071 = .ok (.aload_n 1, 1) := okd_at mL_law_12 19 rfl
theorem dL_law_1072 : decode cL_law 1072 = .ok (.invokevirtual 132, 3) := okd_at mL_law_12 20 rfl
theorem dL_law_1075 : decode cL_law 1075 = .ok (.aload_n 2, 1) := okd_at mL_law_12 21 rfl
theorem dL_law_1076 : decode cL_law 1076 = .ok (.invokevirtual 135, 3) := okd_at mL_law_12 22 rfl
theorem dL_law_1079 : decode cL_law 1079 = .ok (.if_icmp .eq 240, 3) := okd_at mL_law_12 23 rfl
theorem dL_law_1082 : decode cL_law 1082 = .ok (.iconst 0, 1) := okd_at mL_law_12 24 rfl
theorem dL_law_1083 : decode cL_law 1083 = .ok (.ireturn, 1) := okd_at mL_law_12 25 rfl
theorem dL_law_1084 : decode cL_law 1084 = .ok (.aload_n 1, 1) := okd_at mL_law_12 26 rfl
theorem dL_law_1085 : decode cL_law 1085 = .ok (.aload_n 0, 1) := okd_at mL_law_12 27 rfl
theorem dL_law_1086 : decode cL_law 1086 = .ok (.iload_n 3, 1) := okd_at mL_law_12 28 rfl
theorem dL_law_1087 : decode cL_law 1087 = .ok (.iconst 1, 1) := okd_at mL_law_12 29 rfl
theorem dL_law_1088 : decode cL_law 1088 = .ok (.iadd, 1) := okd_at mL_law_12 30 rfl
theorem dL_law_1089 : decode cL_law 1089 = .ok (.iaload, 1) := okd_at mL_law_12 31 rfl
theorem dL_law_1090 : decode cL_law 1090 = .ok (.aload_n 0, 1) := okd_at mL_law_12 32 rfl
theorem dL_law_1091 : decode cL_law 1091 = .ok (.iload_n 3, 1) := okd_at mL_law_12 33 rfl
theorem dL_law_1092 : decode cL_law 1092 = .ok (.iconst 2, 1) := okd_at mL_law_12 34 rfl
theorem dL_law_1093 : decode cL_law 1093 = .ok (.iadd, 1) := okd_at mL_law_12 35 rfl
theorem dL_law_1094 : decode cL_law 1094 = .ok (.iaload, 1) := okd_at mL_law_12 36 rfl
theorem dL_law_1095 : decode cL_law 1095 = .ok (.aload_n 0, 1) := okd_at mL_law_12 37 rfl
theorem dL_law_1096 : decode cL_law 1096 = .ok (.iload_n 3, 1) := okd_at mL_law_12 38 rfl
theorem dL_law_1097 : decode cL_law 1097 = .ok (.iconst 3, 1) := okd_at mL_law_12 39 rfl
theorem dL_law_1098 : decode cL_law 1098 = .ok (.iadd, 1) := okd_at mL_law_12 40 rfl
theorem dL_law_1099 : decode cL_law 1099 = .ok (.iaload, 1) := okd_at mL_law_12 41 rfl
theorem dL_law_1100 : decode cL_law 1100 = .ok (.invokevirtual 136, 3) := okd_at mL_law_12 42 rfl
theorem dL_law_1103 : decode cL_law 1103 = .ok (.aload_n 2, 1) := okd_at mL_law_12 43 rfl
theorem dL_law_1104 : decode cL_law 1104 = .ok (.aload_n 0, 1) := okd_at mL_law_12 44 rfl
theorem dL_law_1105 : decode cL_law 1105 = .ok (.iload_n 3, 1) := okd_at mL_law_12 45 rfl
theorem dL_law_1106 : decode cL_law 1106 = .ok (.iconst 1, 1) := okd_at mL_law_12 46 rfl
theorem dL_law_1107 : decode cL_law 1107 = .ok (.iadd, 1) := okd_at mL_law_12 47 rfl
theorem dL_law_1108 : decode cL_law 1108 = .ok (.iaload, 1) := okd_at mL_law_12 48 rfl
theorem dL_law_1109 : decode cL_law 1109 = .ok (.aload_n 0, 1) := okd_at mL_law_12 49 rfl
theorem dL_law_1110 : decode cL_law 1110 = .ok (.iload_n 3, 1) := okd_at mL_law_12 50 rfl
theorem dL_law_1111 : decode cL_law 1111 = .ok (.iconst 2, 1) := okd_at mL_law_12 51 rfl
theorem dL_law_1112 : decode cL_law 1112 = .ok (.iadd, 1) := okd_at mL_law_12 52 rfl
theorem dL_law_1113 : decode cL_law 1113 = .ok (.iaload, 1) := okd_at mL_law_12 53 rfl
theorem dL_law_1114 : decode cL_law 1114 = .ok (.aload_n 0, 1) := okd_at mL_law_12 54 rfl
theorem dL_law_1115 : decode cL_law 1115 = .ok (.iload_n 3, 1) := okd_at mL_law_12 55 rfl
theorem dL_law_1116 : decode cL_law 1116 = .ok (.iconst 3, 1) := okd_at mL_law_12 56 rfl
theorem dL_law_1117 : decode cL_law 1117 = .ok (.iadd, 1) := okd_at mL_law_12 57 rfl
theorem dL_law_1118 : decode cL_law 1118 = .ok (.iaload, 1) := okd_at mL_law_12 58 rfl
theorem dL_law_1119 : decode cL_law 1119 = .ok (.invokevirtual 139, 3) := okd_at mL_law_12 59 rfl
def lmL_law_13 : List (Nat × Instr × Nat) := [(1122, .if_icmp .eq 197, 3), (1125, .iconst 0, 1), (1126, .ireturn, 1), (1127, .aload_n 1, 1), (1128, .aload_n 0, 1), (1129, .iload_n 3, 1), (1130, .iconst 1, 1), (1131, .iadd, 1), (1132, .iaload, 1), (1133, .aload_n 0, 1), (1134, .iload_n 3, 1), (1135, .iconst 2, 1), (1136, .iadd, 1), (1137, .iaload, 1), (1138, .aload_n 0, 1), (1139, .iload_n 3, 1), (1140, .iconst 3, 1), (1141, .iadd, 1), (1142, .iaload, 1), (1143, .invokevirtual 140, 3), (1146, .aload_n 2, 1), (1147, .aload_n 0, 1), (1148, .iload_n 3, 1), (1149, .iconst 1, 1), (1150, .iadd, 1), (1151, .iaload, 1), (1152, .aload_n 0, 1), (1153, .iload_n 3, 1), (1154, .iconst 2, 1), (1155, .iadd, 1), (1156, .iaload, 1), (1157, .aload_n 0, 1), (1158, .iload_n 3, 1), (1159, .iconst 3, 1), (1160, .iadd, 1), (1161, .iaload, 1), (1162, .invokevirtual 143, 3), (1165, .if_icmp .eq 154, 3), (1168, .iconst 0, 1), (1169, .ireturn, 1), (1170, .aload_n 1, 1), (1171, .aload_n 0, 1), (1172, .iload_n 3, 1), (1173, .iconst 1, 1), (1174, .iadd, 1), (1175, .iaload, 1), (1176, .aload_n 0, 1), (1177, .iload_n 3, 1), (1178, .iconst 2, 1), (1179, .iadd, 1), (1180, .iaload, 1), (1181, .aload_n 0, 1), (1182, .iload_n 3, 1), (1183, .iconst 3, 1), (1184, .iadd, 1), (1185, .iaload, 1), (1186, .aload_n 0, 1), (1187, .iload_n 3, 1), (1188, .iconst 4, 1), (1189, .iadd, 1)]
theorem mL_law_13 : okd cL_law lmL_law_13 = true := by decide +kernel
theorem dL_law_1122 : decode cL_law 1122 = .ok (.if_icmp .eq 197, 3) := okd_at mL_law_13 0 rfl
theorem dL_law_1125 : decode cL_law 1125 = .ok (.iconst 0, 1) := okd_at mL_law_13 1 rfl
theorem dL_law_1126 : decode cL_law 1126 = .ok (.ireturn, 1) := okd_at mL_law_13 2 rfl
theorem dL_law_1127 : decode cL_law 1127 = .ok (.aload_n 1, 1) := okd_at mL_law_13 3 rfl
theorem dL_law_1128 : decode cL_law 1128 = .ok (.aload_n 0, 1) := okd_at mL_law_13 4 rfl
theorem dL_law_1129 : decode cL_law 1129 = .ok (.iload_n 3, 1) := okd_at mL_law_13 5 rfl
theorem dL_law_1130 : decode cL_law 1130 = .ok (.iconst 1, 1) := okd_at mL_law_13 6 rfl
theorem dL_law_1131 : decode cL_law 1131 = .ok (.iadd, 1) := okd_at mL_law_13 7 rfl
theorem dL_law_1132 : decode cL_law 1132 = .ok (.iaload, 1) := okd_at mL_law_13 8 rfl
theorem dL_law_1133 : decode cL_law 1133 = .ok (.aload_n 0, 1) := okd_at mL_law_13 9 rfl
theorem dL_law_1134 : decode cL_law 1134 = .ok (.iload_n 3, 1) := okd_at mL_law_13 10 rfl
theorem dL_law_1135 : decode cL_law 1135 = .ok (.iconst 2, 1) := okd_at mL_law_13 11 rfl
theorem dL_law_1136 : decode cL_law 1136 = .ok (.iadd, 1) := okd_at mL_law_13 12 rfl
theorem dL_law_1137 : decode cL_law 1137 = .ok (.iaload, 1) := okd_at mL_law_13 13 rfl
theorem dL_law_1138 : decode cL_law 1138 = .ok (.aload_n 0, 1) := okd_at mL_law_13 14 rfl
theorem dL_law_1139 : decode cL_law 1139 = .ok (.iload_n 3, 1) := okd_at mL_law_13 15 rfl
theorem dL_law_1140 : decode cL_law 1140 = .ok (.iconst 3, 1) := okd_at mL_law_13 16 rfl
theorem dL_law_1141 : decode cL_law 1141 = .ok (.iadd, 1) := okd_at mL_law_13 17 rfl
theorem dL_law_1142 : decode cL_law 1142 = .ok (.iaload, 1) := okd_at mL_law_13 18 rfl
theorem dL_law_1143 : decode cL_law 1143 = .ok (.invokevirtual 140, 3) := okd_at mL_law_13 19 rfl
theorem dL_law_1146 : decode cL_law 1146 = .ok (.aload_n 2, 1) := okd_at mL_law_13 20 rfl
theorem dL_law_1147 : decode cL_law 1147 = .ok (.aload_n 0, 1) := okd_at mL_law_13 21 rfl
theorem dL_law_1148 : decode cL_law 1148 = .ok (.iload_n 3, 1) := okd_at mL_law_13 22 rfl
theorem dL_law_1149 : decode cL_law 1149 = .ok (.iconst 1, 1) := okd_at mL_law_13 23 rfl
theorem dL_law_1150 : decode cL_law 1150 = .ok (.iadd, 1) := okd_at mL_law_13 24 rfl
theorem dL_law_1151 : decode cL_law 1151 = .ok (.iaload, 1) := okd_at mL_law_13 25 rfl
theorem dL_law_1152 : decode cL_law 1152 = .ok (.aload_n 0, 1) := okd_at mL_law_13 26 rfl
theorem dL_law_1153 : decode cL_law 1153 = .ok (.iload_n 3, 1) := okd_at mL_law_13 27 rfl
theorem dL_law_1154 : decode cL_law 1154 = .ok (.iconst 2, 1) := okd_at mL_law_13 28 rfl
theorem dL_law_1155 : decode cL_law 1155 = .ok (.iadd, 1) := okd_at mL_law_13 29 rfl
theorem dL_law_1156 : decode cL_law 1156 = .ok (.iaload, 1) := okd_at mL_law_13 30 rfl
theorem dL_law_1157 : decode cL_law 1157 = .ok (.aload_n 0, 1) := okd_at mL_law_13 31 rfl
theorem dL_law_1158 : decode cL_law 1158 = .ok (.iload_n 3, 1) := okd_at mL_law_13 32 rfl
theorem dL_law_1159 : decode cL_law 1159 = .ok (.iconst 3, 1) := okd_at mL_law_13 33 rfl
theorem dL_law_1160 : decode cL_law 1160 = .ok (.iadd, 1) := okd_at mL_law_13 34 rfl
theorem dL_law_1161 : decode cL_law 1161 = .ok (.iaload, 1) := okd_at mL_law_13 35 rfl
theorem dL_law_1162 : decode cL_law 1162 = .ok (.invokevirtual 143, 3) := okd_at mL_law_13 36 rfl
theorem dL_law_1165 : decode cL_law 1165 = .ok (.if_icmp .eq 154, 3) := okd_at mL_law_13 37 rfl
theorem dL_law_1168 : decode cL_law 1168 = .ok (.iconst 0, 1) := okd_at mL_law_13 38 rfl
theorem dL_law_1169 : decode cL_law 1169 = .ok (.ireturn, 1) := okd_at mL_law_13 39 rfl
theorem dL_law_1170 : decode cL_law 1170 = .ok (.aload_n 1, 1) := okd_at mL_law_13 40 rfl
theorem dL_law_1171 : decode cL_law 1171 = .ok (.aload_n 0, 1) := okd_at mL_law_13 41 rfl
theorem dL_law_1172 : decode cL_law 1172 = .ok (.iload_n 3, 1) := okd_at mL_law_13 42 rfl
theorem dL_law_1173 : decode cL_law 1173 = .ok (.iconst 1, 1) := okd_at mL_law_13 43 rfl
theorem dL_law_1174 : decode cL_law 1174 = .ok (.iadd, 1) := okd_at mL_law_13 44 rfl
theorem dL_law_1175 : decode cL_law 1175 = .ok (.iaload, 1) := okd_at mL_law_13 45 rfl
theorem dL_law_1176 : decode cL_law 1176 = .ok (.aload_n 0, 1) := okd_at mL_law_13 46 rfl
theorem dL_law_1177 : decode cL_law 1177 = .ok (.iload_n 3, 1) := okd_at mL_law_13 47 rfl
theorem dL_law_1178 : decode cL_law 1178 = .ok (.iconst 2, 1) := okd_at mL_law_13 48 rfl
theorem dL_law_1179 : decode cL_law 1179 = .ok (.iadd, 1) := okd_at mL_law_13 49 rfl
theorem dL_law_1180 : decode cL_law 1180 = .ok (.iaload, 1) := okd_at mL_law_13 50 rfl
theorem dL_law_1181 : decode cL_law 1181 = .ok (.aload_n 0, 1) := okd_at mL_law_13 51 rfl
theorem dL_law_1182 : decode cL_law 1182 = .ok (.iload_n 3, 1) := okd_at mL_law_13 52 rfl
theorem dL_law_1183 : decode cL_law 1183 = .ok (.iconst 3, 1) := okd_at mL_law_13 53 rfl
theorem dL_law_1184 : decode cL_law 1184 = .ok (.iadd, 1) := okd_at mL_law_13 54 rfl
theorem dL_law_1185 : decode cL_law 1185 = .ok (.iaload, 1) := okd_at mL_law_13 55 rfl
theorem dL_law_1186 : decode cL_law 1186 = .ok (.aload_n 0, 1) := okd_at mL_law_13 56 rfl
theorem dL_law_1187 : decode cL_law 1187 = .ok (.iload_n 3, 1) := okd_at mL_law_13 57 rfl
theorem dL_law_1188 : decode cL_law 1188 = .ok (.iconst 4, 1) := okd_at mL_law_13 58 rfl
theorem dL_law_1189 : decode cL_law 1189 = .ok (.iadd, 1) := okd_at mL_law_13 59 rfl
def lmL_law_14 : List (Nat × Instr × Nat) := [(1190, .iaload, 1), (1191, .aload_n 0, 1), (1192, .iload_n 3, 1), (1193, .iconst 5, 1), (1194, .iadd, 1), (1195, .iaload, 1), (1196, .invokevirtual 144, 3), (1199, .aload_n 2, 1), (1200, .aload_n 0, 1), (1201, .iload_n 3, 1), (1202, .iconst 1, 1), (1203, .iadd, 1), (1204, .iaload, 1), (1205, .aload_n 0, 1), (1206, .iload_n 3, 1), (1207, .iconst 2, 1), (1208, .iadd, 1), (1209, .iaload, 1), (1210, .aload_n 0, 1), (1211, .iload_n 3, 1), (1212, .iconst 3, 1), (1213, .iadd, 1), (1214, .iaload, 1), (1215, .aload_n 0, 1), (1216, .iload_n 3, 1), (1217, .iconst 4, 1), (1218, .iadd, 1), (1219, .iaload, 1), (1220, .aload_n 0, 1), (1221, .iload_n 3, 1), (1222, .iconst 5, 1), (1223, .iadd, 1), (1224, .iaload, 1), (1225, .invokevirtual 148, 3), (1228, .if_icmp .eq 91, 3), (1231, .iconst 0, 1), (1232, .ireturn, 1), (1233, .aload_n 1, 1), (1234, .aload_n 0, 1), (1235, .iload_n 3, 1), (1236, .iconst 1, 1), (1237, .iadd, 1), (1238, .iaload, 1), (1239, .aload_n 0, 1), (1240, .iload_n 3, 1), (1241, .iconst 2, 1), (1242, .iadd, 1), (1243, .iaload, 1), (1244, .aload_n 0, 1), (1245, .iload_n 3, 1), (1246, .iconst 3, 1), (1247, .iadd, 1), (1248, .iaload, 1), (1249, .aload_n 0, 1), (1250, .iload_n 3, 1), (1251, .iconst 4, 1), (1252, .iadd, 1), (1253, .iaload, 1), (1254, .invokevirtual 149, 3), (1257, .aload_n 2, 1)]
theorem mL_law_14 : okd cL_law lmL_law_14 = true := by decide +kernel
theorem dL_law_1190 : decode cL_law 1190 = .ok (.iaload, 1) := okd_at mL_law_14 0 rfl
theorem dL_law_1191 : decode cL_law 1191 = .ok (.aload_n 0, 1) := okd_at mL_law_14 1 rfl
theorem dL_law_1192 : decode cL_law 1192 = .ok (.iload_n 3, 1) := okd_at mL_law_14 2 rfl
theorem dL_law_1193 : decode cL_law 1193 = .ok (.iconst 5, 1) := okd_at mL_law_14 3 rfl
theorem dL_law_1194 : decode cL_law 1194 = .ok (.iadd, 1) := okd_at mL_law_14 4 rfl
theorem dL_law_1195 : decode cL_law 1195 = .ok (.iaload, 1) := okd_at mL_law_14 5 rfl
theorem dL_law_1196 : decode cL_law 1196 = .ok (.invokevirtual 144, 3) := okd_at mL_law_14 6 rfl
theorem dL_law_1199 : decode cL_law 1199 = .ok (.aload_n 2, 1) := okd_at mL_law_14 7 rfl
theorem dL_law_1200 : decode cL_law 1200 = .ok (.aload_n 0, 1) := okd_at mL_law_14 8 rfl
theorem dL_law_1201 : decode cL_law 1201 = .ok (.iload_n 3, 1) := okd_at mL_law_14 9 rfl
theorem dL_law_1202 : decode cL_law 1202 = .ok (.iconst 1, 1) := okd_at mL_law_14 10 rfl
theorem dL_law_1203 : decode cL_law 1203 = .ok (.iadd, 1) := okd_at mL_law_14 11 rfl
theorem dL_law_1204 : decode cL_law 1204 = .ok (.iaload, 1) := okd_at mL_law_14 12 rfl
theorem dL_law_1205 : decode cL_law 1205 = .ok (.aload_n 0, 1) := okd_at mL_law_14 13 rfl
theorem dL_law_1206 : decode cL_law 1206 = .ok (.iload_n 3, 1) := okd_at mL_law_14 14 rfl
theorem dL_law_1207 : decode cL_law 1207 = .ok (.iconst 2, 1) := okd_at mL_law_14 15 rfl
theorem dL_law_1208 : decode cL_law 1208 = .ok (.iadd, 1) := okd_at mL_law_14 16 rfl
theorem dL_law_1209 : decode cL_law 1209 = .ok (.iaload, 1) := okd_at mL_law_14 17 rfl
theorem dL_law_1210 : decode cL_law 1210 = .ok (.aload_n 0, 1) := okd_at mL_law_14 18 rfl
theorem dL_law_1211 : decode cL_law 1211 = .ok (.iload_n 3, 1) := okd_at mL_law_14 19 rfl
theorem dL_law_1212 : decode cL_law 1212 = .ok (.iconst 3, 1) := okd_at mL_law_14 20 rfl
theorem dL_law_1213 : decode cL_law 1213 = .ok (.iadd, 1) := okd_at mL_law_14 21 rfl
theorem dL_law_1214 : decode cL_law 1214 = .ok (.iaload, 1) := okd_at mL_law_14 22 rfl
theorem dL_law_1215 : decode cL_law 1215 = .ok (.aload_n 0, 1) := okd_at mL_law_14 23 rfl
theorem dL_law_1216 : decode cL_law 1216 = .ok (.iload_n 3, 1) := okd_at mL_law_14 24 rfl
theorem dL_law_1217 : decode cL_law 1217 = .ok (.iconst 4, 1) := okd_at mL_law_14 25 rfl
theorem dL_law_1218 : decode cL_law 1218 = .ok (.iadd, 1) := okd_at mL_law_14 26 rfl
theorem dL_law_1219 : decode cL_law 1219 = .ok (.iaload, 1) := okd_at mL_law_14 27 rfl
theorem dL_law_1220 : decode cL_law 1220 = .ok (.aload_n 0, 1) := okd_at mL_law_14 28 rfl
theorem dL_law_1221 : decode cL_law 1221 = .ok (.iload_n 3, 1) := okd_at mL_law_14 29 rfl
theorem dL_law_1222 : decode cL_law 1222 = .ok (.iconst 5, 1) := okd_at mL_law_14 30 rfl
theorem dL_law_1223 : decode cL_law 1223 = .ok (.iadd, 1) := okd_at mL_law_14 31 rfl
theorem dL_law_1224 : decode cL_law 1224 = .ok (.iaload, 1) := okd_at mL_law_14 32 rfl
theorem dL_law_1225 : decode cL_law 1225 = .ok (.invokevirtual 148, 3) := okd_at mL_law_14 33 rfl
theorem dL_law_1228 : decode cL_law 1228 = .ok (.if_icmp .eq 91, 3) := okd_at mL_law_14 34 rfl
theorem dL_law_1231 : decode cL_law 1231 = .ok (.iconst 0, 1) := okd_at mL_law_14 35 rfl
theorem dL_law_1232 : decode cL_law 1232 = .ok (.ireturn, 1) := okd_at mL_law_14 36 rfl
theorem dL_law_1233 : decode cL_law 1233 = .ok (.aload_n 1, 1) := okd_at mL_law_14 37 rfl
theorem dL_law_1234 : decode cL_law 1234 = .ok (.aload_n 0, 1) := okd_at mL_law_14 38 rfl
theorem dL_law_1235 : decode cL_law 1235 = .ok (.iload_n 3, 1) := okd_at mL_law_14 39 rfl
theorem dL_law_1236 : decode cL_law 1236 = .ok (.iconst 1, 1) := okd_at mL_law_14 40 rfl
theorem dL_law_1237 : decode cL_law 1237 = .ok (.iadd, 1) := okd_at mL_law_14 41 rfl
theorem dL_law_1238 : decode cL_law 1238 = .ok (.iaload, 1) := okd_at mL_law_14 42 rfl
theorem dL_law_1239 : decode cL_law 1239 = .ok (.aload_n 0, 1) := okd_at mL_law_14 43 rfl
theorem dL_law_1240 : decode cL_law 1240 = .ok (.iload_n 3, 1) := okd_at mL_law_14 44 rfl
theorem dL_law_1241 : decode cL_law 1241 = .ok (.iconst 2, 1) := okd_at mL_law_14 45 rfl
theorem dL_law_1242 : decode cL_law 1242 = .ok (.iadd, 1) := okd_at mL_law_14 46 rfl
theorem dL_law_1243 : decode cL_law 1243 = .ok (.iaload, 1) := okd_at mL_law_14 47 rfl
theorem dL_law_1244 : decode cL_law 1244 = .ok (.aload_n 0, 1) := okd_at mL_law_14 48 rfl
theorem dL_law_1245 : decode cL_law 1245 = .ok (.iload_n 3, 1) := okd_at mL_law_14 49 rfl
theorem dL_law_1246 : decode cL_law 1246 = .ok (.iconst 3, 1) := okd_at mL_law_14 50 rfl
theorem dL_law_1247 : decode cL_law 1247 = .ok (.iadd, 1) := okd_at mL_law_14 51 rfl
theorem dL_law_1248 : decode cL_law 1248 = .ok (.iaload, 1) := okd_at mL_law_14 52 rfl
theorem dL_law_1249 : decode cL_law 1249 = .ok (.aload_n 0, 1) := okd_at mL_law_14 53 rfl
theorem dL_law_1250 : decode cL_law 1250 = .ok (.iload_n 3, 1) := okd_at mL_law_14 54 rfl
theorem dL_law_1251 : decode cL_law 1251 = .ok (.iconst 4, 1) := okd_at mL_law_14 55 rfl
theorem dL_law_1252 : decode cL_law 1252 = .ok (.iadd, 1) := okd_at mL_law_14 56 rfl
theorem dL_law_1253 : decode cL_law 1253 = .ok (.iaload, 1) := okd_at mL_law_14 57 rfl
theorem dL_law_1254 : decode cL_law 1254 = .ok (.invokevirtual 149, 3) := okd_at mL_law_14 58 rfl
theorem dL_law_1257 : decode cL_law 1257 = .ok (.aload_n 2, 1) := okd_at mL_law_14 59 rfl
def lmL_law_15 : List (Nat × Instr × Nat) := [(1258, .aload_n 0, 1), (1259, .iload_n 3, 1), (1260, .iconst 1, 1), (1261, .iadd, 1), (1262, .iaload, 1), (1263, .aload_n 0, 1), (1264, .iload_n 3, 1), (1265, .iconst 2, 1), (1266, .iadd, 1), (1267, .iaload, 1), (1268, .aload_n 0, 1), (1269, .iload_n 3, 1), (1270, .iconst 3, 1), (1271, .iadd, 1), (1272, .iaload, 1), (1273, .aload_n 0, 1), (1274, .iload_n 3, 1), (1275, .iconst 4, 1), (1276, .iadd, 1), (1277, .iaload, 1), (1278, .invokevirtual 152, 3), (1281, .if_icmp .eq 38, 3), (1284, .iconst 0, 1), (1285, .ireturn, 1), (1286, .aload_n 1, 1), (1287, .aload_n 0, 1), (1288, .iload_n 3, 1), (1289, .iconst 1, 1), (1290, .iadd, 1), (1291, .iaload, 1), (1292, .aload_n 0, 1), (1293, .iload_n 3, 1), (1294, .iconst 2, 1), (1295, .iadd, 1), (1296, .iaload, 1), (1297, .invokevirtual 153, 3), (1300, .aload_n 2, 1), (1301, .aload_n 0, 1), (1302, .iload_n 3, 1), (1303, .iconst 1, 1), (1304, .iadd, 1), (1305, .iaload, 1), (1306, .aload_n 0, 1), (1307, .iload_n 3, 1), (1308, .iconst 2, 1), (1309, .iadd, 1), (1310, .iaload, 1), (1311, .invokevirtual 156, 3), (1314, .if_icmp .eq 5, 3), (1317, .iconst 0, 1), (1318, .ireturn, 1), (1319, .iinc 3 7, 3), (1322, .goto (-1304), 3), (1325, .iconst 1, 1), (1326, .ireturn, 1)]
theorem mL_law_15 : okd cL_law lmL_law_15 = true := by decide +kernel
theorem dL_law_1258 : decode cL_law 1258 = .ok (.aload_n 0, 1) := okd_at mL_law_15 0 rfl
theorem dL_law_1259 : decode cL_law 1259 = .ok (.iload_n 3, 1) := okd_at mL_law_15 1 rfl
theorem dL_law_1260 : decode cL_law 1260 = .ok (.iconst 1, 1) := okd_at mL_law_15 2 rfl
theorem dL_law_1261 : decode cL_law 1261 = .ok (.iadd, 1) := okd_at mL_law_15 3 rfl
theorem dL_law_1262 : decode cL_law 1262 = .ok (.iaload, 1) := okd_at mL_law_15 4 rfl
theorem dL_law_1263 : decode cL_law 1263 = .ok (.aload_n 0, 1) := okd_at mL_law_15 5 rfl
theorem dL_law_1264 : decode cL_law 1264 = .ok (.iload_n 3, 1) := okd_at mL_law_15 6 rfl
theorem dL_law_1265 : decode cL_law 1265 = .ok (.iconst 2, 1) := okd_at mL_law_15 7 rfl
theorem dL_law_1266 : decode cL_law 1266 = .ok (.iadd, 1) := okd_at mL_law_15 8 rfl
theorem dL_law_1267 : decode cL_law 1267 = .ok (.iaload, 1) := okd_at mL_law_15 9 rfl
theorem dL_law_1268 : decode cL_law 1268 = .ok (.aload_n 0, 1) := okd_at mL_law_15 10 rfl
theorem dL_law_1269 : decode cL_law 1269 = .ok (.iload_n 3, 1) := okd_at mL_law_15 11 rfl
theorem dL_law_1270 : decode cL_law 1270 = .ok (.iconst 3, 1) := okd_at mL_law_15 12 rfl
theorem dL_law_1271 : decode cL_law 1271 = .ok (.iadd, 1) := okd_at mL_law_15 13 rfl
theorem dL_law_1272 : decode cL_law 1272 = .ok (.iaload, 1) := okd_at mL_law_15 14 rfl
theorem dL_law_1273 : decode cL_law 1273 = .ok (.aload_n 0, 1) := okd_at mL_law_15 15 rfl
theorem dL_law_1274 : decode cL_law 1274 = .ok (.iload_n 3, 1) := okd_at mL_law_15 16 rfl
theorem dL_law_1275 : decode cL_law 1275 = .ok (.iconst 4, 1) := okd_at mL_law_15 17 rfl
theorem dL_law_1276 : decode cL_law 1276 = .ok (.iadd, 1) := okd_at mL_law_15 18 rfl
theorem dL_law_1277 : decode cL_law 1277 = .ok (.iaload, 1) := okd_at mL_law_15 19 rfl
theorem dL_law_1278 : decode cL_law 1278 = .ok (.invokevirtual 152, 3) := okd_at mL_law_15 20 rfl
theorem dL_law_1281 : decode cL_law 1281 = .ok (.if_icmp .eq 38, 3) := okd_at mL_law_15 21 rfl
theorem dL_law_1284 : decode cL_law 1284 = .ok (.iconst 0, 1) := okd_at mL_law_15 22 rfl
theorem dL_law_1285 : decode cL_law 1285 = .ok (.ireturn, 1) := okd_at mL_law_15 23 rfl
theorem dL_law_1286 : decode cL_law 1286 = .ok (.aload_n 1, 1) := okd_at mL_law_15 24 rfl
theorem dL_law_1287 : decode cL_law 1287 = .ok (.aload_n 0, 1) := okd_at mL_law_15 25 rfl
theorem dL_law_1288 : decode cL_law 1288 = .ok (.iload_n 3, 1) := okd_at mL_law_15 26 rfl
theorem dL_law_1289 : decode cL_law 1289 = .ok (.iconst 1, 1) := okd_at mL_law_15 27 rfl
theorem dL_law_1290 : decode cL_law 1290 = .ok (.iadd, 1) := okd_at mL_law_15 28 rfl
theorem dL_law_1291 : decode cL_law 1291 = .ok (.iaload, 1) := okd_at mL_law_15 29 rfl
theorem dL_law_1292 : decode cL_law 1292 = .ok (.aload_n 0, 1) := okd_at mL_law_15 30 rfl
theorem dL_law_1293 : decode cL_law 1293 = .ok (.iload_n 3, 1) := okd_at mL_law_15 31 rfl
theorem dL_law_1294 : decode cL_law 1294 = .ok (.iconst 2, 1) := okd_at mL_law_15 32 rfl
theorem dL_law_1295 : decode cL_law 1295 = .ok (.iadd, 1) := okd_at mL_law_15 33 rfl
theorem dL_law_1296 : decode cL_law 1296 = .ok (.iaload, 1) := okd_at mL_law_15 34 rfl
theorem dL_law_1297 : decode cL_law 1297 = .ok (.invokevirtual 153, 3) := okd_at mL_law_15 35 rfl
theorem dL_law_1300 : decode cL_law 1300 = .ok (.aload_n 2, 1) := okd_at mL_law_15 36 rfl
theorem dL_law_1301 : decode cL_law 1301 = .ok (.aload_n 0, 1) := okd_at mL_law_15 37 rfl
theorem dL_law_1302 : decode cL_law 1302 = .ok (.iload_n 3, 1) := okd_at mL_law_15 38 rfl
theorem dL_law_1303 : decode cL_law 1303 = .ok (.iconst 1, 1) := okd_at mL_law_15 39 rfl
theorem dL_law_1304 : decode cL_law 1304 = .ok (.iadd, 1) := okd_at mL_law_15 40 rfl
theorem dL_law_1305 : decode cL_law 1305 = .ok (.iaload, 1) := okd_at mL_law_15 41 rfl
theorem dL_law_1306 : decode cL_law 1306 = .ok (.aload_n 0, 1) := okd_at mL_law_15 42 rfl
theorem dL_law_1307 : decode cL_law 1307 = .ok (.iload_n 3, 1) := okd_at mL_law_15 43 rfl
theorem dL_law_1308 : decode cL_law 1308 = .ok (.iconst 2, 1) := okd_at mL_law_15 44 rfl
theorem dL_law_1309 : decode cL_law 1309 = .ok (.iadd, 1) := okd_at mL_law_15 45 rfl
theorem dL_law_1310 : decode cL_law 1310 = .ok (.iaload, 1) := okd_at mL_law_15 46 rfl
theorem dL_law_1311 : decode cL_law 1311 = .ok (.invokevirtual 156, 3) := okd_at mL_law_15 47 rfl
theorem dL_law_1314 : decode cL_law 1314 = .ok (.if_icmp .eq 5, 3) := okd_at mL_law_15 48 rfl
theorem dL_law_1317 : decode cL_law 1317 = .ok (.iconst 0, 1) := okd_at mL_law_15 49 rfl
theorem dL_law_1318 : decode cL_law 1318 = .ok (.ireturn, 1) := okd_at mL_law_15 50 rfl
theorem dL_law_1319 : decode cL_law 1319 = .ok (.iinc 3 7, 3) := okd_at mL_law_15 51 rfl
theorem dL_law_1322 : decode cL_law 1322 = .ok (.goto (-1304), 3) := okd_at mL_law_15 52 rfl
theorem dL_law_1325 : decode cL_law 1325 = .ok (.iconst 1, 1) := okd_at mL_law_15 53 rfl
theorem dL_law_1326 : decode cL_law 1326 = .ok (.ireturn, 1) := okd_at mL_law_15 54 rfl
def lmX12_init_0 : List (Nat × Instr × Nat) := [(0, .aload_n 0, 1), (1, .invokespecial 1, 3), (4, .aload_n 0, 1), (5, .bipush 24, 2), (7, .newarray .int, 2), (9, .putfield 7, 3), (12, .aload_n 0, 1), (13, .bipush 6, 2), (15, .newarray .int, 2), (17, .putfield 13, 3), (20, .aload_n 0, 1), (21, .bipush 6, 2), (23, .newarray .int, 2), (25, .putfield 16, 3), (28, .aload_n 0, 1), (29, .bipush 12, 2), (31, .newarray .int, 2), (33, .putfield 19, 3), (36, .aload_n 0, 1), (37, .sipush 160, 3), (40, .newarray .int, 2), (42, .putfield 22, 3), (45, .aload_n 0, 1), (46, .sipush 1200, 3), (49, .newarray .int, 2), (51, .putfield 25, 3), (54, .aload_n 0, 1), (55, .bipush 24, 2), (57, .newarray .int, 2), (59, .putfield 28, 3), (62, .aload_n 0, 1), (63, .bipush 36, 2), (65, .newarray .int, 2), (67, .putfield 31, 3), (70, .aload_n 0, 1), (71, .iconst 3, 1), (72, .newarray .int, 2), (74, .putfield 34, 3), (77, .aload_n 0, 1), (78, .iconst 4, 1), (79, .newarray .int, 2), (97, .putfield 37, 3), (100, .aload_n 0, 1), (101, .iconst 4, 1), (102, .newarray .int, 2), (104, .putfield 40, 3), (107, .aload_n 0, 1), (108, .sipush 160, 3), (111, .newarray .int, 2), (113, .putfield 43, 3), (116, .aload_n 0, 1), (117, .bipush 43, 2), (119, .newarray .int, 2), (373, .putfield 46, 3), (376, .aload_n 0, 1), (377, .bipush 96, 2), (379, .newarray .int, 2), (951, .putfield 49, 3), (954, .aload_n 0, 1), (955, .sipush 200, 3)]
theorem mX12_init_0 : okd cX12_init lmX12_init_0 = true := by decide +kernel
theorem dX12_init_0 : decode cX12_init 0 = .ok (.aload_n 0, 1) := okd_at mX12_init_0 0 rfl
theorem dX12_init_1 : decode cX12_init 1 = .ok (.invokespecial 1, 3) := okd_at mX12_init_0 1 rfl
theorem dX12_init_4 : decode cX12_init 4 = .ok (.aload_n 0, 1) := okd_at mX12_init_0 2 rfl
theorem dX12_init_5 : decode cX12_init 5 = .ok (.bipush 24, 2) := okd_at mX12_init_0 3 rfl
theorem dX12_init_7 : decode cX12_init 7 = .ok (.newarray .int, 2) := okd_at mX12_init_0 4 rfl
theorem dX12_init_9 : decode cX12_init 9 = .ok (.putfield 7, 3) := okd_at mX12_init_0 5 rfl
theorem dX12_init_12 : decode cX12_init 12 = .ok (.aload_n 0, 1) := okd_at mX12_init_0 6 rfl
theorem dX12_init_13 : decode cX12_init 13 = .ok (.bipush 6, 2) := okd_at mX12_init_0 7 rfl
theorem dX12_init_15 : decode cX12_init 15 = .ok (.newarray .int, 2) := okd_at mX12_init_0 8 rfl
theorem dX12_init_17 : decode cX12_init 17 = .ok (.putfield 13, 3) := okd_at mX12_init_0 9 rfl
theorem dX12_init_20 : decode cX12_init 20 = .ok (.aload_n 0, 1) := okd_at mX12_init_0 10 rfl
theorem dX12_init_21 : decode cX12_init 21 = .ok (.bipush 6, 2) := okd_at mX12_init_0 11 rfl
theorem dX12_init_23 : decode cX12_init 23 = .ok (.newarray .int, 2) := okd_at mX12_init_0 12 rfl
theorem dX12_init_25 : decode cX12_init 25 = .ok (.putfield 16, 3) := okd_at mX12_init_0 13 rfl
theorem dX12_init_28 : decode cX12_init 28 = .ok (.aload_n 0, 1) := okd_at mX12_init_0 14 rfl
theorem dX12_init_29 : decode cX12_init 29 = .ok (.bipush 12, 2) := okd_at mX12_init_0 15 rfl
theorem dX12_init_31 : decode cX12_init 31 = .ok (.newarray .int, 2) := okd_at mX12_init_0 16 rfl
theorem dX12_init_33 : decode cX12_init 33 = .ok (.putfield 19, 3) := okd_at mX12_init_0 17 rfl
theorem dX12_init_36 : decode cX12_init 36 = .ok (.aload_n 0, 1) := okd_at mX12_init_0 18 rfl
theorem dX12_init_37 : decode cX12_init 37 = .ok (.sipush 160, 3) := okd_at mX12_init_0 19 rfl
theorem dX12_init_40 : decode cX12_init 40 = .ok (.newarray .int, 2) := okd_at mX12_init_0 20 rfl
theorem dX12_init_42 : decode cX12_init 42 = .ok (.putfield 22, 3) := okd_at mX12_init_0 21 rfl
theorem dX12_init_45 : decode cX12_init 45 = .ok (.aload_n 0, 1) := okd_at mX12_init_0 22 rfl
theorem dX12_init_46 : decode cX12_init 46 = .ok (.sipush 1200, 3) := okd_at mX12_init_0 23 rfl
theorem dX12_init_49 : decode cX12_init 49 = .ok (.newarray .int, 2) := okd_at mX12_init_0 24 rfl
theorem dX12_init_51 : decode cX12_init 51 = .ok (.putfield 25, 3) := okd_at mX12_init_0 25 rfl
theorem dX12_init_54 : decode cX12_init 54 = .ok (.aload_n 0, 1) := okd_at mX12_init_0 26 rfl
theorem dX12_init_55 : decode cX12_init 55 = .ok (.bipush 24, 2) := okd_at mX12_init_0 27 rfl
theorem dX12_init_57 : decode cX12_init 57 = .ok (.newarray .int, 2) := okd_at mX12_init_0 28 rfl
theorem dX12_init_59 : decode cX12_init 59 = .ok (.putfield 28, 3) := okd_at mX12_init_0 29 rfl
theorem dX12_init_62 : decode cX12_init 62 = .ok (.aload_n 0, 1) := okd_at mX12_init_0 30 rfl
theorem dX12_init_63 : decode cX12_init 63 = .ok (.bipush 36, 2) := okd_at mX12_init_0 31 rfl
theorem dX12_init_65 : decode cX12_init 65 = .ok (.newarray .int, 2) := okd_at mX12_init_0 32 rfl
theorem dX12_init_67 : decode cX12_init 67 = .ok (.putfield 31, 3) := okd_at mX12_init_0 33 rfl
theorem dX12_init_70 : decode cX12_init 70 = .ok (.aload_n 0, 1) := okd_at mX12_init_0 34 rfl
theorem dX12_init_71 : decode cX12_init 71 = .ok (.iconst 3, 1) := okd_at mX12_init_0 35 rfl
theorem dX12_init_72 : decode cX12_init 72 = .ok (.newarray .int, 2) := okd_at mX12_init_0 36 rfl
theorem dX12_init_74 : decode cX12_init 74 = .ok (.putfield 34, 3) := okd_at mX12_init_0 37 rfl
theorem dX12_init_77 : decode cX12_init 77 = .ok (.aload_n 0, 1) := okd_at mX12_init_0 38 rfl
theorem dX12_init_78 : decode cX12_init 78 = .ok (.iconst 4, 1) := okd_at mX12_init_0 39 rfl
theorem dX12_init_79 : decode cX12_init 79 = .ok (.newarray .int, 2) := okd_at mX12_init_0 40 rfl
theorem dX12_init_97 : decode cX12_init 97 = .ok (.putfield 37, 3) := okd_at mX12_init_0 41 rfl
theorem dX12_init_100 : decode cX12_init 100 = .ok (.aload_n 0, 1) := okd_at mX12_init_0 42 rfl
theorem dX12_init_101 : decode cX12_init 101 = .ok (.iconst 4, 1) := okd_at mX12_init_0 43 rfl
theorem dX12_init_102 : decode cX12_init 102 = .ok (.newarray .int, 2) := okd_at mX12_init_0 44 rfl
theorem dX12_init_104 : decode cX12_init 104 = .ok (.putfield 40, 3) := okd_at mX12_init_0 45 rfl
theorem dX12_init_107 : decode cX12_init 107 = .ok (.aload_n 0, 1) := okd_at mX12_init_0 46 rfl
theorem dX12_init_108 : decode cX12_init 108 = .ok (.sipush 160, 3) := okd_at mX12_init_0 47 rfl
theorem dX12_init_111 : decode cX12_init 111 = .ok (.newarray .int, 2) := okd_at mX12_init_0 48 rfl
theorem dX12_init_113 : decode cX12_init 113 = .ok (.putfield 43, 3) := okd_at mX12_init_0 49 rfl
theorem dX12_init_116 : decode cX12_init 116 = .ok (.aload_n 0, 1) := okd_at mX12_init_0 50 rfl
theorem dX12_init_117 : decode cX12_init 117 = .ok (.bipush 43, 2) := okd_at mX12_init_0 51 rfl
theorem dX12_init_119 : decode cX12_init 119 = .ok (.newarray .int, 2) := okd_at mX12_init_0 52 rfl
theorem dX12_init_373 : decode cX12_init 373 = .ok (.putfield 46, 3) := okd_at mX12_init_0 53 rfl
theorem dX12_init_376 : decode cX12_init 376 = .ok (.aload_n 0, 1) := okd_at mX12_init_0 54 rfl
theorem dX12_init_377 : decode cX12_init 377 = .ok (.bipush 96, 2) := okd_at mX12_init_0 55 rfl
theorem dX12_init_379 : decode cX12_init 379 = .ok (.newarray .int, 2) := okd_at mX12_init_0 56 rfl
theorem dX12_init_951 : decode cX12_init 951 = .ok (.putfield 49, 3) := okd_at mX12_init_0 57 rfl
theorem dX12_init_954 : decode cX12_init 954 = .ok (.aload_n 0, 1) := okd_at mX12_init_0 58 rfl
theorem dX12_init_955 : decode cX12_init 955 = .ok (.sipush 200, 3) := okd_at mX12_init_0 59 rfl
def lmX12_init_1 : List (Nat × Instr × Nat) := [(958, .newarray .int, 2), (960, .putfield 52, 3), (963, .aload_n 0, 1), (964, .sipush 200, 3), (967, .newarray .int, 2), (969, .putfield 55, 3), (972, .aload_n 0, 1), (973, .bipush 6, 2), (975, .newarray .int, 2), (977, .putfield 58, 3), (980, .aload_n 0, 1), (981, .bipush 8, 2), (983, .newarray .int, 2), (985, .putfield 61, 3), (988, .aload_n 0, 1), (989, .bipush 8, 2), (991, .newarray .int, 2), (993, .putfield 64, 3), (996, .aload_n 0, 1), (997, .bipush 8, 2), (999, .newarray .int, 2), (1001, .putfield 67, 3), (1004, .aload_n 0, 1), (1005, .bipush 6, 2), (1007, .newarray .int, 2), (1009, .putfield 70, 3), (1012, .aload_n 0, 1), (1013, .bipush 6, 2), (1015, .newarray .int, 2), (1041, .putfield 73, 3), (1044, .aload_n 0, 1), (1045, .iconst (-1), 1), (1046, .putfield 76, 3), (1049, .aload_n 0, 1), (1050, .bipush 8, 2), (1052, .newarray .int, 2), (1054, .putfield 80, 3), (1057, .iconst 0, 1), (1058, .istore_n 1, 1), (1059, .iload_n 1, 1), (1060, .bipush 43, 2), (1062, .if_icmp .ge 21, 3), (1065, .aload_n 0, 1), (1066, .getfield 22, 3), (1069, .iload_n 1, 1), (1070, .aload_n 0, 1), (1071, .getfield 46, 3), (1074, .iload_n 1, 1), (1075, .iaload, 1), (1076, .iastore, 1), (1077, .iinc 1 1, 3), (1080, .goto (-21), 3), (1083, .aload_n 0, 1), (1084, .bipush 43, 2), (1086, .putfield 83, 3), (1089, .aload_n 0, 1), (1090, .invokevirtual 86, 3), (1093, .pop, 1), (1094, .return_, 1)]
theorem mX12_init_1 : okd cX12_init lmX12_init_1 = true := by decide +kernel
theorem dX12_init_958 : decode cX12_init 958 = .ok (.newarray .int, 2) := okd_at mX12_init_1 0 rfl
theorem dX12_init_960 : decode cX12_init 960 = .ok (.putfield 52, 3) := okd_at mX12_init_1 1 rfl
theorem dX12_init_963 : decode cX12_init 963 = .ok (.aload_n 0, 1) := okd_at mX12_init_1 2 rfl
theorem dX12_init_964 : decode cX12_init 964 = .ok (.sipush 200, 3) := okd_at mX12_init_1 3 rfl
theorem dX12_init_967 : decode cX12_init 967 = .ok (.newarray .int, 2) := okd_at mX12_init_1 4 rfl
theorem dX12_init_969 : decode cX12_init 969 = .ok (.putfield 55, 3) := okd_at mX12_init_1 5 rfl
theorem dX12_init_972 : decode cX12_init 972 = .ok (.aload_n 0, 1) := okd_at mX12_init_1 6 rfl
theorem dX12_init_973 : decode cX12_init 973 = .ok (.bipush 6, 2) := okd_at mX12_init_1 7 rfl
theorem dX12_init_975 : decode cX12_init 975 = .ok (.newarray .int, 2) := okd_at mX12_init_1 8 rfl
theorem dX12_init_977 : decode cX12_init 977 = .ok (.putfield 58, 3) := okd_at mX12_init_1 9 rfl
theorem dX12_init_980 : decode cX12_init 980 = .ok (.aload_n 0, 1) := okd_at mX12_init_1 10 rfl
theorem dX12_init_981 : decode cX12_init 981 = .ok (.bipush 8, 2) := okd_at mX12_init_1 11 rfl
theorem dX12_init_983 : decode cX12_init 983 = .ok (.newarray .int, 2) := okd_at mX12_init_1 12 rfl
theorem dX12_init_985 : decode cX12_init 985 = .ok (.putfield 61, 3) := okd_at mX12_init_1 13 rfl
theorem dX12_init_988 : decode cX12_init 988 = .ok (.aload_n 0, 1) := okd_at mX12_init_1 14 rfl
theorem dX12_init_989 : decode cX12_init 989 = .ok (.bipush 8, 2) := okd_at mX12_init_1 15 rfl
theorem dX12_init_991 : decode cX12_init 991 = .ok (.newarray .int, 2) := okd_at mX12_init_1 16 rfl
theorem dX12_init_993 : decode cX12_init 993 = .ok (.putfield 64, 3) := okd_at mX12_init_1 17 rfl
theorem dX12_init_996 : decode cX12_init 996 = .ok (.aload_n 0, 1) := okd_at mX12_init_1 18 rfl
theorem dX12_init_997 : decode cX12_init 997 = .ok (.bipush 8, 2) := okd_at mX12_init_1 19 rfl
theorem dX12_init_999 : decode cX12_init 999 = .ok (.newarray .int, 2) := okd_at mX12_init_1 20 rfl
theorem dX12_init_1001 : decode cX12_init 1001 = .ok (.putfield 67, 3) := okd_at mX12_init_1 21 rfl
theorem dX12_init_1004 : decode cX12_init 1004 = .ok (.aload_n 0, 1) := okd_at mX12_init_1 22 rfl
theorem dX12_init_1005 : decode cX12_init 1005 = .ok (.bipush 6, 2) := okd_at mX12_init_1 23 rfl
theorem dX12_init_1007 : decode cX12_init 1007 = .ok (.newarray .int, 2) := okd_at mX12_init_1 24 rfl
theorem dX12_init_1009 : decode cX12_init 1009 = .ok (.putfield 70, 3) := okd_at mX12_init_1 25 rfl
theorem dX12_init_1012 : decode cX12_init 1012 = .ok (.aload_n 0, 1) := okd_at mX12_init_1 26 rfl
theorem dX12_init_1013 : decode cX12_init 1013 = .ok (.bipush 6, 2) := okd_at mX12_init_1 27 rfl
theorem dX12_init_1015 : decode cX12_init 1015 = .ok (.newarray .int, 2) := okd_at mX12_init_1 28 rfl
theorem dX12_init_1041 : decode cX12_init 1041 = .ok (.putfield 73, 3) := okd_at mX12_init_1 29 rfl
theorem dX12_init_1044 : decode cX12_init 1044 = .ok (.aload_n 0, 1) := okd_at mX12_init_1 30 rfl
theorem dX12_init_1045 : decode cX12_init 1045 = .ok (.iconst (-1), 1) := okd_at mX12_init_1 31 rfl
theorem dX12_init_1046 : decode cX12_init 1046 = .ok (.putfield 76, 3) := okd_at mX12_init_1 32 rfl
theorem dX12_init_1049 : decode cX12_init 1049 = .ok (.aload_n 0, 1) := okd_at mX12_init_1 33 rfl
theorem dX12_init_1050 : decode cX12_init 1050 = .ok (.bipush 8, 2) := okd_at mX12_init_1 34 rfl
theorem dX12_init_1052 : decode cX12_init 1052 = .ok (.newarray .int, 2) := okd_at mX12_init_1 35 rfl
theorem dX12_init_1054 : decode cX12_init 1054 = .ok (.putfield 80, 3) := okd_at mX12_init_1 36 rfl
theorem dX12_init_1057 : decode cX12_init 1057 = .ok (.iconst 0, 1) := okd_at mX12_init_1 37 rfl
theorem dX12_init_1058 : decode cX12_init 1058 = .ok (.istore_n 1, 1) := okd_at mX12_init_1 38 rfl
theorem dX12_init_1059 : decode cX12_init 1059 = .ok (.iload_n 1, 1) := okd_at mX12_init_1 39 rfl
theorem dX12_init_1060 : decode cX12_init 1060 = .ok (.bipush 43, 2) := okd_at mX12_init_1 40 rfl
theorem dX12_init_1062 : decode cX12_init 1062 = .ok (.if_icmp .ge 21, 3) := okd_at mX12_init_1 41 rfl
theorem dX12_init_1065 : decode cX12_init 1065 = .ok (.aload_n 0, 1) := okd_at mX12_init_1 42 rfl
theorem dX12_init_1066 : decode cX12_init 1066 = .ok (.getfield 22, 3) := okd_at mX12_init_1 43 rfl
theorem dX12_init_1069 : decode cX12_init 1069 = .ok (.iload_n 1, 1) := okd_at mX12_init_1 44 rfl
theorem dX12_init_1070 : decode cX12_init 1070 = .ok (.aload_n 0, 1) := okd_at mX12_init_1 45 rfl
theorem dX12_init_1071 : decode cX12_init 1071 = .ok (.getfield 46, 3) := okd_at mX12_init_1 46 rfl
theorem dX12_init_1074 : decode cX12_init 1074 = .ok (.iload_n 1, 1) := okd_at mX12_init_1 47 rfl
theorem dX12_init_1075 : decode cX12_init 1075 = .ok (.iaload, 1) := okd_at mX12_init_1 48 rfl
theorem dX12_init_1076 : decode cX12_init 1076 = .ok (.iastore, 1) := okd_at mX12_init_1 49 rfl
theorem dX12_init_1077 : decode cX12_init 1077 = .ok (.iinc 1 1, 3) := okd_at mX12_init_1 50 rfl
theorem dX12_init_1080 : decode cX12_init 1080 = .ok (.goto (-21), 3) := okd_at mX12_init_1 51 rfl
theorem dX12_init_1083 : decode cX12_init 1083 = .ok (.aload_n 0, 1) := okd_at mX12_init_1 52 rfl
theorem dX12_init_1084 : decode cX12_init 1084 = .ok (.bipush 43, 2) := okd_at mX12_init_1 53 rfl
theorem dX12_init_1086 : decode cX12_init 1086 = .ok (.putfield 83, 3) := okd_at mX12_init_1 54 rfl
theorem dX12_init_1089 : decode cX12_init 1089 = .ok (.aload_n 0, 1) := okd_at mX12_init_1 55 rfl
theorem dX12_init_1090 : decode cX12_init 1090 = .ok (.invokevirtual 86, 3) := okd_at mX12_init_1 56 rfl
theorem dX12_init_1093 : decode cX12_init 1093 = .ok (.pop, 1) := okd_at mX12_init_1 57 rfl
theorem dX12_init_1094 : decode cX12_init 1094 = .ok (.return_, 1) := okd_at mX12_init_1 58 rfl
