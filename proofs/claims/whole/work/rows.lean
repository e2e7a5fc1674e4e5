section
-- ===== PART A: goes FIRST, ahead of the names: the tables' words, and 'selects' of the private methods out of them =====
/-- a private method of a class that the tables say can be made, by its rows of tables_1 -/
def lw_okq (q : MethodName × Nat) : Prop := (q.1.cls ≠ "java/lang/invoke/MethodHandle" ∧ q.1.cls ≠ "java/lang/invoke/VarHandle") ∧ Cond.instantiable q.1.cls q.2 ∈ tables_1 ∧ Cond.privateMethod q.1 ∈ tables_1 ∧ Cond.instanceMethod q.1 ∈ tables_1
theorem lw_p0 : lw_okq (⟨"EveryoneWins", "readTape", "()I"⟩, 17) := ⟨⟨by decide +kernel, by decide +kernel⟩, List.mem_of_getElem? (i := 22) (by decide +kernel), List.mem_of_getElem? (i := 344) (by decide +kernel), List.mem_of_getElem? (i := 345) (by decide +kernel)⟩
theorem lw_p1 : lw_okq (⟨"EveryoneWins$Texts", "textAt", "(I)LEveryoneWins$Text;"⟩, 3) := ⟨⟨by decide +kernel, by decide +kernel⟩, List.mem_of_getElem? (i := 91) (by decide +kernel), List.mem_of_getElem? (i := 352) (by decide +kernel), List.mem_of_getElem? (i := 353) (by decide +kernel)⟩
theorem lw_p2 : lw_okq (⟨"EveryoneWins$Tape", "endOf", "(I)I"⟩, 5) := ⟨⟨by decide +kernel, by decide +kernel⟩, List.mem_of_getElem? (i := 132) (by decide +kernel), List.mem_of_getElem? (i := 374) (by decide +kernel), List.mem_of_getElem? (i := 375) (by decide +kernel)⟩
theorem lw_p3 : lw_okq (⟨"EveryoneWins$Tape", "tokenOf", "(II)I"⟩, 5) := ⟨⟨by decide +kernel, by decide +kernel⟩, List.mem_of_getElem? (i := 132) (by decide +kernel), List.mem_of_getElem? (i := 384) (by decide +kernel), List.mem_of_getElem? (i := 385) (by decide +kernel)⟩
theorem lw_p4 : lw_okq (⟨"EveryoneWins$Tape", "word", "(II)I"⟩, 5) := ⟨⟨by decide +kernel, by decide +kernel⟩, List.mem_of_getElem? (i := 132) (by decide +kernel), List.mem_of_getElem? (i := 388) (by decide +kernel), List.mem_of_getElem? (i := 389) (by decide +kernel)⟩
theorem lw_p5 : lw_okq (⟨"EveryoneWins$Tape", "isWord", "(Ljava/lang/String;II)Z"⟩, 5) := ⟨⟨by decide +kernel, by decide +kernel⟩, List.mem_of_getElem? (i := 132) (by decide +kernel), List.mem_of_getElem? (i := 393) (by decide +kernel), List.mem_of_getElem? (i := 394) (by decide +kernel)⟩
theorem lw_p6 : lw_okq (⟨"EveryoneWins$Tape", "number", "(II)I"⟩, 5) := ⟨⟨by decide +kernel, by decide +kernel⟩, List.mem_of_getElem? (i := 132) (by decide +kernel), List.mem_of_getElem? (i := 410) (by decide +kernel), List.mem_of_getElem? (i := 411) (by decide +kernel)⟩
theorem lw_p7 : lw_okq (⟨"EveryoneWins$Tape", "keep", "(II)V"⟩, 5) := ⟨⟨by decide +kernel, by decide +kernel⟩, List.mem_of_getElem? (i := 132) (by decide +kernel), List.mem_of_getElem? (i := 417) (by decide +kernel), List.mem_of_getElem? (i := 418) (by decide +kernel)⟩
theorem lw_p8 : lw_okq (⟨"EveryoneWins$Reader", "readPart", "(LEveryoneWins$Text;II)V"⟩, 5) := ⟨⟨by decide +kernel, by decide +kernel⟩, List.mem_of_getElem? (i := 155) (by decide +kernel), List.mem_of_getElem? (i := 428) (by decide +kernel), List.mem_of_getElem? (i := 429) (by decide +kernel)⟩
theorem lw_p9 : lw_okq (⟨"EveryoneWins$Reader", "expect", "(I)V"⟩, 5) := ⟨⟨by decide +kernel, by decide +kernel⟩, List.mem_of_getElem? (i := 155) (by decide +kernel), List.mem_of_getElem? (i := 432) (by decide +kernel), List.mem_of_getElem? (i := 433) (by decide +kernel)⟩
theorem lw_p10 : lw_okq (⟨"EveryoneWins$Reader", "step", "()V"⟩, 5) := ⟨⟨by decide +kernel, by decide +kernel⟩, List.mem_of_getElem? (i := 155) (by decide +kernel), List.mem_of_getElem? (i := 436) (by decide +kernel), List.mem_of_getElem? (i := 437) (by decide +kernel)⟩
theorem lw_p11 : lw_okq (⟨"EveryoneWins$Reader", "fail", "()V"⟩, 5) := ⟨⟨by decide +kernel, by decide +kernel⟩, List.mem_of_getElem? (i := 155) (by decide +kernel), List.mem_of_getElem? (i := 440) (by decide +kernel), List.mem_of_getElem? (i := 441) (by decide +kernel)⟩
theorem lw_p12 : lw_okq (⟨"EveryoneWins$Reader", "readE", "(LEveryoneWins$Text;)V"⟩, 5) := ⟨⟨by decide +kernel, by decide +kernel⟩, List.mem_of_getElem? (i := 155) (by decide +kernel), List.mem_of_getElem? (i := 448) (by decide +kernel), List.mem_of_getElem? (i := 449) (by decide +kernel)⟩
theorem lw_p13 : lw_okq (⟨"EveryoneWins$Reader", "readAnd", "(LEveryoneWins$Text;)V"⟩, 5) := ⟨⟨by decide +kernel, by decide +kernel⟩, List.mem_of_getElem? (i := 155) (by decide +kernel), List.mem_of_getElem? (i := 452) (by decide +kernel), List.mem_of_getElem? (i := 453) (by decide +kernel)⟩
theorem lw_p14 : lw_okq (⟨"EveryoneWins$Reader", "readNot", "(LEveryoneWins$Text;)V"⟩, 5) := ⟨⟨by decide +kernel, by decide +kernel⟩, List.mem_of_getElem? (i := 155) (by decide +kernel), List.mem_of_getElem? (i := 456) (by decide +kernel), List.mem_of_getElem? (i := 457) (by decide +kernel)⟩
theorem lw_p15 : lw_okq (⟨"EveryoneWins$Reader", "readComparison", "(LEveryoneWins$Text;)V"⟩, 5) := ⟨⟨by decide +kernel, by decide +kernel⟩, List.mem_of_getElem? (i := 155) (by decide +kernel), List.mem_of_getElem? (i := 460) (by decide +kernel), List.mem_of_getElem? (i := 461) (by decide +kernel)⟩
def lw_privs_1 : List (MethodName × Nat) := [(⟨"EveryoneWins", "readTape", "()I"⟩, 17), (⟨"EveryoneWins$Texts", "textAt", "(I)LEveryoneWins$Text;"⟩, 3), (⟨"EveryoneWins$Tape", "endOf", "(I)I"⟩, 5), (⟨"EveryoneWins$Tape", "tokenOf", "(II)I"⟩, 5), (⟨"EveryoneWins$Tape", "word", "(II)I"⟩, 5), (⟨"EveryoneWins$Tape", "isWord", "(Ljava/lang/String;II)Z"⟩, 5), (⟨"EveryoneWins$Tape", "number", "(II)I"⟩, 5), (⟨"EveryoneWins$Tape", "keep", "(II)V"⟩, 5), (⟨"EveryoneWins$Reader", "readPart", "(LEveryoneWins$Text;II)V"⟩, 5), (⟨"EveryoneWins$Reader", "expect", "(I)V"⟩, 5), (⟨"EveryoneWins$Reader", "step", "()V"⟩, 5), (⟨"EveryoneWins$Reader", "fail", "()V"⟩, 5), (⟨"EveryoneWins$Reader", "readE", "(LEveryoneWins$Text;)V"⟩, 5), (⟨"EveryoneWins$Reader", "readAnd", "(LEveryoneWins$Text;)V"⟩, 5), (⟨"EveryoneWins$Reader", "readNot", "(LEveryoneWins$Text;)V"⟩, 5), (⟨"EveryoneWins$Reader", "readComparison", "(LEveryoneWins$Text;)V"⟩, 5)]
theorem lw_r1 : ∀ q ∈ lw_privs_1, lw_okq q := List.forall_mem_cons.mpr ⟨lw_p0, List.forall_mem_cons.mpr ⟨lw_p1, List.forall_mem_cons.mpr ⟨lw_p2, List.forall_mem_cons.mpr ⟨lw_p3, List.forall_mem_cons.mpr ⟨lw_p4, List.forall_mem_cons.mpr ⟨lw_p5, List.forall_mem_cons.mpr ⟨lw_p6, List.forall_mem_cons.mpr ⟨lw_p7, List.forall_mem_cons.mpr ⟨lw_p8, List.forall_mem_cons.mpr ⟨lw_p9, List.forall_mem_cons.mpr ⟨lw_p10, List.forall_mem_cons.mpr ⟨lw_p11, List.forall_mem_cons.mpr ⟨lw_p12, List.forall_mem_cons.mpr ⟨lw_p13, List.forall_mem_cons.mpr ⟨lw_p14, List.forall_mem_cons.mpr ⟨lw_p15, fun _ h => absurd h List.not_mem_nil⟩⟩⟩⟩⟩⟩⟩⟩⟩⟩⟩⟩⟩⟩⟩⟩
theorem lw_p16 : lw_okq (⟨"EveryoneWins$Reader", "readSum", "(LEveryoneWins$Text;)V"⟩, 5) := ⟨⟨by decide +kernel, by decide +kernel⟩, List.mem_of_getElem? (i := 155) (by decide +kernel), List.mem_of_getElem? (i := 464) (by decide +kernel), List.mem_of_getElem? (i := 465) (by decide +kernel)⟩
theorem lw_p17 : lw_okq (⟨"EveryoneWins$Reader", "readTerm", "(LEveryoneWins$Text;)V"⟩, 5) := ⟨⟨by decide +kernel, by decide +kernel⟩, List.mem_of_getElem? (i := 155) (by decide +kernel), List.mem_of_getElem? (i := 468) (by decide +kernel), List.mem_of_getElem? (i := 469) (by decide +kernel)⟩
theorem lw_p18 : lw_okq (⟨"EveryoneWins$Reader", "readOne", "(LEveryoneWins$Text;)V"⟩, 5) := ⟨⟨by decide +kernel, by decide +kernel⟩, List.mem_of_getElem? (i := 155) (by decide +kernel), List.mem_of_getElem? (i := 472) (by decide +kernel), List.mem_of_getElem? (i := 473) (by decide +kernel)⟩
theorem lw_p19 : lw_okq (⟨"EveryoneWins$Reader", "readNegated", "(LEveryoneWins$Text;)V"⟩, 5) := ⟨⟨by decide +kernel, by decide +kernel⟩, List.mem_of_getElem? (i := 155) (by decide +kernel), List.mem_of_getElem? (i := 485) (by decide +kernel), List.mem_of_getElem? (i := 486) (by decide +kernel)⟩
theorem lw_p20 : lw_okq (⟨"EveryoneWins$Reader", "opens", "()Z"⟩, 5) := ⟨⟨by decide +kernel, by decide +kernel⟩, List.mem_of_getElem? (i := 155) (by decide +kernel), List.mem_of_getElem? (i := 489) (by decide +kernel), List.mem_of_getElem? (i := 490) (by decide +kernel)⟩
theorem lw_p21 : lw_okq (⟨"EveryoneWins$Reader", "readInBrackets", "(LEveryoneWins$Text;)V"⟩, 5) := ⟨⟨by decide +kernel, by decide +kernel⟩, List.mem_of_getElem? (i := 155) (by decide +kernel), List.mem_of_getElem? (i := 493) (by decide +kernel), List.mem_of_getElem? (i := 494) (by decide +kernel)⟩
theorem lw_p22 : lw_okq (⟨"EveryoneWins", "isChild", "(I)Z"⟩, 17) := ⟨⟨by decide +kernel, by decide +kernel⟩, List.mem_of_getElem? (i := 22) (by decide +kernel), List.mem_of_getElem? (i := 579) (by decide +kernel), List.mem_of_getElem? (i := 580) (by decide +kernel)⟩
theorem lw_p23 : lw_okq (⟨"EveryoneWins", "isRace", "(I)Z"⟩, 17) := ⟨⟨by decide +kernel, by decide +kernel⟩, List.mem_of_getElem? (i := 22) (by decide +kernel), List.mem_of_getElem? (i := 615) (by decide +kernel), List.mem_of_getElem? (i := 616) (by decide +kernel)⟩
theorem lw_p24 : lw_okq (⟨"EveryoneWins$Text", "push", "(I)V"⟩, 5) := ⟨⟨by decide +kernel, by decide +kernel⟩, List.mem_of_getElem? (i := 98) (by decide +kernel), List.mem_of_getElem? (i := 645) (by decide +kernel), List.mem_of_getElem? (i := 646) (by decide +kernel)⟩
theorem lw_p25 : lw_okq (⟨"EveryoneWins$Text", "pop", "()I"⟩, 5) := ⟨⟨by decide +kernel, by decide +kernel⟩, List.mem_of_getElem? (i := 98) (by decide +kernel), List.mem_of_getElem? (i := 649) (by decide +kernel), List.mem_of_getElem? (i := 650) (by decide +kernel)⟩
theorem lw_p26 : lw_okq (⟨"EveryoneWins", "areChildren", "(I)Z"⟩, 17) := ⟨⟨by decide +kernel, by decide +kernel⟩, List.mem_of_getElem? (i := 22) (by decide +kernel), List.mem_of_getElem? (i := 666) (by decide +kernel), List.mem_of_getElem? (i := 667) (by decide +kernel)⟩
theorem lw_p27 : lw_okq (⟨"EveryoneWins$Day", "comesBehind", "(III)V"⟩, 12) := ⟨⟨by decide +kernel, by decide +kernel⟩, List.mem_of_getElem? (i := 177) (by decide +kernel), List.mem_of_getElem? (i := 717) (by decide +kernel), List.mem_of_getElem? (i := 718) (by decide +kernel)⟩
theorem lw_p28 : lw_okq (⟨"EveryoneWins", "changingRunners", "(II)I"⟩, 17) := ⟨⟨by decide +kernel, by decide +kernel⟩, List.mem_of_getElem? (i := 22) (by decide +kernel), List.mem_of_getElem? (i := 760) (by decide +kernel), List.mem_of_getElem? (i := 761) (by decide +kernel)⟩
theorem lw_p29 : lw_okq (⟨"EveryoneWins$Best", "take", "(ILEveryoneWins$Day;)V"⟩, 3) := ⟨⟨by decide +kernel, by decide +kernel⟩, List.mem_of_getElem? (i := 231) (by decide +kernel), List.mem_of_getElem? (i := 768) (by decide +kernel), List.mem_of_getElem? (i := 769) (by decide +kernel)⟩
theorem lw_p30 : lw_okq (⟨"EveryoneWins$Orders", "keepAhead", "(I)V"⟩, 5) := ⟨⟨by decide +kernel, by decide +kernel⟩, List.mem_of_getElem? (i := 247) (by decide +kernel), List.mem_of_getElem? (i := 799) (by decide +kernel), List.mem_of_getElem? (i := 800) (by decide +kernel)⟩
theorem lw_p31 : lw_okq (⟨"EveryoneWins$Orders", "runFrom", "(I)V"⟩, 5) := ⟨⟨by decide +kernel, by decide +kernel⟩, List.mem_of_getElem? (i := 247) (by decide +kernel), List.mem_of_getElem? (i := 807) (by decide +kernel), List.mem_of_getElem? (i := 808) (by decide +kernel)⟩
def lw_privs_2 : List (MethodName × Nat) := [(⟨"EveryoneWins$Reader", "readSum", "(LEveryoneWins$Text;)V"⟩, 5), (⟨"EveryoneWins$Reader", "readTerm", "(LEveryoneWins$Text;)V"⟩, 5), (⟨"EveryoneWins$Reader", "readOne", "(LEveryoneWins$Text;)V"⟩, 5), (⟨"EveryoneWins$Reader", "readNegated", "(LEveryoneWins$Text;)V"⟩, 5), (⟨"EveryoneWins$Reader", "opens", "()Z"⟩, 5), (⟨"EveryoneWins$Reader", "readInBrackets", "(LEveryoneWins$Text;)V"⟩, 5), (⟨"EveryoneWins", "isChild", "(I)Z"⟩, 17), (⟨"EveryoneWins", "isRace", "(I)Z"⟩, 17), (⟨"EveryoneWins$Text", "push", "(I)V"⟩, 5), (⟨"EveryoneWins$Text", "pop", "()I"⟩, 5), (⟨"EveryoneWins", "areChildren", "(I)Z"⟩, 17), (⟨"EveryoneWins$Day", "comesBehind", "(III)V"⟩, 12), (⟨"EveryoneWins", "changingRunners", "(II)I"⟩, 17), (⟨"EveryoneWins$Best", "take", "(ILEveryoneWins$Day;)V"⟩, 3), (⟨"EveryoneWins$Orders", "keepAhead", "(I)V"⟩, 5), (⟨"EveryoneWins$Orders", "runFrom", "(I)V"⟩, 5)]
theorem lw_r2 : ∀ q ∈ lw_privs_2, lw_okq q := List.forall_mem_cons.mpr ⟨lw_p16, List.forall_mem_cons.mpr ⟨lw_p17, List.forall_mem_cons.mpr ⟨lw_p18, List.forall_mem_cons.mpr ⟨lw_p19, List.forall_mem_cons.mpr ⟨lw_p20, List.forall_mem_cons.mpr ⟨lw_p21, List.forall_mem_cons.mpr ⟨lw_p22, List.forall_mem_cons.mpr ⟨lw_p23, List.forall_mem_cons.mpr ⟨lw_p24, List.forall_mem_cons.mpr ⟨lw_p25, List.forall_mem_cons.mpr ⟨lw_p26, List.forall_mem_cons.mpr ⟨lw_p27, List.forall_mem_cons.mpr ⟨lw_p28, List.forall_mem_cons.mpr ⟨lw_p29, List.forall_mem_cons.mpr ⟨lw_p30, List.forall_mem_cons.mpr ⟨lw_p31, fun _ h => absurd h List.not_mem_nil⟩⟩⟩⟩⟩⟩⟩⟩⟩⟩⟩⟩⟩⟩⟩⟩
theorem lw_p32 : lw_okq (⟨"EveryoneWins$Orders", "digits", "()I"⟩, 5) := ⟨⟨by decide +kernel, by decide +kernel⟩, List.mem_of_getElem? (i := 247) (by decide +kernel), List.mem_of_getElem? (i := 815) (by decide +kernel), List.mem_of_getElem? (i := 816) (by decide +kernel)⟩
theorem lw_p33 : lw_okq (⟨"EveryoneWins$Orders", "goOn", "()I"⟩, 5) := ⟨⟨by decide +kernel, by decide +kernel⟩, List.mem_of_getElem? (i := 247) (by decide +kernel), List.mem_of_getElem? (i := 820) (by decide +kernel), List.mem_of_getElem? (i := 821) (by decide +kernel)⟩
theorem lw_p34 : lw_okq (⟨"EveryoneWins$Orders", "swap", "(II)V"⟩, 5) := ⟨⟨by decide +kernel, by decide +kernel⟩, List.mem_of_getElem? (i := 247) (by decide +kernel), List.mem_of_getElem? (i := 824) (by decide +kernel), List.mem_of_getElem? (i := 825) (by decide +kernel)⟩
theorem lw_p35 : lw_okq (⟨"EveryoneWins", "sheetAt", "(I)LEveryoneWins$Sheet;"⟩, 17) := ⟨⟨by decide +kernel, by decide +kernel⟩, List.mem_of_getElem? (i := 22) (by decide +kernel), List.mem_of_getElem? (i := 841) (by decide +kernel), List.mem_of_getElem? (i := 842) (by decide +kernel)⟩
theorem lw_p36 : lw_okq (⟨"EveryoneWins", "refusalOfTelling", "(LEveryoneWins$Sheet;)I"⟩, 17) := ⟨⟨by decide +kernel, by decide +kernel⟩, List.mem_of_getElem? (i := 22) (by decide +kernel), List.mem_of_getElem? (i := 845) (by decide +kernel), List.mem_of_getElem? (i := 846) (by decide +kernel)⟩
theorem lw_p37 : lw_okq (⟨"EveryoneWins", "firstOtherwise", "(LEveryoneWins$Sheet;)I"⟩, 17) := ⟨⟨by decide +kernel, by decide +kernel⟩, List.mem_of_getElem? (i := 22) (by decide +kernel), List.mem_of_getElem? (i := 853) (by decide +kernel), List.mem_of_getElem? (i := 854) (by decide +kernel)⟩
theorem lw_p38 : lw_okq (⟨"EveryoneWins", "tryAll", "(LEveryoneWins$Sheet;[III)V"⟩, 17) := ⟨⟨by decide +kernel, by decide +kernel⟩, List.mem_of_getElem? (i := 22) (by decide +kernel), List.mem_of_getElem? (i := 866) (by decide +kernel), List.mem_of_getElem? (i := 867) (by decide +kernel)⟩
theorem lw_p39 : lw_okq (⟨"EveryoneWins", "keepLuck", "()V"⟩, 17) := ⟨⟨by decide +kernel, by decide +kernel⟩, List.mem_of_getElem? (i := 22) (by decide +kernel), List.mem_of_getElem? (i := 896) (by decide +kernel), List.mem_of_getElem? (i := 897) (by decide +kernel)⟩
theorem lw_p40 : lw_okq (⟨"EveryoneWins", "runByLots", "(I)V"⟩, 17) := ⟨⟨by decide +kernel, by decide +kernel⟩, List.mem_of_getElem? (i := 22) (by decide +kernel), List.mem_of_getElem? (i := 901) (by decide +kernel), List.mem_of_getElem? (i := 902) (by decide +kernel)⟩
theorem lw_p41 : lw_okq (⟨"EveryoneWins", "bringLuckBack", "()V"⟩, 17) := ⟨⟨by decide +kernel, by decide +kernel⟩, List.mem_of_getElem? (i := 22) (by decide +kernel), List.mem_of_getElem? (i := 908) (by decide +kernel), List.mem_of_getElem? (i := 909) (by decide +kernel)⟩
theorem lw_p42 : lw_okq (⟨"EveryoneWins", "takenForRace", "(II)I"⟩, 17) := ⟨⟨by decide +kernel, by decide +kernel⟩, List.mem_of_getElem? (i := 22) (by decide +kernel), List.mem_of_getElem? (i := 970) (by decide +kernel), List.mem_of_getElem? (i := 971) (by decide +kernel)⟩
theorem lw_p43 : lw_okq (⟨"EveryoneWinsModel", "next", "()V"⟩, 45) := ⟨⟨by decide +kernel, by decide +kernel⟩, List.mem_of_getElem? (i := 975) (by decide +kernel), List.mem_of_getElem? (i := 985) (by decide +kernel), List.mem_of_getElem? (i := 986) (by decide +kernel)⟩
theorem lw_p44 : lw_okq (⟨"EveryoneWinsModel", "wordFrom", "(II)I"⟩, 45) := ⟨⟨by decide +kernel, by decide +kernel⟩, List.mem_of_getElem? (i := 975) (by decide +kernel), List.mem_of_getElem? (i := 992) (by decide +kernel), List.mem_of_getElem? (i := 993) (by decide +kernel)⟩
theorem lw_p45 : lw_okq (⟨"EveryoneWinsModel", "eRead", "()Z"⟩, 45) := ⟨⟨by decide +kernel, by decide +kernel⟩, List.mem_of_getElem? (i := 975) (by decide +kernel), List.mem_of_getElem? (i := 996) (by decide +kernel), List.mem_of_getElem? (i := 997) (by decide +kernel)⟩
theorem lw_p46 : lw_okq (⟨"EveryoneWinsModel", "puts", "(I)V"⟩, 45) := ⟨⟨by decide +kernel, by decide +kernel⟩, List.mem_of_getElem? (i := 975) (by decide +kernel), List.mem_of_getElem? (i := 1001) (by decide +kernel), List.mem_of_getElem? (i := 1002) (by decide +kernel)⟩
theorem lw_p47 : lw_okq (⟨"EveryoneWinsModel", "unwinds", "(I)V"⟩, 45) := ⟨⟨by decide +kernel, by decide +kernel⟩, List.mem_of_getElem? (i := 975) (by decide +kernel), List.mem_of_getElem? (i := 1005) (by decide +kernel), List.mem_of_getElem? (i := 1006) (by decide +kernel)⟩
def lw_privs_3 : List (MethodName × Nat) := [(⟨"EveryoneWins$Orders", "digits", "()I"⟩, 5), (⟨"EveryoneWins$Orders", "goOn", "()I"⟩, 5), (⟨"EveryoneWins$Orders", "swap", "(II)V"⟩, 5), (⟨"EveryoneWins", "sheetAt", "(I)LEveryoneWins$Sheet;"⟩, 17), (⟨"EveryoneWins", "refusalOfTelling", "(LEveryoneWins$Sheet;)I"⟩, 17), (⟨"EveryoneWins", "firstOtherwise", "(LEveryoneWins$Sheet;)I"⟩, 17), (⟨"EveryoneWins", "tryAll", "(LEveryoneWins$Sheet;[III)V"⟩, 17), (⟨"EveryoneWins", "keepLuck", "()V"⟩, 17), (⟨"EveryoneWins", "runByLots", "(I)V"⟩, 17), (⟨"EveryoneWins", "bringLuckBack", "()V"⟩, 17), (⟨"EveryoneWins", "takenForRace", "(II)I"⟩, 17), (⟨"EveryoneWinsModel", "next", "()V"⟩, 45), (⟨"EveryoneWinsModel", "wordFrom", "(II)I"⟩, 45), (⟨"EveryoneWinsModel", "eRead", "()Z"⟩, 45), (⟨"EveryoneWinsModel", "puts", "(I)V"⟩, 45), (⟨"EveryoneWinsModel", "unwinds", "(I)V"⟩, 45)]
theorem lw_r3 : ∀ q ∈ lw_privs_3, lw_okq q := List.forall_mem_cons.mpr ⟨lw_p32, List.forall_mem_cons.mpr ⟨lw_p33, List.forall_mem_cons.mpr ⟨lw_p34, List.forall_mem_cons.mpr ⟨lw_p35, List.forall_mem_cons.mpr ⟨lw_p36, List.forall_mem_cons.mpr ⟨lw_p37, List.forall_mem_cons.mpr ⟨lw_p38, List.forall_mem_cons.mpr ⟨lw_p39, List.forall_mem_cons.mpr ⟨lw_p40, List.forall_mem_cons.mpr ⟨lw_p41, List.forall_mem_cons.mpr ⟨lw_p42, List.forall_mem_cons.mpr ⟨lw_p43, List.forall_mem_cons.mpr ⟨lw_p44, List.forall_mem_cons.mpr ⟨lw_p45, List.forall_mem_cons.mpr ⟨lw_p46, List.forall_mem_cons.mpr ⟨lw_p47, fun _ h => absurd h List.not_mem_nil⟩⟩⟩⟩⟩⟩⟩⟩⟩⟩⟩⟩⟩⟩⟩⟩
theorem lw_p48 : lw_okq (⟨"EveryoneWinsModel", "opensOne", "(I)Z"⟩, 45) := ⟨⟨by decide +kernel, by decide +kernel⟩, List.mem_of_getElem? (i := 975) (by decide +kernel), List.mem_of_getElem? (i := 1012) (by decide +kernel), List.mem_of_getElem? (i := 1013) (by decide +kernel)⟩
theorem lw_p49 : lw_okq (⟨"EveryoneWinsModel", "holds", "(I)V"⟩, 45) := ⟨⟨by decide +kernel, by decide +kernel⟩, List.mem_of_getElem? (i := 975) (by decide +kernel), List.mem_of_getElem? (i := 1016) (by decide +kernel), List.mem_of_getElem? (i := 1017) (by decide +kernel)⟩
theorem lw_p50 : lw_okq (⟨"EveryoneWinsModel", "signOf", "()I"⟩, 45) := ⟨⟨by decide +kernel, by decide +kernel⟩, List.mem_of_getElem? (i := 975) (by decide +kernel), List.mem_of_getElem? (i := 1020) (by decide +kernel), List.mem_of_getElem? (i := 1021) (by decide +kernel)⟩
theorem lw_p51 : lw_okq (⟨"EveryoneWinsModel", "between", "(I)Z"⟩, 45) := ⟨⟨by decide +kernel, by decide +kernel⟩, List.mem_of_getElem? (i := 975) (by decide +kernel), List.mem_of_getElem? (i := 1024) (by decide +kernel), List.mem_of_getElem? (i := 1025) (by decide +kernel)⟩
theorem lw_p52 : lw_okq (⟨"EveryoneWinsModel", "isChild", "(I)Z"⟩, 45) := ⟨⟨by decide +kernel, by decide +kernel⟩, List.mem_of_getElem? (i := 975) (by decide +kernel), List.mem_of_getElem? (i := 1176) (by decide +kernel), List.mem_of_getElem? (i := 1177) (by decide +kernel)⟩
theorem lw_p53 : lw_okq (⟨"EveryoneWinsModel", "isRace", "(I)Z"⟩, 45) := ⟨⟨by decide +kernel, by decide +kernel⟩, List.mem_of_getElem? (i := 975) (by decide +kernel), List.mem_of_getElem? (i := 1200) (by decide +kernel), List.mem_of_getElem? (i := 1201) (by decide +kernel)⟩
theorem lw_p54 : lw_okq (⟨"EveryoneWinsModel", "asksOf", "(IIII)I"⟩, 45) := ⟨⟨by decide +kernel, by decide +kernel⟩, List.mem_of_getElem? (i := 975) (by decide +kernel), List.mem_of_getElem? (i := 1204) (by decide +kernel), List.mem_of_getElem? (i := 1205) (by decide +kernel)⟩
theorem lw_p55 : lw_okq (⟨"EveryoneWinsModel", "says", "(I)I"⟩, 45) := ⟨⟨by decide +kernel, by decide +kernel⟩, List.mem_of_getElem? (i := 975) (by decide +kernel), List.mem_of_getElem? (i := 1214) (by decide +kernel), List.mem_of_getElem? (i := 1215) (by decide +kernel)⟩
theorem lw_p56 : lw_okq (⟨"EveryoneWinsModel", "areRunners", "(I)Z"⟩, 45) := ⟨⟨by decide +kernel, by decide +kernel⟩, List.mem_of_getElem? (i := 975) (by decide +kernel), List.mem_of_getElem? (i := 1225) (by decide +kernel), List.mem_of_getElem? (i := 1226) (by decide +kernel)⟩
theorem lw_p57 : lw_okq (⟨"EveryoneWinsModel", "begins", "()V"⟩, 45) := ⟨⟨by decide +kernel, by decide +kernel⟩, List.mem_of_getElem? (i := 975) (by decide +kernel), List.mem_of_getElem? (i := 1241) (by decide +kernel), List.mem_of_getElem? (i := 1242) (by decide +kernel)⟩
theorem lw_p58 : lw_okq (⟨"EveryoneWinsModel", "runs", "(I)V"⟩, 45) := ⟨⟨by decide +kernel, by decide +kernel⟩, List.mem_of_getElem? (i := 975) (by decide +kernel), List.mem_of_getElem? (i := 1245) (by decide +kernel), List.mem_of_getElem? (i := 1246) (by decide +kernel)⟩
theorem lw_p59 : lw_okq (⟨"EveryoneWinsModel", "scoreOf", "(II)I"⟩, 45) := ⟨⟨by decide +kernel, by decide +kernel⟩, List.mem_of_getElem? (i := 975) (by decide +kernel), List.mem_of_getElem? (i := 1249) (by decide +kernel), List.mem_of_getElem? (i := 1250) (by decide +kernel)⟩
theorem lw_p60 : lw_okq (⟨"EveryoneWinsModel", "goes", "()V"⟩, 45) := ⟨⟨by decide +kernel, by decide +kernel⟩, List.mem_of_getElem? (i := 975) (by decide +kernel), List.mem_of_getElem? (i := 1261) (by decide +kernel), List.mem_of_getElem? (i := 1262) (by decide +kernel)⟩
theorem lw_p61 : lw_okq (⟨"EveryoneWinsModel", "raceOf", "(I)V"⟩, 45) := ⟨⟨by decide +kernel, by decide +kernel⟩, List.mem_of_getElem? (i := 975) (by decide +kernel), List.mem_of_getElem? (i := 1265) (by decide +kernel), List.mem_of_getElem? (i := 1266) (by decide +kernel)⟩
theorem lw_p62 : lw_okq (⟨"EveryoneWinsModel", "forMany", "(I)I"⟩, 45) := ⟨⟨by decide +kernel, by decide +kernel⟩, List.mem_of_getElem? (i := 975) (by decide +kernel), List.mem_of_getElem? (i := 1269) (by decide +kernel), List.mem_of_getElem? (i := 1270) (by decide +kernel)⟩
theorem lw_p63 : lw_okq (⟨"EveryoneWinsModel", "noneWon", "()I"⟩, 45) := ⟨⟨by decide +kernel, by decide +kernel⟩, List.mem_of_getElem? (i := 975) (by decide +kernel), List.mem_of_getElem? (i := 1273) (by decide +kernel), List.mem_of_getElem? (i := 1274) (by decide +kernel)⟩
def lw_privs_4 : List (MethodName × Nat) := [(⟨"EveryoneWinsModel", "opensOne", "(I)Z"⟩, 45), (⟨"EveryoneWinsModel", "holds", "(I)V"⟩, 45), (⟨"EveryoneWinsModel", "signOf", "()I"⟩, 45), (⟨"EveryoneWinsModel", "between", "(I)Z"⟩, 45), (⟨"EveryoneWinsModel", "isChild", "(I)Z"⟩, 45), (⟨"EveryoneWinsModel", "isRace", "(I)Z"⟩, 45), (⟨"EveryoneWinsModel", "asksOf", "(IIII)I"⟩, 45), (⟨"EveryoneWinsModel", "says", "(I)I"⟩, 45), (⟨"EveryoneWinsModel", "areRunners", "(I)Z"⟩, 45), (⟨"EveryoneWinsModel", "begins", "()V"⟩, 45), (⟨"EveryoneWinsModel", "runs", "(I)V"⟩, 45), (⟨"EveryoneWinsModel", "scoreOf", "(II)I"⟩, 45), (⟨"EveryoneWinsModel", "goes", "()V"⟩, 45), (⟨"EveryoneWinsModel", "raceOf", "(I)V"⟩, 45), (⟨"EveryoneWinsModel", "forMany", "(I)I"⟩, 45), (⟨"EveryoneWinsModel", "noneWon", "()I"⟩, 45)]
theorem lw_r4 : ∀ q ∈ lw_privs_4, lw_okq q := List.forall_mem_cons.mpr ⟨lw_p48, List.forall_mem_cons.mpr ⟨lw_p49, List.forall_mem_cons.mpr ⟨lw_p50, List.forall_mem_cons.mpr ⟨lw_p51, List.forall_mem_cons.mpr ⟨lw_p52, List.forall_mem_cons.mpr ⟨lw_p53, List.forall_mem_cons.mpr ⟨lw_p54, List.forall_mem_cons.mpr ⟨lw_p55, List.forall_mem_cons.mpr ⟨lw_p56, List.forall_mem_cons.mpr ⟨lw_p57, List.forall_mem_cons.mpr ⟨lw_p58, List.forall_mem_cons.mpr ⟨lw_p59, List.forall_mem_cons.mpr ⟨lw_p60, List.forall_mem_cons.mpr ⟨lw_p61, List.forall_mem_cons.mpr ⟨lw_p62, List.forall_mem_cons.mpr ⟨lw_p63, fun _ h => absurd h List.not_mem_nil⟩⟩⟩⟩⟩⟩⟩⟩⟩⟩⟩⟩⟩⟩⟩⟩
theorem lw_p64 : lw_okq (⟨"EveryoneWinsModel", "changed", "(Z)V"⟩, 45) := ⟨⟨by decide +kernel, by decide +kernel⟩, List.mem_of_getElem? (i := 975) (by decide +kernel), List.mem_of_getElem? (i := 1281) (by decide +kernel), List.mem_of_getElem? (i := 1282) (by decide +kernel)⟩
theorem lw_p65 : lw_okq (⟨"EveryoneWinsModel", "asItIs", "()V"⟩, 45) := ⟨⟨by decide +kernel, by decide +kernel⟩, List.mem_of_getElem? (i := 975) (by decide +kernel), List.mem_of_getElem? (i := 1285) (by decide +kernel), List.mem_of_getElem? (i := 1286) (by decide +kernel)⟩
theorem lw_p66 : lw_okq (⟨"EveryoneWinsModel", "tried", "(I)V"⟩, 45) := ⟨⟨by decide +kernel, by decide +kernel⟩, List.mem_of_getElem? (i := 975) (by decide +kernel), List.mem_of_getElem? (i := 1289) (by decide +kernel), List.mem_of_getElem? (i := 1290) (by decide +kernel)⟩
theorem lw_p67 : lw_okq (⟨"EveryoneWinsModel", "toldBest", "(I)I"⟩, 45) := ⟨⟨by decide +kernel, by decide +kernel⟩, List.mem_of_getElem? (i := 975) (by decide +kernel), List.mem_of_getElem? (i := 1293) (by decide +kernel), List.mem_of_getElem? (i := 1294) (by decide +kernel)⟩
theorem lw_p68 : lw_okq (⟨"EveryoneWinsModel", "tells", "(I)Z"⟩, 45) := ⟨⟨by decide +kernel, by decide +kernel⟩, List.mem_of_getElem? (i := 975) (by decide +kernel), List.mem_of_getElem? (i := 1309) (by decide +kernel), List.mem_of_getElem? (i := 1310) (by decide +kernel)⟩
theorem lw_p69 : lw_okq (⟨"EveryoneWinsModel", "sheetWrong", "(I)I"⟩, 45) := ⟨⟨by decide +kernel, by decide +kernel⟩, List.mem_of_getElem? (i := 975) (by decide +kernel), List.mem_of_getElem? (i := 1325) (by decide +kernel), List.mem_of_getElem? (i := 1326) (by decide +kernel)⟩
theorem lw_p70 : lw_okq (⟨"EveryoneWinsModel", "unlike", "(I)I"⟩, 45) := ⟨⟨by decide +kernel, by decide +kernel⟩, List.mem_of_getElem? (i := 975) (by decide +kernel), List.mem_of_getElem? (i := 1329) (by decide +kernel), List.mem_of_getElem? (i := 1330) (by decide +kernel)⟩
theorem lw_p71 : lw_okq (⟨"EveryoneWinsModel", "dayBy", "(I)V"⟩, 45) := ⟨⟨by decide +kernel, by decide +kernel⟩, List.mem_of_getElem? (i := 975) (by decide +kernel), List.mem_of_getElem? (i := 1354) (by decide +kernel), List.mem_of_getElem? (i := 1355) (by decide +kernel)⟩
def lw_privs_5 : List (MethodName × Nat) := [(⟨"EveryoneWinsModel", "changed", "(Z)V"⟩, 45), (⟨"EveryoneWinsModel", "asItIs", "()V"⟩, 45), (⟨"EveryoneWinsModel", "tried", "(I)V"⟩, 45), (⟨"EveryoneWinsModel", "toldBest", "(I)I"⟩, 45), (⟨"EveryoneWinsModel", "tells", "(I)Z"⟩, 45), (⟨"EveryoneWinsModel", "sheetWrong", "(I)I"⟩, 45), (⟨"EveryoneWinsModel", "unlike", "(I)I"⟩, 45), (⟨"EveryoneWinsModel", "dayBy", "(I)V"⟩, 45)]
theorem lw_r5 : ∀ q ∈ lw_privs_5, lw_okq q := List.forall_mem_cons.mpr ⟨lw_p64, List.forall_mem_cons.mpr ⟨lw_p65, List.forall_mem_cons.mpr ⟨lw_p66, List.forall_mem_cons.mpr ⟨lw_p67, List.forall_mem_cons.mpr ⟨lw_p68, List.forall_mem_cons.mpr ⟨lw_p69, List.forall_mem_cons.mpr ⟨lw_p70, List.forall_mem_cons.mpr ⟨lw_p71, fun _ h => absurd h List.not_mem_nil⟩⟩⟩⟩⟩⟩⟩⟩
def lw_privs : List (MethodName × Nat) := lw_privs_1 ++ (lw_privs_2 ++ (lw_privs_3 ++ (lw_privs_4 ++ (lw_privs_5))))
def lw_tbl : List Cond := k2_sels lw_privs ++ tables_1
theorem lw_privs_ok : ∀ q ∈ lw_privs, lw_okq q := by
  show ∀ q ∈ lw_privs_1 ++ (lw_privs_2 ++ (lw_privs_3 ++ (lw_privs_4 ++ (lw_privs_5)))), lw_okq q
  exact List.forall_mem_append.mpr ⟨lw_r1, List.forall_mem_append.mpr ⟨lw_r2, List.forall_mem_append.mpr ⟨lw_r3, List.forall_mem_append.mpr ⟨lw_r4, lw_r5⟩⟩⟩⟩
end
section
def RX0 : String := "EveryoneWins$Best"
def TX0 : u_T := fun k => match k with
  | 0 => ("EveryoneWins$Best", "found", "I", false)
  | 1 => ("EveryoneWins$Best", "crossed", "I", false)
  | _ => ("EveryoneWins$Best", "joy", "I", false)
def tyX0 : Nat → FieldType := fun k => match k with
  | 0 => .int
  | 1 => .int
  | _ => .int
abbrev wsX00 : List Cond := u_ws RX0 TX0 3
theorem nmX0 : ∀ a, a < 3 → ∀ b, b < 3 → a ≠ b → (TX0 a).2.1 ≠ (TX0 b).2.1 := by decide +kernel
theorem tyX0_ok : ∀ k, k < 3 → parseFieldDescriptor (TX0 k).2.2.1 = some (tyX0 k) := by decide +kernel
abbrev cX0_init : ByteArray := prog_2_method_1_code
def yX0_init : MethodName := ⟨RX0, "<init>", "()V"⟩
abbrev cX0_startFrom : ByteArray := prog_2_method_2_code
def yX0_startFrom : MethodName := ⟨RX0, "startFrom", "(LEveryoneWins$Day;)V"⟩
abbrev cX0_weigh : ByteArray := prog_2_method_3_code
def yX0_weigh : MethodName := ⟨RX0, "weigh", "(ILEveryoneWins$Day;)V"⟩
abbrev cX0_take : ByteArray := prog_2_method_4_code
def yX0_take : MethodName := ⟨RX0, "take", "(ILEveryoneWins$Day;)V"⟩
abbrev cX0_tells : ByteArray := prog_2_method_5_code
def yX0_tells : MethodName := ⟨RX0, "tells", "(I)I"⟩
def RX1 : String := "EveryoneWins$Children"
def TX1 : u_T := fun k => match k with
  | 0 => ("EveryoneWins$Children", "speed", "[I", true)
  | 1 => ("EveryoneWins$Children", "luck", "[I", true)
  | 2 => ("EveryoneWins$Children", "yards", "[I", true)
  | _ => ("EveryoneWins$Children", "many", "I", false)
def tyX1 : Nat → FieldType := fun k => match k with
  | 0 => .array .int
  | 1 => .array .int
  | 2 => .array .int
  | _ => .int
abbrev wsX10 : List Cond := u_ws RX1 TX1 4
theorem nmX1 : ∀ a, a < 4 → ∀ b, b < 4 → a ≠ b → (TX1 a).2.1 ≠ (TX1 b).2.1 := by decide +kernel
theorem tyX1_ok : ∀ k, k < 4 → parseFieldDescriptor (TX1 k).2.2.1 = some (tyX1 k) := by decide +kernel
abbrev cX1_init : ByteArray := prog_3_method_1_code
def yX1_init : MethodName := ⟨RX1, "<init>", "()V"⟩
abbrev cX1_add : ByteArray := prog_3_method_2_code
def yX1_add : MethodName := ⟨RX1, "add", "(II)I"⟩
abbrev cX1_row : ByteArray := prog_3_method_3_code
def yX1_row : MethodName := ⟨RX1, "row", "(I)[I"⟩
abbrev cX1_become : ByteArray := prog_3_method_4_code
def yX1_become : MethodName := ⟨RX1, "become", "(LEveryoneWins$Children;)V"⟩
def RX2 : String := "EveryoneWins$Day"
def TX2 : u_T := fun k => match k with
  | 0 => ("EveryoneWins$Day", "children", "LEveryoneWins$Children;", true)
  | 1 => ("EveryoneWins$Day", "races", "LEveryoneWins$Races;", true)
  | 2 => ("EveryoneWins$Day", "texts", "LEveryoneWins$Texts;", true)
  | 3 => ("EveryoneWins$Day", "won", "[I", true)
  | 4 => ("EveryoneWins$Day", "line", "[I", true)
  | 5 => ("EveryoneWins$Day", "winners", "[I", true)
  | 6 => ("EveryoneWins$Day", "scores", "[I", true)
  | 7 => ("EveryoneWins$Day", "names", "[I", true)
  | 8 => ("EveryoneWins$Day", "joy", "I", false)
  | 9 => ("EveryoneWins$Day", "ribbons", "I", false)
  | 10 => ("EveryoneWins$Day", "crossed", "I", false)
  | _ => ("EveryoneWins$Day", "emptyHanded", "I", false)
def tyX2 : Nat → FieldType := fun k => match k with
  | 0 => .object "EveryoneWins$Children"
  | 1 => .object "EveryoneWins$Races"
  | 2 => .object "EveryoneWins$Texts"
  | 3 => .array .int
  | 4 => .array .int
  | 5 => .array .int
  | 6 => .array .int
  | 7 => .array .int
  | 8 => .int
  | 9 => .int
  | 10 => .int
  | _ => .int
abbrev wsX20 : List Cond := u_ws RX2 TX2 12
theorem nmX2 : ∀ a, a < 12 → ∀ b, b < 12 → a ≠ b → (TX2 a).2.1 ≠ (TX2 b).2.1 := by decide +kernel
theorem tyX2_ok : ∀ k, k < 12 → parseFieldDescriptor (TX2 k).2.2.1 = some (tyX2 k) := by decide +kernel
abbrev cX2_init : ByteArray := prog_4_method_1_code
def yX2_init : MethodName := ⟨RX2, "<init>", "(LEveryoneWins$Children;LEveryoneWins$Races;LEveryoneWins$Texts;)V"⟩
abbrev cX2_run : ByteArray := prog_4_method_2_code
def yX2_run : MethodName := ⟨RX2, "run", "()V"⟩
abbrev cX2_runWithout : ByteArray := prog_4_method_3_code
def yX2_runWithout : MethodName := ⟨RX2, "runWithout", "(I)V"⟩
abbrev cX2_begin : ByteArray := prog_4_method_4_code
def yX2_begin : MethodName := ⟨RX2, "begin", "()V"⟩
abbrev cX2_giveRibbons : ByteArray := prog_4_method_5_code
def yX2_giveRibbons : MethodName := ⟨RX2, "giveRibbons", "(II)V"⟩
abbrev cX2_end : ByteArray := prog_4_method_6_code
def yX2_end : MethodName := ⟨RX2, "end", "()V"⟩
abbrev cX2_lineUp : ByteArray := prog_4_method_7_code
def yX2_lineUp : MethodName := ⟨RX2, "lineUp", "(I)I"⟩
abbrev cX2_comesBehind : ByteArray := prog_4_method_8_code
def yX2_comesBehind : MethodName := ⟨RX2, "comesBehind", "(III)V"⟩
abbrev cX2_scoreOf : ByteArray := prog_4_method_9_code
def yX2_scoreOf : MethodName := ⟨RX2, "scoreOf", "(III)I"⟩
abbrev cX2_says : ByteArray := prog_4_method_10_code
def yX2_says : MethodName := ⟨RX2, "says", "(IIII)I"⟩
def RX3 : String := "EveryoneWins$Kinds"
def TX3 : u_T := fun k => match k with
  | _ => ("", "", "", false)
def tyX3 : Nat → FieldType := fun k => match k with
  | _ => .int
abbrev wsX30 : List Cond := u_ws RX3 TX3 0
theorem nmX3 : ∀ a, a < 0 → ∀ b, b < 0 → a ≠ b → (TX3 a).2.1 ≠ (TX3 b).2.1 := by decide +kernel
theorem tyX3_ok : ∀ k, k < 0 → parseFieldDescriptor (TX3 k).2.2.1 = some (tyX3 k) := by decide +kernel
abbrev cX3_isOne : ByteArray := prog_5_method_2_code
def yX3_isOne : MethodName := ⟨RX3, "isOne", "(II)Z"⟩
abbrev cX3_doesIn : ByteArray := prog_5_method_3_code
def yX3_doesIn : MethodName := ⟨RX3, "doesIn", "(IIII)I"⟩
abbrev cX3_inSack : ByteArray := prog_5_method_4_code
def yX3_inSack : MethodName := ⟨RX3, "inSack", "(II)I"⟩
abbrev cX3_yardsCountIn : ByteArray := prog_5_method_5_code
def yX3_yardsCountIn : MethodName := ⟨RX3, "yardsCountIn", "(III)I"⟩
abbrev cX3_ribbonsIn : ByteArray := prog_5_method_6_code
def yX3_ribbonsIn : MethodName := ⟨RX3, "ribbonsIn", "(III)I"⟩
def RX4 : String := "EveryoneWins$Orders"
def TX4 : u_T := fun k => match k with
  | 0 => ("EveryoneWins$Orders", "races", "LEveryoneWins$Races;", true)
  | 1 => ("EveryoneWins$Orders", "day", "LEveryoneWins$Day;", true)
  | 2 => ("EveryoneWins$Orders", "order", "[I", true)
  | 3 => ("EveryoneWins$Orders", "wonAhead", "[[I", true)
  | _ => ("EveryoneWins$Orders", "joyAhead", "[I", true)
def tyX4 : Nat → FieldType := fun k => match k with
  | 0 => .object "EveryoneWins$Races"
  | 1 => .object "EveryoneWins$Day"
  | 2 => .array .int
  | 3 => .array (.array .int)
  | _ => .array .int
abbrev wsX40 : List Cond := u_ws RX4 TX4 5
theorem nmX4 : ∀ a, a < 5 → ∀ b, b < 5 → a ≠ b → (TX4 a).2.1 ≠ (TX4 b).2.1 := by decide +kernel
theorem tyX4_ok : ∀ k, k < 5 → parseFieldDescriptor (TX4 k).2.2.1 = some (tyX4 k) := by decide +kernel
abbrev cX4_init : ByteArray := prog_6_method_1_code
def yX4_init : MethodName := ⟨RX4, "<init>", "(LEveryoneWins$Races;LEveryoneWins$Day;)V"⟩
abbrev cX4_weighAll : ByteArray := prog_6_method_2_code
def yX4_weighAll : MethodName := ⟨RX4, "weighAll", "(LEveryoneWins$Best;)V"⟩
abbrev cX4_runFrom : ByteArray := prog_6_method_3_code
def yX4_runFrom : MethodName := ⟨RX4, "runFrom", "(I)V"⟩
abbrev cX4_keepAhead : ByteArray := prog_6_method_4_code
def yX4_keepAhead : MethodName := ⟨RX4, "keepAhead", "(I)V"⟩
abbrev cX4_goOn : ByteArray := prog_6_method_5_code
def yX4_goOn : MethodName := ⟨RX4, "goOn", "()I"⟩
abbrev cX4_swap : ByteArray := prog_6_method_6_code
def yX4_swap : MethodName := ⟨RX4, "swap", "(II)V"⟩
abbrev cX4_digits : ByteArray := prog_6_method_7_code
def yX4_digits : MethodName := ⟨RX4, "digits", "()I"⟩
def RX5 : String := "EveryoneWins$Races"
def TX5 : u_T := fun k => match k with
  | 0 => ("EveryoneWins$Races", "kind", "[I", true)
  | 1 => ("EveryoneWins$Races", "more", "[I", true)
  | 2 => ("EveryoneWins$Races", "runners", "[I", true)
  | 3 => ("EveryoneWins$Races", "ribbons", "[I", true)
  | _ => ("EveryoneWins$Races", "many", "I", false)
def tyX5 : Nat → FieldType := fun k => match k with
  | 0 => .array .int
  | 1 => .array .int
  | 2 => .array .int
  | 3 => .array .int
  | _ => .int
abbrev wsX50 : List Cond := u_ws RX5 TX5 5
theorem nmX5 : ∀ a, a < 5 → ∀ b, b < 5 → a ≠ b → (TX5 a).2.1 ≠ (TX5 b).2.1 := by decide +kernel
theorem tyX5_ok : ∀ k, k < 5 → parseFieldDescriptor (TX5 k).2.2.1 = some (tyX5 k) := by decide +kernel
abbrev cX5_init : ByteArray := prog_7_method_1_code
def yX5_init : MethodName := ⟨RX5, "<init>", "()V"⟩
abbrev cX5_add : ByteArray := prog_7_method_2_code
def yX5_add : MethodName := ⟨RX5, "add", "(III)I"⟩
abbrev cX5_row : ByteArray := prog_7_method_3_code
def yX5_row : MethodName := ⟨RX5, "row", "(I)[I"⟩
abbrev cX5_howManyRun : ByteArray := prog_7_method_4_code
def yX5_howManyRun : MethodName := ⟨RX5, "howManyRun", "(I)I"⟩
abbrev cX5_become : ByteArray := prog_7_method_5_code
def yX5_become : MethodName := ⟨RX5, "become", "(LEveryoneWins$Races;)V"⟩
def RX6 : String := "EveryoneWins$Reader"
def TX6 : u_T := fun k => match k with
  | 0 => ("EveryoneWins$Reader", "tape", "LEveryoneWins$Tape;", true)
  | 1 => ("EveryoneWins$Reader", "next", "I", false)
  | 2 => ("EveryoneWins$Reader", "token", "I", false)
  | 3 => ("EveryoneWins$Reader", "open", "I", false)
  | _ => ("EveryoneWins$Reader", "fault", "I", false)
def tyX6 : Nat → FieldType := fun k => match k with
  | 0 => .object "EveryoneWins$Tape"
  | 1 => .int
  | 2 => .int
  | 3 => .int
  | _ => .int
abbrev wsX60 : List Cond := u_ws RX6 TX6 5
theorem nmX6 : ∀ a, a < 5 → ∀ b, b < 5 → a ≠ b → (TX6 a).2.1 ≠ (TX6 b).2.1 := by decide +kernel
theorem tyX6_ok : ∀ k, k < 5 → parseFieldDescriptor (TX6 k).2.2.1 = some (tyX6 k) := by decide +kernel
abbrev cX6_init : ByteArray := prog_8_method_1_code
def yX6_init : MethodName := ⟨RX6, "<init>", "(LEveryoneWins$Tape;)V"⟩
abbrev cX6_readInto : ByteArray := prog_8_method_2_code
def yX6_readInto : MethodName := ⟨RX6, "readInto", "(LEveryoneWins$Text;)I"⟩
abbrev cX6_readPart : ByteArray := prog_8_method_3_code
def yX6_readPart : MethodName := ⟨RX6, "readPart", "(LEveryoneWins$Text;II)V"⟩
abbrev cX6_readE : ByteArray := prog_8_method_4_code
def yX6_readE : MethodName := ⟨RX6, "readE", "(LEveryoneWins$Text;)V"⟩
abbrev cX6_readAnd : ByteArray := prog_8_method_5_code
def yX6_readAnd : MethodName := ⟨RX6, "readAnd", "(LEveryoneWins$Text;)V"⟩
abbrev cX6_readNot : ByteArray := prog_8_method_6_code
def yX6_readNot : MethodName := ⟨RX6, "readNot", "(LEveryoneWins$Text;)V"⟩
abbrev cX6_readComparison : ByteArray := prog_8_method_7_code
def yX6_readComparison : MethodName := ⟨RX6, "readComparison", "(LEveryoneWins$Text;)V"⟩
abbrev cX6_readSum : ByteArray := prog_8_method_8_code
def yX6_readSum : MethodName := ⟨RX6, "readSum", "(LEveryoneWins$Text;)V"⟩
abbrev cX6_readTerm : ByteArray := prog_8_method_9_code
def yX6_readTerm : MethodName := ⟨RX6, "readTerm", "(LEveryoneWins$Text;)V"⟩
abbrev cX6_readOne : ByteArray := prog_8_method_10_code
def yX6_readOne : MethodName := ⟨RX6, "readOne", "(LEveryoneWins$Text;)V"⟩
abbrev cX6_readNegated : ByteArray := prog_8_method_11_code
def yX6_readNegated : MethodName := ⟨RX6, "readNegated", "(LEveryoneWins$Text;)V"⟩
abbrev cX6_readInBrackets : ByteArray := prog_8_method_12_code
def yX6_readInBrackets : MethodName := ⟨RX6, "readInBrackets", "(LEveryoneWins$Text;)V"⟩
abbrev cX6_opens : ByteArray := prog_8_method_13_code
def yX6_opens : MethodName := ⟨RX6, "opens", "()Z"⟩
abbrev cX6_expect : ByteArray := prog_8_method_14_code
def yX6_expect : MethodName := ⟨RX6, "expect", "(I)V"⟩
abbrev cX6_step : ByteArray := prog_8_method_15_code
def yX6_step : MethodName := ⟨RX6, "step", "()V"⟩
abbrev cX6_fail : ByteArray := prog_8_method_16_code
def yX6_fail : MethodName := ⟨RX6, "fail", "()V"⟩
def RX7 : String := "EveryoneWins$Sheet"
def TX7 : u_T := fun k => match k with
  | 0 => ("EveryoneWins$Sheet", "cells", "[I", true)
  | 1 => ("EveryoneWins$Sheet", "sort", "I", false)
  | _ => ("EveryoneWins$Sheet", "size", "I", false)
def tyX7 : Nat → FieldType := fun k => match k with
  | 0 => .array .int
  | 1 => .int
  | _ => .int
abbrev wsX70 : List Cond := u_ws RX7 TX7 3
theorem nmX7 : ∀ a, a < 3 → ∀ b, b < 3 → a ≠ b → (TX7 a).2.1 ≠ (TX7 b).2.1 := by decide +kernel
theorem tyX7_ok : ∀ k, k < 3 → parseFieldDescriptor (TX7 k).2.2.1 = some (tyX7 k) := by decide +kernel
abbrev cX7_init : ByteArray := prog_9_method_1_code
def yX7_init : MethodName := ⟨RX7, "<init>", "()V"⟩
abbrev cX7_isMissing : ByteArray := prog_9_method_2_code
def yX7_isMissing : MethodName := ⟨RX7, "isMissing", "()Z"⟩
abbrev cX7_vanish : ByteArray := prog_9_method_3_code
def yX7_vanish : MethodName := ⟨RX7, "vanish", "()V"⟩
abbrev cX7_become : ByteArray := prog_9_method_4_code
def yX7_become : MethodName := ⟨RX7, "become", "(II)V"⟩
abbrev cX7_write : ByteArray := prog_9_method_5_code
def yX7_write : MethodName := ⟨RX7, "write", "(II)V"⟩
abbrev cX7_read : ByteArray := prog_9_method_6_code
def yX7_read : MethodName := ⟨RX7, "read", "(I)I"⟩
abbrev cX7_spans : ByteArray := prog_9_method_7_code
def yX7_spans : MethodName := ⟨RX7, "spans", "(II)Z"⟩
def RX8 : String := "EveryoneWins$Tape"
def TX8 : u_T := fun k => match k with
  | 0 => ("EveryoneWins$Tape", "bytes", "[I", true)
  | 1 => ("EveryoneWins$Tape", "tokens", "[I", true)
  | 2 => ("EveryoneWins$Tape", "places", "[I", true)
  | 3 => ("EveryoneWins$Tape", "size", "I", false)
  | _ => ("EveryoneWins$Tape", "many", "I", false)
def tyX8 : Nat → FieldType := fun k => match k with
  | 0 => .array .int
  | 1 => .array .int
  | 2 => .array .int
  | 3 => .int
  | _ => .int
abbrev wsX80 : List Cond := u_ws RX8 TX8 5
theorem nmX8 : ∀ a, a < 5 → ∀ b, b < 5 → a ≠ b → (TX8 a).2.1 ≠ (TX8 b).2.1 := by decide +kernel
theorem tyX8_ok : ∀ k, k < 5 → parseFieldDescriptor (TX8 k).2.2.1 = some (tyX8 k) := by decide +kernel
abbrev cX8_init : ByteArray := prog_10_method_1_code
def yX8_init : MethodName := ⟨RX8, "<init>", "()V"⟩
abbrev cX8_add : ByteArray := prog_10_method_2_code
def yX8_add : MethodName := ⟨RX8, "add", "(I)V"⟩
abbrev cX8_cut : ByteArray := prog_10_method_3_code
def yX8_cut : MethodName := ⟨RX8, "cut", "()V"⟩
abbrev cX8_token : ByteArray := prog_10_method_4_code
def yX8_token : MethodName := ⟨RX8, "token", "(I)I"⟩
abbrev cX8_place : ByteArray := prog_10_method_5_code
def yX8_place : MethodName := ⟨RX8, "place", "(I)I"⟩
abbrev cX8_keep : ByteArray := prog_10_method_6_code
def yX8_keep : MethodName := ⟨RX8, "keep", "(II)V"⟩
abbrev cX8_endOf : ByteArray := prog_10_method_7_code
def yX8_endOf : MethodName := ⟨RX8, "endOf", "(I)I"⟩
abbrev cX8_tokenOf : ByteArray := prog_10_method_8_code
def yX8_tokenOf : MethodName := ⟨RX8, "tokenOf", "(II)I"⟩
abbrev cX8_word : ByteArray := prog_10_method_9_code
def yX8_word : MethodName := ⟨RX8, "word", "(II)I"⟩
abbrev cX8_isWord : ByteArray := prog_10_method_10_code
def yX8_isWord : MethodName := ⟨RX8, "isWord", "(Ljava/lang/String;II)Z"⟩
abbrev cX8_number : ByteArray := prog_10_method_11_code
def yX8_number : MethodName := ⟨RX8, "number", "(II)I"⟩
abbrev cX8_isBlank : ByteArray := prog_10_method_12_code
def yX8_isBlank : MethodName := ⟨RX8, "isBlank", "(I)Z"⟩
abbrev cX8_isLetter : ByteArray := prog_10_method_13_code
def yX8_isLetter : MethodName := ⟨RX8, "isLetter", "(I)Z"⟩
abbrev cX8_isDigit : ByteArray := prog_10_method_14_code
def yX8_isDigit : MethodName := ⟨RX8, "isDigit", "(I)Z"⟩
abbrev cX8_isSign : ByteArray := prog_10_method_15_code
def yX8_isSign : MethodName := ⟨RX8, "isSign", "(I)Z"⟩
def RX9 : String := "EveryoneWins$Text"
def TX9 : u_T := fun k => match k with
  | 0 => ("EveryoneWins$Text", "code", "[I", true)
  | 1 => ("EveryoneWins$Text", "ends", "[I", true)
  | 2 => ("EveryoneWins$Text", "stack", "[I", true)
  | 3 => ("EveryoneWins$Text", "size", "I", false)
  | _ => ("EveryoneWins$Text", "top", "I", false)
def tyX9 : Nat → FieldType := fun k => match k with
  | 0 => .array .int
  | 1 => .array .int
  | 2 => .array .int
  | 3 => .int
  | _ => .int
abbrev wsX90 : List Cond := u_ws RX9 TX9 5
theorem nmX9 : ∀ a, a < 5 → ∀ b, b < 5 → a ≠ b → (TX9 a).2.1 ≠ (TX9 b).2.1 := by decide +kernel
theorem tyX9_ok : ∀ k, k < 5 → parseFieldDescriptor (TX9 k).2.2.1 = some (tyX9 k) := by decide +kernel
abbrev cX9_init : ByteArray := prog_11_method_1_code
def yX9_init : MethodName := ⟨RX9, "<init>", "()V"⟩
abbrev cX9_clear : ByteArray := prog_11_method_2_code
def yX9_clear : MethodName := ⟨RX9, "clear", "()V"⟩
abbrev cX9_add : ByteArray := prog_11_method_3_code
def yX9_add : MethodName := ⟨RX9, "add", "(I)V"⟩
abbrev cX9_addName : ByteArray := prog_11_method_4_code
def yX9_addName : MethodName := ⟨RX9, "addName", "(I)V"⟩
abbrev cX9_endPart : ByteArray := prog_11_method_5_code
def yX9_endPart : MethodName := ⟨RX9, "endPart", "(I)V"⟩
abbrev cX9_value : ByteArray := prog_11_method_6_code
def yX9_value : MethodName := ⟨RX9, "value", "(I[I)I"⟩
abbrev cX9_joined : ByteArray := prog_11_method_7_code
def yX9_joined : MethodName := ⟨RX9, "joined", "(III)I"⟩
abbrev cX9_push : ByteArray := prog_11_method_8_code
def yX9_push : MethodName := ⟨RX9, "push", "(I)V"⟩
abbrev cX9_pop : ByteArray := prog_11_method_9_code
def yX9_pop : MethodName := ⟨RX9, "pop", "()I"⟩
def RX10 : String := "EveryoneWins$Texts"
def TX10 : u_T := fun k => match k with
  | 0 => ("EveryoneWins$Texts", "all", "[LEveryoneWins$Text;", true)
  | 1 => ("EveryoneWins$Texts", "many", "I", false)
  | _ => ("EveryoneWins$Texts", "law", "I", false)
def tyX10 : Nat → FieldType := fun k => match k with
  | 0 => .array (.object "EveryoneWins$Text")
  | 1 => .int
  | _ => .int
abbrev wsX100 : List Cond := u_ws RX10 TX10 3
theorem nmX10 : ∀ a, a < 3 → ∀ b, b < 3 → a ≠ b → (TX10 a).2.1 ≠ (TX10 b).2.1 := by decide +kernel
theorem tyX10_ok : ∀ k, k < 3 → parseFieldDescriptor (TX10 k).2.2.1 = some (tyX10 k) := by decide +kernel
abbrev cX10_init : ByteArray := prog_12_method_1_code
def yX10_init : MethodName := ⟨RX10, "<init>", "()V"⟩
abbrev cX10_next : ByteArray := prog_12_method_2_code
def yX10_next : MethodName := ⟨RX10, "next", "()LEveryoneWins$Text;"⟩
abbrev cX10_keepNext : ByteArray := prog_12_method_3_code
def yX10_keepNext : MethodName := ⟨RX10, "keepNext", "()I"⟩
abbrev cX10_theLaw : ByteArray := prog_12_method_4_code
def yX10_theLaw : MethodName := ⟨RX10, "theLaw", "()LEveryoneWins$Text;"⟩
abbrev cX10_textAt : ByteArray := prog_12_method_5_code
def yX10_textAt : MethodName := ⟨RX10, "textAt", "(I)LEveryoneWins$Text;"⟩
def RX11 : String := "EveryoneWins"
def TX11 : u_T := fun k => match k with
  | 0 => ("EveryoneWins", "children", "LEveryoneWins$Children;", true)
  | 1 => ("EveryoneWins", "races", "LEveryoneWins$Races;", true)
  | 2 => ("EveryoneWins", "texts", "LEveryoneWins$Texts;", true)
  | 3 => ("EveryoneWins", "tape", "LEveryoneWins$Tape;", true)
  | 4 => ("EveryoneWins", "reader", "LEveryoneWins$Reader;", true)
  | 5 => ("EveryoneWins", "day", "LEveryoneWins$Day;", true)
  | 6 => ("EveryoneWins", "best", "LEveryoneWins$Best;", true)
  | 7 => ("EveryoneWins", "orders", "LEveryoneWins$Orders;", true)
  | 8 => ("EveryoneWins", "sheets", "[LEveryoneWins$Sheet;", true)
  | 9 => ("EveryoneWins", "keptLuck", "[I", true)
  | 10 => ("EveryoneWins", "keptChildren", "LEveryoneWins$Children;", true)
  | 11 => ("EveryoneWins", "keptRaces", "LEveryoneWins$Races;", true)
  | 12 => ("EveryoneWins", "keptLaw", "I", false)
  | 13 => ("EveryoneWins", "kept", "Z", false)
  | 14 => ("EveryoneWins", "fitBits", "I", false)
  | 15 => ("EveryoneWins", "fitMany", "I", false)
  | _ => ("EveryoneWins", "fitLeast", "I", false)
def tyX11 : Nat → FieldType := fun k => match k with
  | 0 => .object "EveryoneWins$Children"
  | 1 => .object "EveryoneWins$Races"
  | 2 => .object "EveryoneWins$Texts"
  | 3 => .object "EveryoneWins$Tape"
  | 4 => .object "EveryoneWins$Reader"
  | 5 => .object "EveryoneWins$Day"
  | 6 => .object "EveryoneWins$Best"
  | 7 => .object "EveryoneWins$Orders"
  | 8 => .array (.object "EveryoneWins$Sheet")
  | 9 => .array .int
  | 10 => .object "EveryoneWins$Children"
  | 11 => .object "EveryoneWins$Races"
  | 12 => .int
  | 13 => .boolean
  | 14 => .int
  | 15 => .int
  | _ => .int
abbrev wsX110 : List Cond := u_ws RX11 TX11 17
theorem nmX11 : ∀ a, a < 17 → ∀ b, b < 17 → a ≠ b → (TX11 a).2.1 ≠ (TX11 b).2.1 := by decide +kernel
theorem tyX11_ok : ∀ k, k < 17 → parseFieldDescriptor (TX11 k).2.2.1 = some (tyX11 k) := by decide +kernel
abbrev cX11_init : ByteArray := prog_1_method_1_code
def yX11_init : MethodName := ⟨RX11, "<init>", "()V"⟩
abbrev cX11_count : ByteArray := prog_1_method_2_code
def yX11_count : MethodName := ⟨RX11, "count", "(I)I"⟩
abbrev cX11_child : ByteArray := prog_1_method_3_code
def yX11_child : MethodName := ⟨RX11, "child", "(I)I"⟩
abbrev cX11_put : ByteArray := prog_1_method_4_code
def yX11_put : MethodName := ⟨RX11, "put", "(III)I"⟩
abbrev cX11_told : ByteArray := prog_1_method_5_code
def yX11_told : MethodName := ⟨RX11, "told", "(II)I"⟩
abbrev cX11_feed : ByteArray := prog_1_method_6_code
def yX11_feed : MethodName := ⟨RX11, "feed", "(IIIIII)I"⟩
abbrev cX11_text : ByteArray := prog_1_method_7_code
def yX11_text : MethodName := ⟨RX11, "text", "()I"⟩
abbrev cX11_force : ByteArray := prog_1_method_8_code
def yX11_force : MethodName := ⟨RX11, "force", "(I)I"⟩
abbrev cX11_asks : ByteArray := prog_1_method_9_code
def yX11_asks : MethodName := ⟨RX11, "asks", "(IIII)I"⟩
abbrev cX11_race : ByteArray := prog_1_method_10_code
def yX11_race : MethodName := ⟨RX11, "race", "(II)I"⟩
abbrev cX11_enter : ByteArray := prog_1_method_11_code
def yX11_enter : MethodName := ⟨RX11, "enter", "(III)I"⟩
abbrev cX11_card : ByteArray := prog_1_method_12_code
def yX11_card : MethodName := ⟨RX11, "card", "(II)I"⟩
abbrev cX11_comes : ByteArray := prog_1_method_13_code
def yX11_comes : MethodName := ⟨RX11, "comes", "(II)I"⟩
abbrev cX11_does : ByteArray := prog_1_method_14_code
def yX11_does : MethodName := ⟨RX11, "does", "(II)I"⟩
abbrev cX11_day : ByteArray := prog_1_method_15_code
def yX11_day : MethodName := ⟨RX11, "day", "(I)I"⟩
abbrev cX11_let : ByteArray := prog_1_method_16_code
def yX11_let : MethodName := ⟨RX11, "let", "(I)I"⟩
abbrev cX11_spare : ByteArray := prog_1_method_17_code
def yX11_spare : MethodName := ⟨RX11, "spare", "(I)I"⟩
abbrev cX11_drop : ByteArray := prog_1_method_18_code
def yX11_drop : MethodName := ⟨RX11, "drop", "(I)I"⟩
abbrev cX11_order : ByteArray := prog_1_method_19_code
def yX11_order : MethodName := ⟨RX11, "order", "(I)I"⟩
abbrev cX11_tie : ByteArray := prog_1_method_20_code
def yX11_tie : MethodName := ⟨RX11, "tie", "(I)I"⟩
abbrev cX11_needs : ByteArray := prog_1_method_21_code
def yX11_needs : MethodName := ⟨RX11, "needs", "(II)I"⟩
abbrev cX11_judge : ByteArray := prog_1_method_22_code
def yX11_judge : MethodName := ⟨RX11, "judge", "(I)I"⟩
abbrev cX11_kinds : ByteArray := prog_1_method_23_code
def yX11_kinds : MethodName := ⟨RX11, "kinds", "(III)I"⟩
abbrev cX11_quick : ByteArray := prog_1_method_24_code
def yX11_quick : MethodName := ⟨RX11, "quick", "(III)I"⟩
abbrev cX11_laws : ByteArray := prog_1_method_25_code
def yX11_laws : MethodName := ⟨RX11, "laws", "(I)I"⟩
abbrev cX11_film : ByteArray := prog_1_method_26_code
def yX11_film : MethodName := ⟨RX11, "film", "(I)I"⟩
abbrev cX11_drawn : ByteArray := prog_1_method_27_code
def yX11_drawn : MethodName := ⟨RX11, "drawn", "(II)I"⟩
abbrev cX11_odds : ByteArray := prog_1_method_28_code
def yX11_odds : MethodName := ⟨RX11, "odds", "(IIII)J"⟩
abbrev cX11_image : ByteArray := prog_1_method_29_code
def yX11_image : MethodName := ⟨RX11, "image", "()I"⟩
abbrev cX11_back : ByteArray := prog_1_method_30_code
def yX11_back : MethodName := ⟨RX11, "back", "()I"⟩
abbrev cX11_sheet : ByteArray := prog_1_method_31_code
def yX11_sheet : MethodName := ⟨RX11, "sheet", "(III)I"⟩
abbrev cX11_cell : ByteArray := prog_1_method_32_code
def yX11_cell : MethodName := ⟨RX11, "cell", "(III)I"⟩
abbrev cX11_copy : ByteArray := prog_1_method_33_code
def yX11_copy : MethodName := ⟨RX11, "copy", "(IIIII)I"⟩
abbrev cX11_childrenBy : ByteArray := prog_1_method_34_code
def yX11_childrenBy : MethodName := ⟨RX11, "childrenBy", "(IIII)I"⟩
abbrev cX11_taken : ByteArray := prog_1_method_35_code
def yX11_taken : MethodName := ⟨RX11, "taken", "(II)I"⟩
abbrev cX11_within : ByteArray := prog_1_method_36_code
def yX11_within : MethodName := ⟨RX11, "within", "(III)Z"⟩
abbrev cX11_isByte : ByteArray := prog_1_method_37_code
def yX11_isByte : MethodName := ⟨RX11, "isByte", "(I)Z"⟩
abbrev cX11_at : ByteArray := prog_1_method_38_code
def yX11_at : MethodName := ⟨RX11, "at", "([II)I"⟩
abbrev cX11_set : ByteArray := prog_1_method_39_code
def yX11_set : MethodName := ⟨RX11, "set", "([III)V"⟩
abbrev cX11_replaced : ByteArray := prog_1_method_40_code
def yX11_replaced : MethodName := ⟨RX11, "replaced", "([III)I"⟩
abbrev cX11_copyRow : ByteArray := prog_1_method_41_code
def yX11_copyRow : MethodName := ⟨RX11, "copyRow", "([I[I)V"⟩
abbrev cX11_has : ByteArray := prog_1_method_42_code
def yX11_has : MethodName := ⟨RX11, "has", "(II)Z"⟩
abbrev cX11_commonDivisor : ByteArray := prog_1_method_43_code
def yX11_commonDivisor : MethodName := ⟨RX11, "commonDivisor", "(II)I"⟩
abbrev cX11_isChild : ByteArray := prog_1_method_44_code
def yX11_isChild : MethodName := ⟨RX11, "isChild", "(I)Z"⟩
abbrev cX11_isRace : ByteArray := prog_1_method_45_code
def yX11_isRace : MethodName := ⟨RX11, "isRace", "(I)Z"⟩
abbrev cX11_areChildren : ByteArray := prog_1_method_46_code
def yX11_areChildren : MethodName := ⟨RX11, "areChildren", "(I)Z"⟩
abbrev cX11_sheetAt : ByteArray := prog_1_method_47_code
def yX11_sheetAt : MethodName := ⟨RX11, "sheetAt", "(I)LEveryoneWins$Sheet;"⟩
abbrev cX11_readTape : ByteArray := prog_1_method_48_code
def yX11_readTape : MethodName := ⟨RX11, "readTape", "()I"⟩
abbrev cX11_changingRunners : ByteArray := prog_1_method_49_code
def yX11_changingRunners : MethodName := ⟨RX11, "changingRunners", "(II)I"⟩
abbrev cX11_refusalOfTelling : ByteArray := prog_1_method_50_code
def yX11_refusalOfTelling : MethodName := ⟨RX11, "refusalOfTelling", "(LEveryoneWins$Sheet;)I"⟩
abbrev cX11_firstOtherwise : ByteArray := prog_1_method_51_code
def yX11_firstOtherwise : MethodName := ⟨RX11, "firstOtherwise", "(LEveryoneWins$Sheet;)I"⟩
abbrev cX11_tryAll : ByteArray := prog_1_method_52_code
def yX11_tryAll : MethodName := ⟨RX11, "tryAll", "(LEveryoneWins$Sheet;[III)V"⟩
abbrev cX11_keepLuck : ByteArray := prog_1_method_53_code
def yX11_keepLuck : MethodName := ⟨RX11, "keepLuck", "()V"⟩
abbrev cX11_bringLuckBack : ByteArray := prog_1_method_54_code
def yX11_bringLuckBack : MethodName := ⟨RX11, "bringLuckBack", "()V"⟩
abbrev cX11_runByLots : ByteArray := prog_1_method_55_code
def yX11_runByLots : MethodName := ⟨RX11, "runByLots", "(I)V"⟩
abbrev cX11_takenForRace : ByteArray := prog_1_method_56_code
def yX11_takenForRace : MethodName := ⟨RX11, "takenForRace", "(II)I"⟩
def RX12 : String := "EveryoneWinsModel"
def TX12 : u_T := fun k => match k with
  | 0 => ("EveryoneWinsModel", "children", "I", false)
  | 1 => ("EveryoneWinsModel", "rows", "[I", true)
  | 2 => ("EveryoneWinsModel", "races", "I", false)
  | 3 => ("EveryoneWinsModel", "kind", "[I", true)
  | 4 => ("EveryoneWinsModel", "moreOf", "[I", true)
  | 5 => ("EveryoneWinsModel", "cards", "[I", true)
  | 6 => ("EveryoneWinsModel", "tape", "[I", true)
  | 7 => ("EveryoneWinsModel", "taped", "I", false)
  | 8 => ("EveryoneWinsModel", "codes", "[I", true)
  | 9 => ("EveryoneWinsModel", "starts", "[I", true)
  | 10 => ("EveryoneWinsModel", "texts", "I", false)
  | 11 => ("EveryoneWinsModel", "rule", "I", false)
  | 12 => ("EveryoneWinsModel", "hasImage", "Z", false)
  | 13 => ("EveryoneWinsModel", "imageRows", "[I", true)
  | 14 => ("EveryoneWinsModel", "imageHeld", "[I", true)
  | 15 => ("EveryoneWinsModel", "sheetSort", "[I", true)
  | 16 => ("EveryoneWinsModel", "sheetSize", "[I", true)
  | 17 => ("EveryoneWinsModel", "cells", "[I", true)
  | 18 => ("EveryoneWinsModel", "law", "[I", true)
  | 19 => ("EveryoneWinsModel", "at", "I", false)
  | 20 => ("EveryoneWinsModel", "begun", "I", false)
  | 21 => ("EveryoneWinsModel", "token", "I", false)
  | 22 => ("EveryoneWinsModel", "value", "I", false)
  | 23 => ("EveryoneWinsModel", "words", "[I", true)
  | 24 => ("EveryoneWinsModel", "held", "[I", true)
  | 25 => ("EveryoneWinsModel", "heldMany", "I", false)
  | 26 => ("EveryoneWinsModel", "opens", "I", false)
  | 27 => ("EveryoneWinsModel", "out", "I", false)
  | 28 => ("EveryoneWinsModel", "stack", "[I", true)
  | 29 => ("EveryoneWinsModel", "named", "[I", true)
  | 30 => ("EveryoneWinsModel", "won", "[I", true)
  | 31 => ("EveryoneWinsModel", "score", "[I", true)
  | 32 => ("EveryoneWinsModel", "order", "[I", true)
  | 33 => ("EveryoneWinsModel", "ran", "I", false)
  | 34 => ("EveryoneWinsModel", "joy", "I", false)
  | 35 => ("EveryoneWinsModel", "crossed", "I", false)
  | 36 => ("EveryoneWinsModel", "ribbons", "I", false)
  | 37 => ("EveryoneWinsModel", "winners", "[I", true)
  | 38 => ("EveryoneWinsModel", "turn", "[I", true)
  | 39 => ("EveryoneWinsModel", "dropped", "I", false)
  | 40 => ("EveryoneWinsModel", "best", "I", false)
  | 41 => ("EveryoneWinsModel", "bestCrossed", "I", false)
  | 42 => ("EveryoneWinsModel", "bestJoy", "I", false)
  | 43 => ("EveryoneWinsModel", "digitsOf", "I", false)
  | _ => ("EveryoneWinsModel", "kept", "[I", true)
def tyX12 : Nat → FieldType := fun k => match k with
  | 0 => .int
  | 1 => .array .int
  | 2 => .int
  | 3 => .array .int
  | 4 => .array .int
  | 5 => .array .int
  | 6 => .array .int
  | 7 => .int
  | 8 => .array .int
  | 9 => .array .int
  | 10 => .int
  | 11 => .int
  | 12 => .boolean
  | 13 => .array .int
  | 14 => .array .int
  | 15 => .array .int
  | 16 => .array .int
  | 17 => .array .int
  | 18 => .array .int
  | 19 => .int
  | 20 => .int
  | 21 => .int
  | 22 => .int
  | 23 => .array .int
  | 24 => .array .int
  | 25 => .int
  | 26 => .int
  | 27 => .int
  | 28 => .array .int
  | 29 => .array .int
  | 30 => .array .int
  | 31 => .array .int
  | 32 => .array .int
  | 33 => .int
  | 34 => .int
  | 35 => .int
  | 36 => .int
  | 37 => .array .int
  | 38 => .array .int
  | 39 => .int
  | 40 => .int
  | 41 => .int
  | 42 => .int
  | 43 => .int
  | _ => .array .int
abbrev wsX120 : List Cond := u_ws RX12 TX12 45
theorem nmX12 : ∀ a, a < 45 → ∀ b, b < 45 → a ≠ b → (TX12 a).2.1 ≠ (TX12 b).2.1 := by decide +kernel
theorem tyX12_ok : ∀ k, k < 45 → parseFieldDescriptor (TX12 k).2.2.1 = some (tyX12 k) := by decide +kernel
abbrev cX12_init : ByteArray := prog_14_method_1_code
def yX12_init : MethodName := ⟨RX12, "<init>", "()V"⟩
abbrev cX12_in : ByteArray := prog_14_method_3_code
def yX12_in : MethodName := ⟨RX12, "in", "(III)Z"⟩
abbrev cX12_within : ByteArray := prog_14_method_4_code
def yX12_within : MethodName := ⟨RX12, "within", "(III)I"⟩
abbrev cX12_ones : ByteArray := prog_14_method_5_code
def yX12_ones : MethodName := ⟨RX12, "ones", "(I)I"⟩
abbrev cX12_isChild : ByteArray := prog_14_method_6_code
def yX12_isChild : MethodName := ⟨RX12, "isChild", "(I)Z"⟩
abbrev cX12_isRace : ByteArray := prog_14_method_7_code
def yX12_isRace : MethodName := ⟨RX12, "isRace", "(I)Z"⟩
abbrev cX12_count : ByteArray := prog_14_method_8_code
def yX12_count : MethodName := ⟨RX12, "count", "(I)I"⟩
abbrev cX12_child : ByteArray := prog_14_method_9_code
def yX12_child : MethodName := ⟨RX12, "child", "(I)I"⟩
abbrev cX12_put : ByteArray := prog_14_method_10_code
def yX12_put : MethodName := ⟨RX12, "put", "(III)I"⟩
abbrev cX12_told : ByteArray := prog_14_method_11_code
def yX12_told : MethodName := ⟨RX12, "told", "(II)I"⟩
abbrev cX12_isByte : ByteArray := prog_14_method_12_code
def yX12_isByte : MethodName := ⟨RX12, "isByte", "(I)Z"⟩
abbrev cX12_feed : ByteArray := prog_14_method_13_code
def yX12_feed : MethodName := ⟨RX12, "feed", "(IIIIII)I"⟩
abbrev cX12_wordFrom : ByteArray := prog_14_method_14_code
def yX12_wordFrom : MethodName := ⟨RX12, "wordFrom", "(II)I"⟩
abbrev cX12_next : ByteArray := prog_14_method_15_code
def yX12_next : MethodName := ⟨RX12, "next", "()V"⟩
abbrev cX12_rank : ByteArray := prog_14_method_16_code
def yX12_rank : MethodName := ⟨RX12, "rank", "(I)I"⟩
abbrev cX12_puts : ByteArray := prog_14_method_17_code
def yX12_puts : MethodName := ⟨RX12, "puts", "(I)V"⟩
abbrev cX12_unwinds : ByteArray := prog_14_method_18_code
def yX12_unwinds : MethodName := ⟨RX12, "unwinds", "(I)V"⟩
abbrev cX12_holds : ByteArray := prog_14_method_19_code
def yX12_holds : MethodName := ⟨RX12, "holds", "(I)V"⟩
abbrev cX12_opensOne : ByteArray := prog_14_method_20_code
def yX12_opensOne : MethodName := ⟨RX12, "opensOne", "(I)Z"⟩
abbrev cX12_between : ByteArray := prog_14_method_21_code
def yX12_between : MethodName := ⟨RX12, "between", "(I)Z"⟩
abbrev cX12_signOf : ByteArray := prog_14_method_22_code
def yX12_signOf : MethodName := ⟨RX12, "signOf", "()I"⟩
abbrev cX12_eRead : ByteArray := prog_14_method_23_code
def yX12_eRead : MethodName := ⟨RX12, "eRead", "()Z"⟩
abbrev cX12_text : ByteArray := prog_14_method_24_code
def yX12_text : MethodName := ⟨RX12, "text", "()I"⟩
abbrev cX12_two : ByteArray := prog_14_method_25_code
def yX12_two : MethodName := ⟨RX12, "two", "(III)I"⟩
abbrev cX12_says : ByteArray := prog_14_method_26_code
def yX12_says : MethodName := ⟨RX12, "says", "(I)I"⟩
abbrev cX12_force : ByteArray := prog_14_method_27_code
def yX12_force : MethodName := ⟨RX12, "force", "(I)I"⟩
abbrev cX12_asksOf : ByteArray := prog_14_method_28_code
def yX12_asksOf : MethodName := ⟨RX12, "asksOf", "(IIII)I"⟩
abbrev cX12_asks : ByteArray := prog_14_method_29_code
def yX12_asks : MethodName := ⟨RX12, "asks", "(IIII)I"⟩
abbrev cX12_areRunners : ByteArray := prog_14_method_30_code
def yX12_areRunners : MethodName := ⟨RX12, "areRunners", "(I)Z"⟩
abbrev cX12_race : ByteArray := prog_14_method_31_code
def yX12_race : MethodName := ⟨RX12, "race", "(II)I"⟩
abbrev cX12_enter : ByteArray := prog_14_method_32_code
def yX12_enter : MethodName := ⟨RX12, "enter", "(III)I"⟩
abbrev cX12_card : ByteArray := prog_14_method_33_code
def yX12_card : MethodName := ⟨RX12, "card", "(II)I"⟩
abbrev cX12_scoreOf : ByteArray := prog_14_method_34_code
def yX12_scoreOf : MethodName := ⟨RX12, "scoreOf", "(II)I"⟩
abbrev cX12_forMany : ByteArray := prog_14_method_35_code
def yX12_forMany : MethodName := ⟨RX12, "forMany", "(I)I"⟩
abbrev cX12_runs : ByteArray := prog_14_method_36_code
def yX12_runs : MethodName := ⟨RX12, "runs", "(I)V"⟩
abbrev cX12_begins : ByteArray := prog_14_method_37_code
def yX12_begins : MethodName := ⟨RX12, "begins", "()V"⟩
abbrev cX12_comes : ByteArray := prog_14_method_38_code
def yX12_comes : MethodName := ⟨RX12, "comes", "(II)I"⟩
abbrev cX12_does : ByteArray := prog_14_method_39_code
def yX12_does : MethodName := ⟨RX12, "does", "(II)I"⟩
abbrev cX12_raceOf : ByteArray := prog_14_method_40_code
def yX12_raceOf : MethodName := ⟨RX12, "raceOf", "(I)V"⟩
abbrev cX12_goes : ByteArray := prog_14_method_41_code
def yX12_goes : MethodName := ⟨RX12, "goes", "()V"⟩
abbrev cX12_noneWon : ByteArray := prog_14_method_42_code
def yX12_noneWon : MethodName := ⟨RX12, "noneWon", "()I"⟩
abbrev cX12_day : ByteArray := prog_14_method_43_code
def yX12_day : MethodName := ⟨RX12, "day", "(I)I"⟩
abbrev cX12_asItIs : ByteArray := prog_14_method_44_code
def yX12_asItIs : MethodName := ⟨RX12, "asItIs", "()V"⟩
abbrev cX12_tried : ByteArray := prog_14_method_45_code
def yX12_tried : MethodName := ⟨RX12, "tried", "(I)V"⟩
abbrev cX12_toldBest : ByteArray := prog_14_method_46_code
def yX12_toldBest : MethodName := ⟨RX12, "toldBest", "(I)I"⟩
abbrev cX12_changed : ByteArray := prog_14_method_47_code
def yX12_changed : MethodName := ⟨RX12, "changed", "(Z)V"⟩
abbrev cX12_let : ByteArray := prog_14_method_48_code
def yX12_let : MethodName := ⟨RX12, "let", "(I)I"⟩
abbrev cX12_spare : ByteArray := prog_14_method_49_code
def yX12_spare : MethodName := ⟨RX12, "spare", "(I)I"⟩
abbrev cX12_drop : ByteArray := prog_14_method_50_code
def yX12_drop : MethodName := ⟨RX12, "drop", "(I)I"⟩
abbrev cX12_tells : ByteArray := prog_14_method_51_code
def yX12_tells : MethodName := ⟨RX12, "tells", "(I)Z"⟩
abbrev cX12_order : ByteArray := prog_14_method_52_code
def yX12_order : MethodName := ⟨RX12, "order", "(I)I"⟩
abbrev cX12_tie : ByteArray := prog_14_method_53_code
def yX12_tie : MethodName := ⟨RX12, "tie", "(I)I"⟩
abbrev cX12_needs : ByteArray := prog_14_method_54_code
def yX12_needs : MethodName := ⟨RX12, "needs", "(II)I"⟩
abbrev cX12_sheetWrong : ByteArray := prog_14_method_55_code
def yX12_sheetWrong : MethodName := ⟨RX12, "sheetWrong", "(I)I"⟩
abbrev cX12_unlike : ByteArray := prog_14_method_56_code
def yX12_unlike : MethodName := ⟨RX12, "unlike", "(I)I"⟩
abbrev cX12_judge : ByteArray := prog_14_method_57_code
def yX12_judge : MethodName := ⟨RX12, "judge", "(I)I"⟩
abbrev cX12_kinds : ByteArray := prog_14_method_58_code
def yX12_kinds : MethodName := ⟨RX12, "kinds", "(III)I"⟩
abbrev cX12_quick : ByteArray := prog_14_method_59_code
def yX12_quick : MethodName := ⟨RX12, "quick", "(III)I"⟩
abbrev cX12_laws : ByteArray := prog_14_method_60_code
def yX12_laws : MethodName := ⟨RX12, "laws", "(I)I"⟩
abbrev cX12_film : ByteArray := prog_14_method_61_code
def yX12_film : MethodName := ⟨RX12, "film", "(I)I"⟩
abbrev cX12_dayBy : ByteArray := prog_14_method_62_code
def yX12_dayBy : MethodName := ⟨RX12, "dayBy", "(I)V"⟩
abbrev cX12_drawn : ByteArray := prog_14_method_63_code
def yX12_drawn : MethodName := ⟨RX12, "drawn", "(II)I"⟩
abbrev cX12_lowest : ByteArray := prog_14_method_64_code
def yX12_lowest : MethodName := ⟨RX12, "lowest", "(JJI)J"⟩
abbrev cX12_odds : ByteArray := prog_14_method_65_code
def yX12_odds : MethodName := ⟨RX12, "odds", "(IIII)J"⟩
abbrev cX12_image : ByteArray := prog_14_method_66_code
def yX12_image : MethodName := ⟨RX12, "image", "()I"⟩
abbrev cX12_back : ByteArray := prog_14_method_67_code
def yX12_back : MethodName := ⟨RX12, "back", "()I"⟩
abbrev cX12_sheet : ByteArray := prog_14_method_68_code
def yX12_sheet : MethodName := ⟨RX12, "sheet", "(III)I"⟩
abbrev cX12_cell : ByteArray := prog_14_method_69_code
def yX12_cell : MethodName := ⟨RX12, "cell", "(III)I"⟩
abbrev cX12_copy : ByteArray := prog_14_method_70_code
def yX12_copy : MethodName := ⟨RX12, "copy", "(IIIII)I"⟩
abbrev cX12_childrenBy : ByteArray := prog_14_method_71_code
def yX12_childrenBy : MethodName := ⟨RX12, "childrenBy", "(IIII)I"⟩
abbrev cX12_isUnder : ByteArray := prog_14_method_72_code
def yX12_isUnder : MethodName := ⟨RX12, "isUnder", "(II)Z"⟩
abbrev cX12_taken : ByteArray := prog_14_method_73_code
def yX12_taken : MethodName := ⟨RX12, "taken", "(II)I"⟩
def RJ6 : String := "java/lang/Integer"
def TJ6 : u_T := fun k => match k with
  | _ => ("", "", "", false)
def tyJ6 : Nat → FieldType := fun k => match k with
  | _ => .int
abbrev wsJ60 : List Cond := u_ws RJ6 TJ6 0
theorem nmJ6 : ∀ a, a < 0 → ∀ b, b < 0 → a ≠ b → (TJ6 a).2.1 ≠ (TJ6 b).2.1 := by decide +kernel
theorem tyJ6_ok : ∀ k, k < 0 → parseFieldDescriptor (TJ6 k).2.2.1 = some (tyJ6 k) := by decide +kernel
abbrev cJ6_bitCount_0f7a4 : ByteArray := prog_15_method_49_code
def yJ6_bitCount_0f7a4 : MethodName := ⟨RJ6, "bitCount", "(I)I"⟩
def RJ9 : String := "java/lang/Math"
def TJ9 : u_T := fun k => match k with
  | _ => ("", "", "", false)
def tyJ9 : Nat → FieldType := fun k => match k with
  | _ => .int
abbrev wsJ90 : List Cond := u_ws RJ9 TJ9 0
theorem nmJ9 : ∀ a, a < 0 → ∀ b, b < 0 → a ≠ b → (TJ9 a).2.1 ≠ (TJ9 b).2.1 := by decide +kernel
theorem tyJ9_ok : ∀ k, k < 0 → parseFieldDescriptor (TJ9 k).2.2.1 = some (tyJ9 k) := by decide +kernel
abbrev cJ9_max_7cf53 : ByteArray := prog_16_method_65_code
def yJ9_max_7cf53 : MethodName := ⟨RJ9, "max", "(II)I"⟩
abbrev cJ9_min_7cf53 : ByteArray := prog_16_method_69_code
def yJ9_min_7cf53 : MethodName := ⟨RJ9, "min", "(II)I"⟩
def RJ0 : String := "java/lang/String"
def TJ0 : u_T := fun k => match k with
  | _ => ("", "", "", false)
def tyJ0 : Nat → FieldType := fun k => match k with
  | _ => .int
abbrev wsJ00 : List Cond := u_ws RJ0 TJ0 0
theorem nmJ0 : ∀ a, a < 0 → ∀ b, b < 0 → a ≠ b → (TJ0 a).2.1 ≠ (TJ0 b).2.1 := by decide +kernel
theorem tyJ0_ok : ∀ k, k < 0 → parseFieldDescriptor (TJ0 k).2.2.1 = some (tyJ0 k) := by decide +kernel
abbrev cJ0_length_8abf5 : ByteArray := prog_17_method_54_code
def yJ0_length_8abf5 : MethodName := ⟨RJ0, "length", "()I"⟩
abbrev cJ0_charAt_5068e : ByteArray := prog_17_method_56_code
def yJ0_charAt_5068e : MethodName := ⟨RJ0, "charAt", "(I)C"⟩
abbrev cJ0_coder_7d493 : ByteArray := prog_17_method_152_code
def yJ0_coder_7d493 : MethodName := ⟨RJ0, "coder", "()B"⟩
abbrev cJ0_isLatin1_aae02 : ByteArray := prog_17_method_154_code
def yJ0_isLatin1_aae02 : MethodName := ⟨RJ0, "isLatin1", "()Z"⟩
abbrev cJ0_checkIndex_df160 : ByteArray := prog_17_method_155_code
def yJ0_checkIndex_df160 : MethodName := ⟨RJ0, "checkIndex", "(II)V"⟩
def RJ1 : String := "java/lang/StringLatin1"
def TJ1 : u_T := fun k => match k with
  | _ => ("", "", "", false)
def tyJ1 : Nat → FieldType := fun k => match k with
  | _ => .int
abbrev wsJ10 : List Cond := u_ws RJ1 TJ1 0
theorem nmJ1 : ∀ a, a < 0 → ∀ b, b < 0 → a ≠ b → (TJ1 a).2.1 ≠ (TJ1 b).2.1 := by decide +kernel
theorem tyJ1_ok : ∀ k, k < 0 → parseFieldDescriptor (TJ1 k).2.2.1 = some (tyJ1 k) := by decide +kernel
abbrev cJ1_charAt_3b067 : ByteArray := prog_18_method_2_code
def yJ1_charAt_3b067 : MethodName := ⟨RJ1, "charAt", "([BI)C"⟩
def RJ2 : String := "java/lang/StringUTF16"
def TJ2 : u_T := fun k => match k with
  | _ => ("", "", "", false)
def tyJ2 : Nat → FieldType := fun k => match k with
  | _ => .int
abbrev wsJ20 : List Cond := u_ws RJ2 TJ2 0
theorem nmJ2 : ∀ a, a < 0 → ∀ b, b < 0 → a ≠ b → (TJ2 a).2.1 ≠ (TJ2 b).2.1 := by decide +kernel
theorem tyJ2_ok : ∀ k, k < 0 → parseFieldDescriptor (TJ2 k).2.2.1 = some (tyJ2 k) := by decide +kernel
abbrev cJ2_getChar_3b067 : ByteArray := prog_19_method_5_code
def yJ2_getChar_3b067 : MethodName := ⟨RJ2, "getChar", "([BI)C"⟩
abbrev cJ2_length_9d52b : ByteArray := prog_19_method_6_code
def yJ2_length_9d52b : MethodName := ⟨RJ2, "length", "([B)I"⟩
abbrev cJ2_charAt_3b067 : ByteArray := prog_19_method_83_code
def yJ2_charAt_3b067 : MethodName := ⟨RJ2, "charAt", "([BI)C"⟩
abbrev cJ2_checkIndex_2214a : ByteArray := prog_19_method_91_code
def yJ2_checkIndex_2214a : MethodName := ⟨RJ2, "checkIndex", "(I[B)V"⟩
def RJ10 : String := "java/lang/System"
def TJ10 : u_T := fun k => match k with
  | _ => ("", "", "", false)
def tyJ10 : Nat → FieldType := fun k => match k with
  | _ => .int
abbrev wsJ100 : List Cond := u_ws RJ10 TJ10 0
theorem nmJ10 : ∀ a, a < 0 → ∀ b, b < 0 → a ≠ b → (TJ10 a).2.1 ≠ (TJ10 b).2.1 := by decide +kernel
theorem tyJ10_ok : ∀ k, k < 0 → parseFieldDescriptor (TJ10 k).2.2.1 = some (tyJ10 k) := by decide +kernel
def RJ3 : String := "jdk/internal/util/Preconditions"
def TJ3 : u_T := fun k => match k with
  | _ => ("", "", "", false)
def tyJ3 : Nat → FieldType := fun k => match k with
  | _ => .int
abbrev wsJ30 : List Cond := u_ws RJ3 TJ3 0
theorem nmJ3 : ∀ a, a < 0 → ∀ b, b < 0 → a ≠ b → (TJ3 a).2.1 ≠ (TJ3 b).2.1 := by decide +kernel
theorem tyJ3_ok : ∀ k, k < 0 → parseFieldDescriptor (TJ3 k).2.2.1 = some (tyJ3 k) := by decide +kernel
abbrev cJ3_checkIndex_8e157 : ByteArray := prog_21_method_11_code
def yJ3_checkIndex_8e157 : MethodName := ⟨RJ3, "checkIndex", "(IILjava/util/function/BiFunction;)I"⟩
def RL : String := "EveryoneWinsLaw"
abbrev cL_law : ByteArray := code
def yL_law : MethodName := ⟨RL, "law", "([I)Z"⟩
abbrev vwCl : List vw_C := [(RX0, TX0, 3), (RX1, TX1, 4), (RX2, TX2, 12), (RX4, TX4, 5), (RX5, TX5, 5), (RX6, TX6, 5), (RX7, TX7, 3), (RX8, TX8, 5), (RX9, TX9, 5), (RX10, TX10, 3), (RX11, TX11, 17), (RX12, TX12, 45)]
end
section
/-! my own layer over the kit: memories of ints over a fixed graph of objects -/
abbrev M2 : Type := Nat → Nat → Int32
def up (σ : M2) (o k : Nat) (x : Int32) : M2 := fun a => if a = o then upd (σ o) k x else σ a
theorem up_same (σ : M2) (o k : Nat) (x : Int32) : up σ o k x o = upd (σ o) k x := if_pos rfl
theorem up_other {σ : M2} {o a k : Nat} {x : Int32} (h : a ≠ o) : up σ o k x a = σ a := if_neg h
def cshL : List (Nat × Nat) := [(12, 17), (3, 4), (0, 8), (0, 8), (0, 8), (6, 5), (0, 6), (0, 6), (0, 6), (0, 6), (11, 3), (1, 6), (10, 5), (0, 160), (0, 3), (0, 32), (10, 5), (0, 160), (0, 3), (0, 32), (10, 5), (0, 160), (0, 3), (0, 32), (10, 5), (0, 160), (0, 3), (0, 32), (10, 5), (0, 160), (0, 3), (0, 32), (10, 5), (0, 160), (0, 3), (0, 32), (9, 5), (0, 160), (0, 160), (0, 160), (7, 5), (4, 12), (0, 8), (0, 8), (0, 6), (0, 8), (0, 6), (2, 3), (5, 5), (0, 6), (1, 6), (0, 8), (0, 8), (0, 8), (0, 8), (0, 8), (0, 8), (0, 6), (1, 4), (8, 3), (0, 40), (8, 3), (0, 40), (8, 3), (0, 40), (8, 3), (0, 40), (0, 8), (3, 4), (0, 8), (0, 8), (0, 8), (6, 5), (0, 6), (0, 6), (0, 6), (0, 6)]
def crfL : List (List Nat) := [[1, 5, 10, 36, 40, 41, 47, 48, 58, 67, 68, 72, 0, 0, 0, 0, 0], [2, 3, 4, 0], [], [], [], [6, 7, 8, 9, 0], [], [], [], [], [11, 0, 0], [12, 16, 20, 24, 28, 32], [13, 14, 15, 0, 0], [], [], [], [17, 18, 19, 0, 0], [], [], [], [21, 22, 23, 0, 0], [], [], [], [25, 26, 27, 0, 0], [], [], [], [29, 30, 31, 0, 0], [], [], [], [33, 34, 35, 0, 0], [], [], [], [37, 38, 39, 0, 0], [], [], [], [36, 0, 0, 0, 0], [1, 5, 10, 42, 43, 44, 45, 46, 0, 0, 0, 0], [], [], [], [], [], [0, 0, 0], [5, 41, 49, 50, 57], [], [51, 52, 53, 54, 55, 56], [], [], [], [], [], [], [], [59, 61, 63, 65], [60, 0, 0], [], [62, 0, 0], [], [64, 0, 0], [], [66, 0, 0], [], [], [69, 70, 71, 0], [], [], [], [73, 74, 75, 76, 0], [], [], [], []]
def csh (o : Nat) : Nat × Nat := cshL.getD o (99, 0)
def crf (o j : Nat) : Nat := (crfL.getD o []).getD j 0

def mshL : List (Nat × Nat) := [(13, 45), (0, 24), (0, 6), (0, 6), (0, 12), (0, 160), (0, 1200), (0, 24), (0, 36), (0, 3), (0, 4), (0, 4), (0, 160), (0, 43), (0, 96), (0, 200), (0, 200), (0, 6), (0, 8), (0, 8), (0, 8), (0, 6), (0, 6), (0, 8)]
def mrfL : List (List Nat) := [[0, 1, 0, 2, 3, 4, 5, 0, 6, 7, 0, 0, 0, 8, 9, 10, 11, 12, 13, 0, 0, 0, 0, 14, 15, 0, 0, 0, 16, 17, 18, 19, 20, 0, 0, 0, 0, 21, 22, 0, 0, 0, 0, 0, 23], [], [], [], [], [], [], [], [], [], [], [], [], [], [], [], [], [], [], [], [], [], [], []]
def msh (o : Nat) : Nat × Nat := mshL.getD o (99, 0)
def mrf (o j : Nat) : Nat := (mrfL.getD o []).getD j 0

def fkL : List (List Bool) := [[false, false, false], [true, true, true, false], [true, true, true, true, true, true, true, true, false, false, false, false], [true, true, true, true, true], [true, true, true, true, false], [true, false, false, false, false], [true, false, false], [true, true, true, false, false], [true, true, true, false, false], [true, false, false], [true, true, true, true, true, true, true, true, true, true, true, true, false, false, false, false, false], [false, true, false, true, true, true, true, false, true, true, false, false, false, true, true, true, true, true, true, false, false, false, false, true, true, false, false, false, true, true, true, true, true, false, false, false, false, true, true, false, false, false, false, false, true]]
def fk (c j : Nat) : Bool := (fkL.getD c []).getD j false


/-- shape: how many cells, what each is, what its references are -/
abbrev SH : Type := Nat × (Nat → Nat × Nat) × (Nat → Nat → Nat)
def SC : SH := (77, csh, crf)
def SM : SH := (24, msh, mrf)
/-- a world: shape, addresses, class ids, array classes, their types, strings -/
abbrev WT : Type := SH × (Nat → Nat) × va_G × ClassId × (Nat → ClassId) × List (ClassId × FieldType) × (Nat → Nat) × (Nat → Nat) × Nat
abbrev wN (ω : WT) : Nat := ω.1.1
abbrev wsh (ω : WT) : Nat → Nat × Nat := ω.1.2.1
abbrev wrf (ω : WT) : Nat → Nat → Nat := ω.1.2.2
abbrev wad (ω : WT) : Nat → Nat := ω.2.1
abbrev wD (ω : WT) : va_G := ω.2.2.1
abbrev wcI (ω : WT) : ClassId := ω.2.2.2.1
abbrev wcR (ω : WT) : Nat → ClassId := ω.2.2.2.2.1
abbrev wty (ω : WT) : List (ClassId × FieldType) := ω.2.2.2.2.2.1
abbrev wK (ω : WT) : Nat → Nat := ω.2.2.2.2.2.2.1
abbrev wV (ω : WT) : Nat → Nat := ω.2.2.2.2.2.2.2.1
abbrev wT (ω : WT) : Nat := ω.2.2.2.2.2.2.2.2
def cellf (ω : WT) (σ : M2) (i j : Nat) : Value := if fk ((wsh ω i).1 - 2) j = true then .ref (wad ω (wrf ω i j)) else .int (σ i j)
def celle (ω : WT) (σ : M2) (i : Nat) : va_E :=
  if (wsh ω i).1 = 0 then .inl (wcI ω, (wsh ω i).2, .inl (σ i))
  else if (wsh ω i).1 = 1 then .inl (wcR ω i, (wsh ω i).2, .inr (.inr (.inr (.inr (fun k => some (wad ω (wrf ω i k)))))))
  else .inr ((wsh ω i).1 - 2, (List.range (wsh ω i).2).map (cellf ω σ i))
def wld (ω : WT) (σ : M2) : va_W := (List.range (wN ω)).map (fun i => (wad ω i, celle ω σ i))
theorem wld_at (ω : WT) (σ : M2) {i : Nat} (h : i < wN ω) : (wld ω σ)[i]? = some (wad ω i, celle ω σ i) := by
  simp [wld, List.getElem?_map, List.getElem?_range h]
theorem wld_inv (ω : WT) (σ : M2) {i : Nat} {q : Nat × va_E} (h : (wld ω σ)[i]? = some q) : i < wN ω ∧ q = (wad ω i, celle ω σ i) := by
  have hl : i < wN ω := by
    have := (List.getElem?_eq_some_iff.mp h).1
    simpa [wld] using this
  rw [wld_at ω σ hl] at h
  exact ⟨hl, (Option.some.inj h).symm⟩
theorem celle_i {ω : WT} {σ : M2} {i n : Nat} (h : wsh ω i = (0, n)) : celle ω σ i = .inl (wcI ω, n, .inl (σ i)) := by simp [celle, h]
theorem celle_r {ω : WT} {σ : M2} {i n : Nat} (h : wsh ω i = (1, n)) : celle ω σ i = .inl (wcR ω i, n, .inr (.inr (.inr (.inr (fun k => some (wad ω (wrf ω i k))))))) := by simp [celle, h]
theorem celle_o {ω : WT} {σ : M2} {i c n : Nat} (h : wsh ω i = (c + 2, n)) : celle ω σ i = .inr (c, (List.range n).map (cellf ω σ i)) := by simp [celle, h]
theorem celle_ne {ω : WT} {σ : M2} {o i k : Nat} {x : Int32} (h : i ≠ o) : celle ω (up σ o k x) i = celle ω σ i := by
  have e : up σ o k x i = σ i := up_other h
  have e2 : cellf ω (up σ o k x) i = cellf ω σ i := by funext j; simp only [cellf, e]
  simp only [celle, e, e2]
theorem wld_set {ω : WT} {σ : M2} {o k : Nat} {x : Int32} {e : va_E} (ho : o < wN ω) (he : celle ω (up σ o k x) o = e) : (wld ω σ).set o (wad ω o, e) = wld ω (up σ o k x) := by
  apply List.ext_getElem?
  intro i
  by_cases hi : i < wN ω
  · rw [wld_at ω _ hi]
    by_cases hio : i = o
    · subst hio
      rw [List.getElem?_set_self (by simpa [wld] using hi), he]
    · rw [List.getElem?_set_ne (Ne.symm hio), wld_at ω σ hi, celle_ne hio]
  · rw [List.getElem?_eq_none (by simpa [wld] using hi), List.getElem?_eq_none (by simpa [wld] using hi)]
/-- the addresses are apart; nothing lies beyond; the arrays' classes are among the types -/
def Inj (ω : WT) : Prop := (∀ i j, i < wN ω → j < wN ω → wad ω i = wad ω j → i = j) ∧ (∀ o, wN ω ≤ o → (wsh ω o).1 = 99) ∧ (∃ t : Nat, (wty ω)[t]? = some (wcI ω, FieldType.int)) ∧ ∀ o n, wsh ω o = (1, n) → ∃ (t : Nat) (ty : FieldType), (wty ω)[t]? = some (wcR ω o, ty) ∧ ty.isReference = true
def wA (ω : WT) : Nat → Prop := fun q => ∃ i, i < wN ω ∧ q = wad ω i
theorem Inj.D {ω : WT} (h : Inj ω) (σ : M2) : va_D (wA ω) (wld ω σ) := by
  refine ⟨fun i j p q hi hj hpq => ?_, fun k q hk => ?_⟩
  · obtain ⟨h1, rfl⟩ := wld_inv ω σ hi
    obtain ⟨h2, rfl⟩ := wld_inv ω σ hj
    exact h.1 i j h1 h2 hpq
  · obtain ⟨h1, rfl⟩ := wld_inv ω σ hk
    exact ⟨k, h1, rfl⟩
theorem Inj.lt {ω : WT} (h : Inj ω) {o t n : Nat} (hs : wsh ω o = (t, n)) (ht : t ≠ 99) : o < wN ω := by
  rcases Nat.lt_or_ge o (wN ω) with q | q
  · exact q
  · exact absurd ((by rw [hs] : (wsh ω o).1 = t).symm.trans (h.2.1 o q)) ht
end
section
/-! the tables' good words, what a frame knows, a contract -/
def gtbl : List Cond := lw_tbl.filter goodWord
theorem gtbl_of {w : Cond} {i : Nat} (h : lw_tbl[i]? = some w) (g : goodWord w = true) : w ∈ gtbl := List.mem_filter.mpr ⟨List.mem_of_getElem? h, g⟩
theorem gtbl_in {w : Cond} (h : w ∈ gtbl) : w ∈ lw_tbl := (List.mem_filter.mp h).1
theorem gtbl_good (big : List Cond) (hb : ∀ w ∈ gtbl, w ∈ big) : GoodIn big gtbl := fun w h => ⟨hb w h, good_of_word (List.mem_filter.mp h).2⟩
def aboveL : List Int32 := [-1, 0, 0, 1, 2, 0]
def strOwn : List (String × Nat × String) := [("EveryoneWins", 88, "yards 0 ; worth 10 - won * 3 ; none 0 - 5 ;"), ("EveryoneWins$Tape", 67, "yards"), ("EveryoneWins$Tape", 73, "worth"), ("EveryoneWins$Tape", 75, "none"), ("EveryoneWins$Tape", 77, "or"), ("EveryoneWins$Tape", 79, "and"), ("EveryoneWins$Tape", 81, "not"), ("EveryoneWins$Tape", 83, "speed"), ("EveryoneWins$Tape", 87, "luck"), ("EveryoneWins$Tape", 89, "won"), ("EveryoneWins$Tape", 91, "more"), ("EveryoneWins$Tape", 93, "runners"), ("EveryoneWins$Tape", 95, "race")]
def strByt : List (List Int32) := strOwn.map (fun q => q.2.2.toList.map (fun ch => Int32.ofNat ch.toNat))
def strLen : List Nat := strByt.map List.length
def nestL : List (String × Nat × MethodName × String) := lw_tbl.filterMap (fun w => match w with
  | .methodLinkNest a i x h => some (a, i, x, h)
  | _ => none)
/-- what a frame's start gives beside the world: nest mates' links, the static array, the texts of constants -/
def Stt (ω : WT) (U : State) : Prop :=
  (∀ q ∈ nestL, va_Nw (.methodLinkNest q.1 q.2.1 q.2.2.1 q.2.2.2) U) ∧
  va_Z "EveryoneWins$Kinds" "ABOVE" "[I" (.ref (wT ω)) (wA ω) U U.heap ∧
  va_T .int (wT ω) 6 (fun j => .int (aboveL.getD j 0)) (wA ω) U U.heap ∧
  va_Z "java/lang/String" "COMPACT_STRINGS" "Z" (.int 1) (wA ω) U U.heap ∧
  (∀ i, i < 13 → vk_R (strOwn.getD i default).1 (strOwn.getD i default).2.1 (strOwn.getD i default).2.2 (wK ω i) U) ∧
  vk_S 13 strLen strByt (wK ω) (wV ω) (wA ω) U U.heap
theorem Stt.call {ω : WT} {s U : State} {H : Heap} {locs : List Loc} (h : Stt ω s) (hS : va_S (wA ω) s.heap H locs) (hU : U.heap = H) (hW : s.WarmedH U.vm) : Stt ω U := by
  obtain ⟨h1, h2, h3, h4, h5, h6⟩ := h
  have hk : ∀ a : Nat, a < s.heap.size → ¬ wA ω a → U.heap[a]? = s.heap[a]? := fun a h1 h2 => by rw [hU]; exact hS.2.1 a h1 h2
  exact ⟨fun q hq => (h1 q hq).warmM hW, (h2.moved hW.alike).kept hk, (h3.moved hW.alike).kept hk, (h4.moved hW.alike).kept hk, fun i hi => (h5 i hi).warm hW, (h6.moved hW.alike).kept hk⟩
theorem Stt.blind {ω : WT} {U : State} {g : JFrame} {mk : MethodId} {a : Array Value} (h : Stt ω U) : Stt ω (U.calling g mk a) := by
  obtain ⟨h1, h2, h3, h4, h5, h6⟩ := h
  have hA := Vm.Alike.refl U.vm
  exact ⟨fun q hq => (h1 q hq).same rfl rfl, h2.moved hA, h3.moved hA, h4.moved hA, fun i hi => (h5 i hi).same rfl, h6.moved hA⟩
def Pw (ω : WT) (σ : M2) (U : State) : Prop := va_P (wD ω) vwCl (wld ω σ) U.heap ∧ va_K (wD ω) vwCl (wty ω) U ∧ Inj ω ∧ Stt ω U
theorem Pw.blind {ω : WT} {σ : M2} {as : List Value} : FrameBlind (va_Pc as (Pw ω σ)) := by
  intro a U g mk h
  obtain ⟨e, h1, h2, h3, h4⟩ := h
  exact ⟨e, h1, va_K.moved (u := U) (U := U.calling g mk a) (Vm.Alike.refl U.vm) h2, h3, h4.blind⟩
def rmL (n : Nat) : Room := { frames := n, cells := 0, slots := 0, locals := 60 * n }
def Qw (ω : WT) (v : Option Value) (σ' : M2) : Array Value → State → Outcome → State → Prop := fun _ st oc t => oc = .returned v ∧ va_P (wD ω) vwCl (wld ω σ') t.heap ∧ va_F (wA ω) st t
/-- the contract of a method: its arguments, the memory ahead, its answer, the memory behind -/
def Ct (l : Launch) (ω : WT) (y : MethodName) (cc : ByteArray) (maxL : Nat) (ret : Option FieldType) (n : Nat) (as : List Value) (σ : M2) (v : Option Value) (σ' : M2) : Prop :=
  Met l y (.code y cc maxL ret :: gtbl) (rmL n) (va_Pc as (Pw ω σ)) (Qw ω v σ') 0 0 (wA ω)
/-- a frame: all that W speaks of -/
abbrev KT : Type := Program × Launch × Env × State × MethodId × Array Value × List Frame × Method × Code × Option Value × M2
def Jw (ω : WT) (κ : KT) (n nL pc : Nat) (L : List (Nat × Value)) (st : List Value) (σ : M2) (H : Heap) (locs : List Loc) (ls : Array Slot) : Prop :=
  W κ.1 κ.2.1 κ.2.2.1 (rmL n) κ.2.2.2.1 κ.2.2.2.2.1 κ.2.2.2.2.2.1 κ.2.2.2.2.2.2.1 κ.2.2.2.2.2.2.2.1 κ.2.2.2.2.2.2.2.2.1 H locs 0 0 (MQ κ.2.2.2.2.2.2.1 (Qw ω κ.2.2.2.2.2.2.2.2.2.1 κ.2.2.2.2.2.2.2.2.2.2) κ.2.2.2.2.2.1 κ.2.2.2.1 0 0 (wA ω)) (F0 κ.2.2.2.2.1 pc ls st)
def J (ω : WT) (κ : KT) (n nL pc : Nat) (L : List (Nat × Value)) (st : List Value) (σ : M2) : Prop :=
  ∀ (H : Heap) (locs : List Loc) (ls : Array Slot), va_P (wD ω) vwCl (wld ω σ) H → va_S (wA ω) κ.2.2.2.1.heap H locs → lv_has ls nL L → Jw ω κ n nL pc L st σ H locs ls
/-- what is known all through a frame -/
def Cx (ω : WT) (κ : KT) (cc : ByteArray) (nL : Nat) (own : String) (ret : Option FieldType) : Prop :=
  κ.1.tables.exec = Jvm.exec ∧ κ.2.2.2.2.2.2.2.2.1.code = cc ∧ κ.2.2.2.2.2.2.2.2.1.maxLocals = nL ∧ κ.2.2.2.1.vm.findClass own = some κ.2.2.2.2.1.cls ∧
  (∀ w ∈ gtbl, w.before κ.2.2.2.2.2.1 κ.2.2.2.1 = true) ∧ κ.2.2.2.2.2.2.2.1.sig.returnType = ret ∧ κ.2.2.2.2.2.2.2.1.locks = false ∧
  va_K (wD ω) vwCl (wty ω) κ.2.2.2.1 ∧ Inj ω ∧ Stt ω κ.2.2.2.1
section CX
variable {ω : WT} {κ : KT} {cc : ByteArray} {nL : Nat} {own : String} {ret : Option FieldType}
theorem Cx.x (C : Cx ω κ cc nL own ret) : κ.1.tables.exec = Jvm.exec := C.1
theorem Cx.b (C : Cx ω κ cc nL own ret) : κ.2.2.2.2.2.2.2.2.1.code = cc := C.2.1
theorem Cx.ml (C : Cx ω κ cc nL own ret) : κ.2.2.2.2.2.2.2.2.1.maxLocals = nL := C.2.2.1
theorem Cx.o (C : Cx ω κ cc nL own ret) : κ.2.2.2.1.vm.findClass own = some κ.2.2.2.2.1.cls := C.2.2.2.1
theorem Cx.t (C : Cx ω κ cc nL own ret) : ∀ w ∈ gtbl, w.before κ.2.2.2.2.2.1 κ.2.2.2.1 = true := C.2.2.2.2.1
theorem Cx.r (C : Cx ω κ cc nL own ret) : κ.2.2.2.2.2.2.2.1.sig.returnType = ret := C.2.2.2.2.2.1
theorem Cx.lk (C : Cx ω κ cc nL own ret) : κ.2.2.2.2.2.2.2.1.locks = false := C.2.2.2.2.2.2.1
theorem Cx.K (C : Cx ω κ cc nL own ret) : va_K (wD ω) vwCl (wty ω) κ.2.2.2.1 := C.2.2.2.2.2.2.2.1
theorem Cx.I (C : Cx ω κ cc nL own ret) : Inj ω := C.2.2.2.2.2.2.2.2.1
theorem Cx.S (C : Cx ω κ cc nL own ret) : Stt ω κ.2.2.2.1 := C.2.2.2.2.2.2.2.2.2
end CX
/-- a contract out of a walk -/
theorem Ct.of {l : Launch} {ω : WT} {y : MethodName} {cc : ByteArray} {maxL n : Nat} {ret : Option FieldType} {as : List Value} {σ : M2} {v : Option Value} {σ' : M2} {L : List (Nat × Value)} {own : String}
    (hy : plainName y.cls = true) (ho : y.cls = own) (hlen : Nat.ble (lg_sl as).length maxL = true) (hL : lv_args 0 as = L)
    (body : ∀ κ : KT, κ.2.1 = l → κ.2.2.2.2.2.2.2.2.2 = (v, σ') → Cx ω κ cc maxL own ret → J ω κ n maxL 0 L [] σ) : Ct l ω y cc maxL ret n as σ v σ' := by
  refine Met.ofW (cc := cc) (maxL := maxL) (ret := ret) hy rfl ?_
  intro p e s m args below meth c s₁ B hml hv
  obtain ⟨rfl, hP, hK, hI, hSt⟩ := hv
  have hts := atoms_spec (ws := .code y cc maxL ret :: gtbl) B.pre
  have hown : s.vm.findClass own = some m.cls := by rw [← ho]; exact findClass_of_methodNamed B.named
  have hl := lv_entry as (n := maxL) (Nat.le_of_ble_eq_true hlen)
  rw [lg_entry_eq]
  generalize (lg_sl as ++ List.replicate (maxL - (lg_sl as).length) Slot.unset).toArray = ls at hl ⊢
  rw [hL] at hl
  exact body (p, l, e, s, m, as.toArray, below, meth, c, v, σ') rfl rfl ⟨B.exec, B.bytes, hml, hown, fun w hw => hts w (List.mem_cons_of_mem _ hw), B.returns, B.notSynchronized, hK, hI, hSt⟩ s.heap [] ls hP va_S.rf hl
end
section
/-! rows: each instruction over a memory of ints -/
section ROWS
variable {ω : WT} {κ : KT} {cc : ByteArray} {nL n : Nat} {own : String} {ret : Option FieldType} {pc : Nat} {L : List (Nat × Value)} {st : List Value} {σ : M2}
theorem j_sub {L' : List (Nat × Value)} (ks : List Nat) (h : lv_pick L ks = L') (k : J ω κ n nL pc L' st σ) : J ω κ n nL pc L st σ := fun H locs ls hP hS hl => k H locs ls hP hS (lv_sub hl ks h)
theorem j_pc {pc' : Nat} (h : pc' = pc) (k : J ω κ n nL pc' L st σ) : J ω κ n nL pc L st σ := h ▸ k
theorem j_iconst (C : Cx ω κ cc nL own ret) {x : Int} {v : Int32} (d : decode cc pc = .ok (.iconst x, 1)) (hv : Int32.ofInt x = v) (k : J ω κ n nL (pc + 1) L (.int v :: st) σ) : J ω κ n nL pc L st σ := fun H locs ls hP hS hl => lv_iconst C.x C.b d hv (k H locs ls hP hS hl)
theorem j_bipush (C : Cx ω κ cc nL own ret) {x : Int} {v : Int32} (d : decode cc pc = .ok (.bipush x, 2)) (hv : (Int8.ofInt x).toInt32 = v) (k : J ω κ n nL (pc + 2) L (.int v :: st) σ) : J ω κ n nL pc L st σ := fun H locs ls hP hS hl => lv_bipush C.x C.b d hv (k H locs ls hP hS hl)
theorem j_sipush (C : Cx ω κ cc nL own ret) {x : Int} {v : Int32} (d : decode cc pc = .ok (.sipush x, 3)) (hv : (Int16.ofInt x).toInt32 = v) (k : J ω κ n nL (pc + 3) L (.int v :: st) σ) : J ω κ n nL pc L st σ := fun H locs ls hP hS hl => lv_sipush C.x C.b d hv (k H locs ls hP hS hl)
theorem j_lconst (C : Cx ω κ cc nL own ret) {x : Fin 2} {v : Int64} (d : decode cc pc = .ok (.lconst x, 1)) (hv : Int64.ofNat (x : Nat) = v) (k : J ω κ n nL (pc + 1) L (.long v :: st) σ) : J ω κ n nL pc L st σ := fun H locs ls hP hS hl => lv_lconst C.x C.b d hv (k H locs ls hP hS hl)
theorem j_ldc (C : Cx ω κ cc nL own ret) {i : Nat} {v : Int32} (hw : Cond.constant own i v ∈ gtbl) (d : decode cc pc = .ok (.ldc i, 2)) (k : J ω κ n nL (pc + 2) L (.int v :: st) σ) : J ω κ n nL pc L st σ := fun H locs ls hP hS hl => lv_ldc C.x C.b C.o (C.t _ hw) d (k H locs ls hP hS hl)
theorem j_ldc_w (C : Cx ω κ cc nL own ret) {i : Nat} {v : Int32} (hw : Cond.constant own i v ∈ gtbl) (d : decode cc pc = .ok (.ldc_w i, 3)) (k : J ω κ n nL (pc + 3) L (.int v :: st) σ) : J ω κ n nL pc L st σ := fun H locs ls hP hS hl => lv_ldcw C.x C.b C.o (C.t _ hw) d (k H locs ls hP hS hl)
theorem j_ldc2_w (C : Cx ω κ cc nL own ret) {i : Nat} {v : Int64} (hw : Cond.constantLong own i v ∈ gtbl) (d : decode cc pc = .ok (.ldc2_w i, 3)) (k : J ω κ n nL (pc + 3) L (.long v :: st) σ) : J ω κ n nL pc L st σ := fun H locs ls hP hS hl => lv_ldc2 C.x C.b C.o (C.t _ hw) d (k H locs ls hP hS hl)
theorem j_ldcS (C : Cx ω κ cc nL own ret) {i q : Nat} {tx : String} (j : Nat) (hj : j < 13) (e : strOwn.getD j default = (own, i, tx)) (d : decode cc pc = .ok (.ldc i, 2)) (k : J ω κ n nL (pc + 2) L (.ref (wK ω j) :: st) σ) : J ω κ n nL pc L st σ := fun H locs ls hP hS hl => va_ldcS C.x C.b C.o (by have h := C.S.2.2.2.2.1 j hj; rw [e] at h; exact h) d (k H locs ls hP hS hl)
theorem j_null (C : Cx ω κ cc nL own ret) (d : decode cc pc = .ok (.aconst_null, 1)) (k : J ω κ n nL (pc + 1) L (.null :: st) σ) : J ω κ n nL pc L st σ := fun H locs ls hP hS hl => lv_null C.x C.b d (k H locs ls hP hS hl)
theorem j_iload_n (C : Cx ω κ cc nL own ret) {f : Fin 4} {x : Int32} (j : Nat) (d : decode cc pc = .ok (.iload_n f, 1)) (e : L[j]? = some ((f : Nat), .int x)) (k : J ω κ n nL (pc + 1) L (.int x :: st) σ) : J ω κ n nL pc L st σ := fun H locs ls hP hS hl => lv_iload_n C.x C.b d rfl (lv_at hl j e) (k H locs ls hP hS hl)
theorem j_iload (C : Cx ω κ cc nL own ret) {i : Nat} {x : Int32} (j : Nat) (d : decode cc pc = .ok (.iload i, 2)) (e : L[j]? = some (i, .int x)) (k : J ω κ n nL (pc + 2) L (.int x :: st) σ) : J ω κ n nL pc L st σ := fun H locs ls hP hS hl => lv_iload C.x C.b d (lv_at hl j e) (k H locs ls hP hS hl)
theorem j_lload_n (C : Cx ω κ cc nL own ret) {f : Fin 4} {x : Int64} (j : Nat) (d : decode cc pc = .ok (.lload_n f, 1)) (e : L[j]? = some ((f : Nat), .long x)) (k : J ω κ n nL (pc + 1) L (.long x :: st) σ) : J ω κ n nL pc L st σ := fun H locs ls hP hS hl => lv_lload_n C.x C.b d rfl (lv_at hl j e) (k H locs ls hP hS hl)
theorem j_lload (C : Cx ω κ cc nL own ret) {i : Nat} {x : Int64} (j : Nat) (d : decode cc pc = .ok (.lload i, 2)) (e : L[j]? = some (i, .long x)) (k : J ω κ n nL (pc + 2) L (.long x :: st) σ) : J ω κ n nL pc L st σ := fun H locs ls hP hS hl => lv_lload C.x C.b d (lv_at hl j e) (k H locs ls hP hS hl)
theorem j_aload_n (C : Cx ω κ cc nL own ret) {f : Fin 4} {x : Nat} (j : Nat) (d : decode cc pc = .ok (.aload_n f, 1)) (e : L[j]? = some ((f : Nat), .ref x)) (k : J ω κ n nL (pc + 1) L (.ref x :: st) σ) : J ω κ n nL pc L st σ := fun H locs ls hP hS hl => lv_aload_n C.x C.b d rfl (lv_at hl j e) (k H locs ls hP hS hl)
theorem j_aload (C : Cx ω κ cc nL own ret) {i : Nat} {x : Nat} (j : Nat) (d : decode cc pc = .ok (.aload i, 2)) (e : L[j]? = some (i, .ref x)) (k : J ω κ n nL (pc + 2) L (.ref x :: st) σ) : J ω κ n nL pc L st σ := fun H locs ls hP hS hl => lv_aload C.x C.b d (lv_at hl j e) (k H locs ls hP hS hl)
theorem j_aload_nN (C : Cx ω κ cc nL own ret) {f : Fin 4} (j : Nat) (d : decode cc pc = .ok (.aload_n f, 1)) (e : L[j]? = some ((f : Nat), .null)) (k : J ω κ n nL (pc + 1) L (.null :: st) σ) : J ω κ n nL pc L st σ := fun H locs ls hP hS hl => lv_aload_nN C.x C.b d rfl (lv_at hl j e) (k H locs ls hP hS hl)
theorem j_aloadN (C : Cx ω κ cc nL own ret) {i : Nat} (j : Nat) (d : decode cc pc = .ok (.aload i, 2)) (e : L[j]? = some (i, .null)) (k : J ω κ n nL (pc + 2) L (.null :: st) σ) : J ω κ n nL pc L st σ := fun H locs ls hP hS hl => lv_aloadN C.x C.b d (lv_at hl j e) (k H locs ls hP hS hl)
theorem j_istore_n (C : Cx ω κ cc nL own ret) {f : Fin 4} {i : Nat} {x : Int32} {L' : List (Nat × Value)} (d : decode cc pc = .ok (.istore_n f, 1)) (hi : (f : Nat) = i) (hn : Nat.blt i nL = true) (e : (i, Value.int x) :: L.filter (fun q => !(q.1 == i) && !(q.1 + 1 == i && q.2.category == 2)) = L') (k : J ω κ n nL (pc + 1) L' st σ) : J ω κ n nL pc L (Value.int x :: st) σ := fun H locs ls hP hS hl => lv_istore_n C.x C.b d hi hl (Nat.le_of_ble_eq_true hn) e (fun ls hl => (k H locs ls hP hS hl))
theorem j_istore (C : Cx ω κ cc nL own ret) {i : Nat} {x : Int32} {L' : List (Nat × Value)} (d : decode cc pc = .ok (.istore i, 2)) (hn : Nat.blt i nL = true) (e : (i, Value.int x) :: L.filter (fun q => !(q.1 == i) && !(q.1 + 1 == i && q.2.category == 2)) = L') (k : J ω κ n nL (pc + 2) L' st σ) : J ω κ n nL pc L (Value.int x :: st) σ := fun H locs ls hP hS hl => lv_istore C.x C.b d hl (Nat.le_of_ble_eq_true hn) e (fun ls hl => (k H locs ls hP hS hl))
theorem j_lstore_n (C : Cx ω κ cc nL own ret) {f : Fin 4} {i : Nat} {x : Int64} {L' : List (Nat × Value)} (d : decode cc pc = .ok (.lstore_n f, 1)) (hi : (f : Nat) = i) (hn : Nat.blt (i + 1) nL = true) (e : (i, Value.long x) :: L.filter (fun q => !(q.1 == i) && (!(q.1 == i + 1) && !(q.1 + 1 == i && q.2.category == 2))) = L') (k : J ω κ n nL (pc + 1) L' st σ) : J ω κ n nL pc L (Value.long x :: st) σ := fun H locs ls hP hS hl => lv_lstore_n C.x C.b d hi hl (Nat.le_of_ble_eq_true hn) e (fun ls hl => (k H locs ls hP hS hl))
theorem j_lstore (C : Cx ω κ cc nL own ret) {i : Nat} {x : Int64} {L' : List (Nat × Value)} (d : decode cc pc = .ok (.lstore i, 2)) (hn : Nat.blt (i + 1) nL = true) (e : (i, Value.long x) :: L.filter (fun q => !(q.1 == i) && (!(q.1 == i + 1) && !(q.1 + 1 == i && q.2.category == 2))) = L') (k : J ω κ n nL (pc + 2) L' st σ) : J ω κ n nL pc L (Value.long x :: st) σ := fun H locs ls hP hS hl => lv_lstore C.x C.b d hl (Nat.le_of_ble_eq_true hn) e (fun ls hl => (k H locs ls hP hS hl))
theorem j_astore_n (C : Cx ω κ cc nL own ret) {f : Fin 4} {i : Nat} {x : Nat} {L' : List (Nat × Value)} (d : decode cc pc = .ok (.astore_n f, 1)) (hi : (f : Nat) = i) (hn : Nat.blt i nL = true) (e : (i, Value.ref x) :: L.filter (fun q => !(q.1 == i) && !(q.1 + 1 == i && q.2.category == 2)) = L') (k : J ω κ n nL (pc + 1) L' st σ) : J ω κ n nL pc L (Value.ref x :: st) σ := fun H locs ls hP hS hl => lv_astore_n C.x C.b d hi hl (Nat.le_of_ble_eq_true hn) e (fun ls hl => (k H locs ls hP hS hl))
theorem j_astore (C : Cx ω κ cc nL own ret) {i : Nat} {x : Nat} {L' : List (Nat × Value)} (d : decode cc pc = .ok (.astore i, 2)) (hn : Nat.blt i nL = true) (e : (i, Value.ref x) :: L.filter (fun q => !(q.1 == i) && !(q.1 + 1 == i && q.2.category == 2)) = L') (k : J ω κ n nL (pc + 2) L' st σ) : J ω κ n nL pc L (Value.ref x :: st) σ := fun H locs ls hP hS hl => lv_astore C.x C.b d hl (Nat.le_of_ble_eq_true hn) e (fun ls hl => (k H locs ls hP hS hl))
theorem j_astore_nN (C : Cx ω κ cc nL own ret) {f : Fin 4} {i : Nat} {L' : List (Nat × Value)} (d : decode cc pc = .ok (.astore_n f, 1)) (hi : (f : Nat) = i) (hn : Nat.blt i nL = true) (e : (i, Value.null) :: L.filter (fun q => !(q.1 == i) && !(q.1 + 1 == i && q.2.category == 2)) = L') (k : J ω κ n nL (pc + 1) L' st σ) : J ω κ n nL pc L (Value.null :: st) σ := fun H locs ls hP hS hl => lv_astore_nN C.x C.b d hi hl (Nat.le_of_ble_eq_true hn) e (fun ls hl => (k H locs ls hP hS hl))
theorem j_astoreN (C : Cx ω κ cc nL own ret) {i : Nat} {L' : List (Nat × Value)} (d : decode cc pc = .ok (.astore i, 2)) (hn : Nat.blt i nL = true) (e : (i, Value.null) :: L.filter (fun q => !(q.1 == i) && !(q.1 + 1 == i && q.2.category == 2)) = L') (k : J ω κ n nL (pc + 2) L' st σ) : J ω κ n nL pc L (Value.null :: st) σ := fun H locs ls hP hS hl => lv_astoreN C.x C.b d hl (Nat.le_of_ble_eq_true hn) e (fun ls hl => (k H locs ls hP hS hl))
theorem j_iinc (C : Cx ω κ cc nL own ret) {i : Nat} {z : Int} {x v : Int32} {L' : List (Nat × Value)} (j : Nat) (d : decode cc pc = .ok (.iinc i z, 3)) (ej : L[j]? = some (i, .int x)) (hv : x + Int32.ofInt z = v) (hn : Nat.blt i nL = true) (e : (i, Value.int v) :: L.filter (fun q => !(q.1 == i) && !(q.1 + 1 == i && q.2.category == 2)) = L') (k : J ω κ n nL (pc + 3) L' st σ) : J ω κ n nL pc L st σ := fun H locs ls hP hS hl => lv_iinc C.x C.b d hl ej hv (Nat.le_of_ble_eq_true hn) e (fun ls hl => (k H locs ls hP hS hl))
theorem j_iadd (C : Cx ω κ cc nL own ret) {x y : Int32} (d : decode cc pc = .ok (.iadd, 1)) (k : J ω κ n nL (pc + 1) L (.int (x + y) :: st) σ) : J ω κ n nL pc L (.int y :: .int x :: st) σ := fun H locs ls hP hS hl => lv_iadd C.x C.b d (k H locs ls hP hS hl)
theorem j_isub (C : Cx ω κ cc nL own ret) {x y : Int32} (d : decode cc pc = .ok (.isub, 1)) (k : J ω κ n nL (pc + 1) L (.int (x - y) :: st) σ) : J ω κ n nL pc L (.int y :: .int x :: st) σ := fun H locs ls hP hS hl => lv_isub C.x C.b d (k H locs ls hP hS hl)
theorem j_imul (C : Cx ω κ cc nL own ret) {x y : Int32} (d : decode cc pc = .ok (.imul, 1)) (k : J ω κ n nL (pc + 1) L (.int (x * y) :: st) σ) : J ω κ n nL pc L (.int y :: .int x :: st) σ := fun H locs ls hP hS hl => lv_imul C.x C.b d (k H locs ls hP hS hl)
theorem j_iand (C : Cx ω κ cc nL own ret) {x y : Int32} (d : decode cc pc = .ok (.iand, 1)) (k : J ω κ n nL (pc + 1) L (.int (x &&& y) :: st) σ) : J ω κ n nL pc L (.int y :: .int x :: st) σ := fun H locs ls hP hS hl => lv_iand C.x C.b d (k H locs ls hP hS hl)
theorem j_ior (C : Cx ω κ cc nL own ret) {x y : Int32} (d : decode cc pc = .ok (.ior, 1)) (k : J ω κ n nL (pc + 1) L (.int (x ||| y) :: st) σ) : J ω κ n nL pc L (.int y :: .int x :: st) σ := fun H locs ls hP hS hl => lv_ior C.x C.b d (k H locs ls hP hS hl)
theorem j_ixor (C : Cx ω κ cc nL own ret) {x y : Int32} (d : decode cc pc = .ok (.ixor, 1)) (k : J ω κ n nL (pc + 1) L (.int (x ^^^ y) :: st) σ) : J ω κ n nL pc L (.int y :: .int x :: st) σ := fun H locs ls hP hS hl => lv_ixor C.x C.b d (k H locs ls hP hS hl)
theorem j_ishl (C : Cx ω κ cc nL own ret) {x y : Int32} (d : decode cc pc = .ok (.ishl, 1)) (k : J ω κ n nL (pc + 1) L (.int (x <<< (y &&& 31)) :: st) σ) : J ω κ n nL pc L (.int y :: .int x :: st) σ := fun H locs ls hP hS hl => lv_ishl C.x C.b d (k H locs ls hP hS hl)
theorem j_ishr (C : Cx ω κ cc nL own ret) {x y : Int32} (d : decode cc pc = .ok (.ishr, 1)) (k : J ω κ n nL (pc + 1) L (.int (x >>> (y &&& 31)) :: st) σ) : J ω κ n nL pc L (.int y :: .int x :: st) σ := fun H locs ls hP hS hl => lv_ishr C.x C.b d (k H locs ls hP hS hl)
theorem j_iushr (C : Cx ω κ cc nL own ret) {x y : Int32} (d : decode cc pc = .ok (.iushr, 1)) (k : J ω κ n nL (pc + 1) L (.int ((x.toUInt32 >>> (y.toUInt32 &&& Int32.toUInt32 31)).toInt32) :: st) σ) : J ω κ n nL pc L (.int y :: .int x :: st) σ := fun H locs ls hP hS hl => lv_iushr C.x C.b d rfl (k H locs ls hP hS hl)
theorem j_idiv (C : Cx ω κ cc nL own ret) {x y : Int32} (d : decode cc pc = .ok (.idiv, 1)) (h0 : ¬ y = 0) (k : J ω κ n nL (pc + 1) L (.int (x / y) :: st) σ) : J ω κ n nL pc L (.int y :: .int x :: st) σ := fun H locs ls hP hS hl => lv_idiv C.x C.b d h0 (k H locs ls hP hS hl)
theorem j_irem (C : Cx ω κ cc nL own ret) {x y : Int32} (d : decode cc pc = .ok (.irem, 1)) (h0 : ¬ y = 0) (k : J ω κ n nL (pc + 1) L (.int (x - x / y * y) :: st) σ) : J ω κ n nL pc L (.int y :: .int x :: st) σ := fun H locs ls hP hS hl => lv_irem C.x C.b d h0 (k H locs ls hP hS hl)
theorem j_ladd (C : Cx ω κ cc nL own ret) {x y : Int64} (d : decode cc pc = .ok (.ladd, 1)) (k : J ω κ n nL (pc + 1) L (.long (x + y) :: st) σ) : J ω κ n nL pc L (.long y :: .long x :: st) σ := fun H locs ls hP hS hl => lv_ladd C.x C.b d (k H locs ls hP hS hl)
theorem j_lmul (C : Cx ω κ cc nL own ret) {x y : Int64} (d : decode cc pc = .ok (.lmul, 1)) (k : J ω κ n nL (pc + 1) L (.long (x * y) :: st) σ) : J ω κ n nL pc L (.long y :: .long x :: st) σ := fun H locs ls hP hS hl => lv_lmul C.x C.b d (k H locs ls hP hS hl)
theorem j_ldiv (C : Cx ω κ cc nL own ret) {x y : Int64} (d : decode cc pc = .ok (.ldiv, 1)) (h0 : ¬ y = 0) (k : J ω κ n nL (pc + 1) L (.long (x / y) :: st) σ) : J ω κ n nL pc L (.long y :: .long x :: st) σ := fun H locs ls hP hS hl => lv_ldiv C.x C.b d h0 (k H locs ls hP hS hl)
theorem j_lrem (C : Cx ω κ cc nL own ret) {x y : Int64} (d : decode cc pc = .ok (.lrem, 1)) (h0 : ¬ y = 0) (k : J ω κ n nL (pc + 1) L (.long (x - x / y * y) :: st) σ) : J ω κ n nL pc L (.long y :: .long x :: st) σ := fun H locs ls hP hS hl => lv_lrem C.x C.b d h0 (k H locs ls hP hS hl)
theorem j_lcmp (C : Cx ω κ cc nL own ret) {x y : Int64} (d : decode cc pc = .ok (.lcmp, 1)) (k : J ω κ n nL (pc + 1) L (.int (lg_cmp x y) :: st) σ) : J ω κ n nL pc L (.long y :: .long x :: st) σ := fun H locs ls hP hS hl => W.lcmp C.x C.b d (k H locs ls hP hS hl)
theorem j_ineg (C : Cx ω κ cc nL own ret) {x : Int32} (d : decode cc pc = .ok (.ineg, 1)) (k : J ω κ n nL (pc + 1) L (.int (-x) :: st) σ) : J ω κ n nL pc L (.int x :: st) σ := fun H locs ls hP hS hl => lv_ineg C.x C.b d (k H locs ls hP hS hl)
theorem j_i2l (C : Cx ω κ cc nL own ret) {x : Int32} (d : decode cc pc = .ok (.i2l, 1)) (k : J ω κ n nL (pc + 1) L (.long (x.toInt64) :: st) σ) : J ω κ n nL pc L (.int x :: st) σ := fun H locs ls hP hS hl => lv_i2l C.x C.b d rfl (k H locs ls hP hS hl)
theorem j_l2i (C : Cx ω κ cc nL own ret) {x : Int64} (d : decode cc pc = .ok (.l2i, 1)) (k : J ω κ n nL (pc + 1) L (.int (x.toInt32) :: st) σ) : J ω κ n nL pc L (.long x :: st) σ := fun H locs ls hP hS hl => lv_l2i C.x C.b d rfl (k H locs ls hP hS hl)
theorem j_i2b (C : Cx ω κ cc nL own ret) {x : Int32} (d : decode cc pc = .ok (.i2b, 1)) (k : J ω κ n nL (pc + 1) L (.int (x.toInt8.toInt32) :: st) σ) : J ω κ n nL pc L (.int x :: st) σ := fun H locs ls hP hS hl => lv_i2b C.x C.b d rfl (k H locs ls hP hS hl)
theorem j_i2s (C : Cx ω κ cc nL own ret) {x : Int32} (d : decode cc pc = .ok (.i2s, 1)) (k : J ω κ n nL (pc + 1) L (.int (x.toInt16.toInt32) :: st) σ) : J ω κ n nL pc L (.int x :: st) σ := fun H locs ls hP hS hl => lv_i2s C.x C.b d rfl (k H locs ls hP hS hl)
theorem j_dup (C : Cx ω κ cc nL own ret) {a : Value} (d : decode cc pc = .ok (.dup, 1)) (ha : a.category = 1) (k : J ω κ n nL (pc + 1) L (a :: a :: st) σ) : J ω κ n nL pc L (a :: st) σ := fun H locs ls hP hS hl => lv_dup C.x C.b d ha (k H locs ls hP hS hl)
theorem j_dup_x1 (C : Cx ω κ cc nL own ret) {a b : Value} (d : decode cc pc = .ok (.dup_x1, 1)) (ha : a.category = 1) (hb : b.category = 1) (k : J ω κ n nL (pc + 1) L (a :: b :: a :: st) σ) : J ω κ n nL pc L (a :: b :: st) σ := fun H locs ls hP hS hl => lv_dup_x1 C.x C.b d ha hb (k H locs ls hP hS hl)
theorem j_dup2 (C : Cx ω κ cc nL own ret) {a b : Value} (d : decode cc pc = .ok (.dup2, 1)) (ha : a.category = 1) (hb : b.category = 1) (k : J ω κ n nL (pc + 1) L (a :: b :: a :: b :: st) σ) : J ω κ n nL pc L (a :: b :: st) σ := fun H locs ls hP hS hl => lv_dup2_11 C.x C.b d ha hb (k H locs ls hP hS hl)
theorem j_pop (C : Cx ω κ cc nL own ret) {a : Value} (d : decode cc pc = .ok (.pop, 1)) (ha : a.category = 1) (k : J ω κ n nL (pc + 1) L st σ) : J ω κ n nL pc L (a :: st) σ := fun H locs ls hP hS hl => lv_pop C.x C.b d ha (k H locs ls hP hS hl)
theorem j_goto (C : Cx ω κ cc nL own ret) {off : Int} {tgt : Nat} (d : decode cc pc = .ok (.goto off, 3)) (ht : (pc : Int) + off = (tgt : Int)) (k : J ω κ n nL tgt L st σ) : J ω κ n nL pc L st σ := fun H locs ls hP hS hl => lv_goto C.x C.b d ht (k H locs ls hP hS hl)
theorem j_icmp_eq (C : Cx ω κ cc nL own ret) {x y : Int32} {off : Int} {tgt : Nat} (d : decode cc pc = .ok (.if_icmp .eq off, 3)) (ht : (pc : Int) + off = (tgt : Int)) (kt : x = y → J ω κ n nL tgt L st σ) (kf : ¬ x = y → J ω κ n nL (pc + 3) L st σ) : J ω κ n nL pc L (.int y :: .int x :: st) σ := fun H locs ls hP hS hl => lv_icmp_eq C.x C.b d ht (fun z => kt z H locs ls hP hS hl) (fun z => kf z H locs ls hP hS hl)
theorem j_icmp_ne (C : Cx ω κ cc nL own ret) {x y : Int32} {off : Int} {tgt : Nat} (d : decode cc pc = .ok (.if_icmp .ne off, 3)) (ht : (pc : Int) + off = (tgt : Int)) (kt : ¬ x = y → J ω κ n nL tgt L st σ) (kf : x = y → J ω κ n nL (pc + 3) L st σ) : J ω κ n nL pc L (.int y :: .int x :: st) σ := fun H locs ls hP hS hl => lv_icmp_ne C.x C.b d ht (fun z => kt z H locs ls hP hS hl) (fun z => kf z H locs ls hP hS hl)
theorem j_icmp_lt (C : Cx ω κ cc nL own ret) {x y : Int32} {off : Int} {tgt : Nat} (d : decode cc pc = .ok (.if_icmp .lt off, 3)) (ht : (pc : Int) + off = (tgt : Int)) (kt : x < y → J ω κ n nL tgt L st σ) (kf : ¬ x < y → J ω κ n nL (pc + 3) L st σ) : J ω κ n nL pc L (.int y :: .int x :: st) σ := fun H locs ls hP hS hl => lv_icmp_lt C.x C.b d ht (fun z => kt z H locs ls hP hS hl) (fun z => kf z H locs ls hP hS hl)
theorem j_icmp_ge (C : Cx ω κ cc nL own ret) {x y : Int32} {off : Int} {tgt : Nat} (d : decode cc pc = .ok (.if_icmp .ge off, 3)) (ht : (pc : Int) + off = (tgt : Int)) (kt : y ≤ x → J ω κ n nL tgt L st σ) (kf : ¬ y ≤ x → J ω κ n nL (pc + 3) L st σ) : J ω κ n nL pc L (.int y :: .int x :: st) σ := fun H locs ls hP hS hl => lv_icmp_ge C.x C.b d ht (fun z => kt z H locs ls hP hS hl) (fun z => kf z H locs ls hP hS hl)
theorem j_icmp_gt (C : Cx ω κ cc nL own ret) {x y : Int32} {off : Int} {tgt : Nat} (d : decode cc pc = .ok (.if_icmp .gt off, 3)) (ht : (pc : Int) + off = (tgt : Int)) (kt : y < x → J ω κ n nL tgt L st σ) (kf : ¬ y < x → J ω κ n nL (pc + 3) L st σ) : J ω κ n nL pc L (.int y :: .int x :: st) σ := fun H locs ls hP hS hl => lv_icmp_gt C.x C.b d ht (fun z => kt z H locs ls hP hS hl) (fun z => kf z H locs ls hP hS hl)
theorem j_icmp_le (C : Cx ω κ cc nL own ret) {x y : Int32} {off : Int} {tgt : Nat} (d : decode cc pc = .ok (.if_icmp .le off, 3)) (ht : (pc : Int) + off = (tgt : Int)) (kt : x ≤ y → J ω κ n nL tgt L st σ) (kf : ¬ x ≤ y → J ω κ n nL (pc + 3) L st σ) : J ω κ n nL pc L (.int y :: .int x :: st) σ := fun H locs ls hP hS hl => lv_icmp_le C.x C.b d ht (fun z => kt z H locs ls hP hS hl) (fun z => kf z H locs ls hP hS hl)
theorem j_if_eq (C : Cx ω κ cc nL own ret) {x : Int32} {off : Int} {tgt : Nat} (d : decode cc pc = .ok (.ifCond .eq off, 3)) (ht : (pc : Int) + off = (tgt : Int)) (kt : x = 0 → J ω κ n nL tgt L st σ) (kf : ¬ x = 0 → J ω κ n nL (pc + 3) L st σ) : J ω κ n nL pc L (.int x :: st) σ := fun H locs ls hP hS hl => lv_if_eq C.x C.b d ht (fun z => kt z H locs ls hP hS hl) (fun z => kf z H locs ls hP hS hl)
theorem j_if_ne (C : Cx ω κ cc nL own ret) {x : Int32} {off : Int} {tgt : Nat} (d : decode cc pc = .ok (.ifCond .ne off, 3)) (ht : (pc : Int) + off = (tgt : Int)) (kt : ¬ x = 0 → J ω κ n nL tgt L st σ) (kf : x = 0 → J ω κ n nL (pc + 3) L st σ) : J ω κ n nL pc L (.int x :: st) σ := fun H locs ls hP hS hl => lv_if_ne C.x C.b d ht (fun z => kt z H locs ls hP hS hl) (fun z => kf z H locs ls hP hS hl)
theorem j_if_lt (C : Cx ω κ cc nL own ret) {x : Int32} {off : Int} {tgt : Nat} (d : decode cc pc = .ok (.ifCond .lt off, 3)) (ht : (pc : Int) + off = (tgt : Int)) (kt : x < 0 → J ω κ n nL tgt L st σ) (kf : ¬ x < 0 → J ω κ n nL (pc + 3) L st σ) : J ω κ n nL pc L (.int x :: st) σ := fun H locs ls hP hS hl => lv_if_lt C.x C.b d ht (fun z => kt z H locs ls hP hS hl) (fun z => kf z H locs ls hP hS hl)
theorem j_if_ge (C : Cx ω κ cc nL own ret) {x : Int32} {off : Int} {tgt : Nat} (d : decode cc pc = .ok (.ifCond .ge off, 3)) (ht : (pc : Int) + off = (tgt : Int)) (kt : 0 ≤ x → J ω κ n nL tgt L st σ) (kf : ¬ 0 ≤ x → J ω κ n nL (pc + 3) L st σ) : J ω κ n nL pc L (.int x :: st) σ := fun H locs ls hP hS hl => lv_if_ge C.x C.b d ht (fun z => kt z H locs ls hP hS hl) (fun z => kf z H locs ls hP hS hl)
theorem j_if_gt (C : Cx ω κ cc nL own ret) {x : Int32} {off : Int} {tgt : Nat} (d : decode cc pc = .ok (.ifCond .gt off, 3)) (ht : (pc : Int) + off = (tgt : Int)) (kt : 0 < x → J ω κ n nL tgt L st σ) (kf : ¬ 0 < x → J ω κ n nL (pc + 3) L st σ) : J ω κ n nL pc L (.int x :: st) σ := fun H locs ls hP hS hl => lv_if_gt C.x C.b d ht (fun z => kt z H locs ls hP hS hl) (fun z => kf z H locs ls hP hS hl)
theorem j_if_le (C : Cx ω κ cc nL own ret) {x : Int32} {off : Int} {tgt : Nat} (d : decode cc pc = .ok (.ifCond .le off, 3)) (ht : (pc : Int) + off = (tgt : Int)) (kt : x ≤ 0 → J ω κ n nL tgt L st σ) (kf : ¬ x ≤ 0 → J ω κ n nL (pc + 3) L st σ) : J ω κ n nL pc L (.int x :: st) σ := fun H locs ls hP hS hl => lv_if_le C.x C.b d ht (fun z => kt z H locs ls hP hS hl) (fun z => kf z H locs ls hP hS hl)
theorem j_ifnull (C : Cx ω κ cc nL own ret) {x : Nat} {off : Int} (d : decode cc pc = .ok (.ifnull off, 3)) (k : J ω κ n nL (pc + 3) L st σ) : J ω κ n nL pc L (.ref x :: st) σ := fun H locs ls hP hS hl => lv_ifnull C.x C.b d (k H locs ls hP hS hl)
theorem j_ifnullN (C : Cx ω κ cc nL own ret) {off : Int} {tgt : Nat} (d : decode cc pc = .ok (.ifnull off, 3)) (ht : (pc : Int) + off = (tgt : Int)) (k : J ω κ n nL tgt L st σ) : J ω κ n nL pc L (.null :: st) σ := fun H locs ls hP hS hl => lv_ifnullN C.x C.b d ht (k H locs ls hP hS hl)
theorem j_ifnonnull (C : Cx ω κ cc nL own ret) {x : Nat} {off : Int} {tgt : Nat} (d : decode cc pc = .ok (.ifnonnull off, 3)) (ht : (pc : Int) + off = (tgt : Int)) (k : J ω κ n nL tgt L st σ) : J ω κ n nL pc L (.ref x :: st) σ := fun H locs ls hP hS hl => lv_ifnonnull C.x C.b d ht (k H locs ls hP hS hl)
theorem j_ifnonnullN (C : Cx ω κ cc nL own ret) {off : Int} (d : decode cc pc = .ok (.ifnonnull off, 3)) (k : J ω κ n nL (pc + 3) L st σ) : J ω κ n nL pc L (.null :: st) σ := fun H locs ls hP hS hl => lv_ifnonnullN C.x C.b d (k H locs ls hP hS hl)
theorem j_tableIn (C : Cx ω κ cc nL own ret) {dflt lo hi : Int} {offs : Array Int} {len : Nat} {x : Int32} {off : Int} {tgt : Nat} (d : decode cc pc = .ok (.tableswitch dflt lo hi offs, len)) (h1 : ¬ x.toInt < lo) (h2 : ¬ hi < x.toInt) (ho : offs[(x.toInt - lo).toNat]? = some off) (ht : (pc : Int) + off = (tgt : Int)) (k : J ω κ n nL tgt L st σ) : J ω κ n nL pc L (.int x :: st) σ := fun H locs ls hP hS hl => lv_tableIn C.x C.b d h1 h2 ho ht (k H locs ls hP hS hl)
theorem j_tableOut (C : Cx ω κ cc nL own ret) {dflt lo hi : Int} {offs : Array Int} {len : Nat} {x : Int32} {tgt : Nat} (d : decode cc pc = .ok (.tableswitch dflt lo hi offs, len)) (h : x.toInt < lo ∨ hi < x.toInt) (ht : (pc : Int) + dflt = (tgt : Int)) (k : J ω κ n nL tgt L st σ) : J ω κ n nL pc L (.int x :: st) σ := fun H locs ls hP hS hl => lv_tableOut C.x C.b d h ht (k H locs ls hP hS hl)
theorem j_lookup (C : Cx ω κ cc nL own ret) {dflt : Int} {ps : Array (Int × Int)} {len : Nat} {x : Int32} {off : Int} {tgt : Nat} (d : decode cc pc = .ok (.lookupswitch dflt ps, len)) (hp : (ps.toList.zip (ps.toList.drop 1)).all (fun (a, next) => a.1 < next.1) = true) (ho : Op.lookupswitch.offset ps.toList dflt x.toInt = off) (ht : (pc : Int) + off = (tgt : Int)) (k : J ω κ n nL tgt L st σ) : J ω κ n nL pc L (.int x :: st) σ := fun H locs ls hP hS hl => lv_lookup C.x C.b d hp ho ht (k H locs ls hP hS hl)
theorem j_geti (C : Cx ω κ cc nL own ret) {o j ci N i : Nat} {T : u_T} {Cn : String} (hin : ∀ w ∈ u_ws Cn T N, w ∈ gtbl) (hc : vwCl[ci]? = some (Cn, T, N)) (hci : ci + 2 ≠ 99) (hsh : wsh ω o = (ci + 2, N)) (hj : Nat.blt j N = true) (hfk : fk ci j = false) (hlk : Cond.fieldLink own i (T j).1 (T j).2.1 (T j).2.2.1 ∈ gtbl) (d : decode cc pc = .ok (.getfield i, 3)) (k : J ω κ n nL (pc + 3) L (.int (σ o j) :: st) σ) : J ω κ n nL pc L (.ref (wad ω o) :: st) σ := fun H locs ls hP hS hl =>
  va_get C.x C.b C.t hin C.o C.K hP o (by rw [wld_at ω σ (C.I.lt hsh hci), celle_o hsh]) hc j (Nat.le_of_ble_eq_true hj) (C.t _ hlk) (fun _ h => h) (by rw [List.getElem?_map, List.getElem?_range (Nat.le_of_ble_eq_true hj)]; simp [cellf, hsh, hfk]) d (k H locs ls hP hS hl)
theorem j_getr (C : Cx ω κ cc nL own ret) {o j ci N i : Nat} {T : u_T} {Cn : String} (hin : ∀ w ∈ u_ws Cn T N, w ∈ gtbl) (hc : vwCl[ci]? = some (Cn, T, N)) (hci : ci + 2 ≠ 99) (hsh : wsh ω o = (ci + 2, N)) (hj : Nat.blt j N = true) (hfk : fk ci j = true) (hlk : Cond.fieldLink own i (T j).1 (T j).2.1 (T j).2.2.1 ∈ gtbl) (d : decode cc pc = .ok (.getfield i, 3)) {o' : Nat} (ho' : wrf ω o j = o') (k : J ω κ n nL (pc + 3) L (.ref (wad ω o') :: st) σ) : J ω κ n nL pc L (.ref (wad ω o) :: st) σ := fun H locs ls hP hS hl =>
  va_get C.x C.b C.t hin C.o C.K hP o (by rw [wld_at ω σ (C.I.lt hsh hci), celle_o hsh]) hc j (Nat.le_of_ble_eq_true hj) (C.t _ hlk) (fun _ h => h) (by rw [List.getElem?_map, List.getElem?_range (Nat.le_of_ble_eq_true hj)]; simp [cellf, hsh, hfk, ho']) d (k H locs ls hP hS hl)
theorem set_cellf {ω : WT} {σ : M2} {o j ci N : Nat} {x : Int32} (hsh : wsh ω o = (ci + 2, N)) (hj : j < N) (hfk : fk ci j = false) : ((List.range N).map (cellf ω σ o)).set j (.int x) = (List.range N).map (cellf ω (up σ o j x) o) := by
  apply List.ext_getElem?
  intro q
  by_cases hq : q < N
  · rw [List.getElem?_map, List.getElem?_range hq]
    by_cases hqj : q = j
    · subst hqj
      rw [List.getElem?_set_self (by simpa using hq)]
      simp [cellf, hsh, hfk, up, upd]
    · rw [List.getElem?_set_ne (Ne.symm hqj), List.getElem?_map, List.getElem?_range hq]
      simp [cellf, up, upd, hqj]
  · rw [List.getElem?_eq_none (by simpa using hq), List.getElem?_eq_none (by simpa using hq)]
theorem j_puti (C : Cx ω κ cc nL own ret) {o j ci N i : Nat} {T : u_T} {Cn : String} {ty0 : Nat → FieldType} {ty : FieldType} {x : Int32} (hin : ∀ w ∈ u_ws Cn T N, w ∈ gtbl) (hty : ∀ k, k < N → parseFieldDescriptor (T k).2.2.1 = some (ty0 k)) (hnm : ∀ a, a < N → ∀ b, b < N → a ≠ b → (T a).2.1 ≠ (T b).2.1) (hc : vwCl[ci]? = some (Cn, T, N)) (hci : ci + 2 ≠ 99) (hsh : wsh ω o = (ci + 2, N)) (hj : Nat.blt j N = true) (hfk : fk ci j = false) (hfin : (T j).2.2.2 = false) (hd : parseFieldDescriptor (T j).2.2.1 = some ty) (hn : narrow ty (.int x) = .int x) (hft : fits ty (.int x) = true) (hlk : Cond.fieldLink own i (T j).1 (T j).2.1 (T j).2.2.1 ∈ gtbl) (d : decode cc pc = .ok (.putfield i, 3)) (k : J ω κ n nL (pc + 3) L st (up σ o j x)) : J ω κ n nL pc L (.int x :: .ref (wad ω o) :: st) σ := by
  intro H locs ls hP hS hl
  have hlt := C.I.lt hsh hci
  have hj' : j < N := Nat.le_of_ble_eq_true hj
  have he := set_cellf (σ := σ) (x := x) hsh hj' hfk
  refine va_put C.x C.b C.t hin ty0 hty hnm C.o C.K hP (C.I.D σ) hS o (by rw [wld_at ω σ hlt, celle_o hsh]) hc j hj' (C.t _ hlk) (fun _ h => h) hfin hd hn hft (by simpa using hj') d (fun H1 locs1 hP1 _ hS1 => ?_)
  rw [he, wld_set hlt (celle_o hsh)] at hP1
  exact k H1 locs1 ls hP1 hS1 hl
theorem j_iaload (C : Cx ω κ cc nL own ret) {o N : Nat} {i : Int32} (hsh : wsh ω o = (0, N)) (hi : vp_in i N) (d : decode cc pc = .ok (.iaload, 1)) (k : J ω κ n nL (pc + 1) L (.int (σ o i.toNatClampNeg) :: st) σ) : J ω κ n nL pc L (.int i :: .ref (wad ω o) :: st) σ := by
  intro H locs ls hP hS hl
  obtain ⟨t, ht⟩ := C.I.2.2.1
  exact va_iald C.x C.b C.K hP o t (by rw [wld_at ω σ (C.I.lt hsh (by decide)), celle_i hsh]) ht hi d (k H locs ls hP hS hl)
theorem j_iastore (C : Cx ω κ cc nL own ret) {o N : Nat} {i x : Int32} (hsh : wsh ω o = (0, N)) (hi : vp_in i N) (d : decode cc pc = .ok (.iastore, 1)) (k : J ω κ n nL (pc + 1) L st (up σ o i.toNatClampNeg x)) : J ω κ n nL pc L (.int x :: .int i :: .ref (wad ω o) :: st) σ := by
  intro H locs ls hP hS hl
  obtain ⟨t, ht⟩ := C.I.2.2.1
  have hlt := C.I.lt hsh (by decide)
  refine va_iast C.x C.b C.K hP (C.I.D σ) hS o t (by rw [wld_at ω σ hlt, celle_i hsh]) ht hi d (fun H1 locs1 hP1 _ hS1 => ?_)
  rw [← up_same, wld_set hlt (celle_i hsh)] at hP1
  exact k H1 locs1 ls hP1 hS1 hl
theorem j_alen (C : Cx ω κ cc nL own ret) {o t N : Nat} {v : Int32} (hsh : wsh ω o = (t, N)) (ht2 : t < 2) (hv : Int32.ofNat N = v) (d : decode cc pc = .ok (.arraylength, 1)) (k : J ω κ n nL (pc + 1) L (.int v :: st) σ) : J ω κ n nL pc L (.ref (wad ω o) :: st) σ := by
  intro H locs ls hP hS hl
  have hlt := C.I.lt hsh (by omega)
  rcases (show t = 0 ∨ t = 1 by omega) with rfl | rfl
  · obtain ⟨t, ht⟩ := C.I.2.2.1
    exact va_alen C.x C.b C.K hP o t (by rw [wld_at ω σ hlt, celle_i hsh]) ht hv d (k H locs ls hP hS hl)
  · obtain ⟨t, ty, ht, -⟩ := C.I.2.2.2 o N hsh
    exact va_alen C.x C.b C.K hP o t (by rw [wld_at ω σ hlt, celle_r hsh]) ht hv d (k H locs ls hP hS hl)
theorem j_aaload (C : Cx ω κ cc nL own ret) {o N : Nat} {i : Int32} (hsh : wsh ω o = (1, N)) (hi : vp_in i N) (d : decode cc pc = .ok (.aaload, 1)) (k : J ω κ n nL (pc + 1) L (.ref (wad ω (wrf ω o i.toNatClampNeg)) :: st) σ) : J ω κ n nL pc L (.int i :: .ref (wad ω o) :: st) σ := by
  intro H locs ls hP hS hl
  obtain ⟨t, ty, ht, hr⟩ := C.I.2.2.2 o N hsh
  have hlt : i.toNatClampNeg < N := Nat.not_le.mp fun q => hi (Or.inr q)
  have hc := hP o (wad ω o, .inl (wcR ω o, N, .inr (.inr (.inr (.inr (fun k => some (wad ω (wrf ω o k)))))))) (by rw [wld_at ω σ (C.I.lt hsh (by decide)), celle_r hsh])
  refine W.aald (v := .ref (wad ω (wrf ω o i.toNatClampNeg))) (ty := ty) C.x C.b hc ((C.K.2 t _ ht).1 N (fun j => va_rf (some (wad ω (wrf ω o j))))) hr (fun q => by cases q) ?_ ?_ rfl rfl d (k H locs ls hP hS hl)
  · show ¬ (i < 0 ∨ (arrV _ _ _).slots.size ≤ _); rw [arrV_size]; exact hi
  · show (arrV _ _ _).slots[_]? = _; rw [arrV_read _ _ hlt]; rfl
theorem j_getsA (C : Cx ω κ cc nL "EveryoneWins$Kinds" ret) {i : Nat} (hlk : Cond.fieldLink "EveryoneWins$Kinds" i "EveryoneWins$Kinds" "ABOVE" "[I" ∈ gtbl) (d : decode cc pc = .ok (.getstatic i, 3)) (k : J ω κ n nL (pc + 3) L (.ref (wT ω) :: st) σ) : J ω κ n nL pc L st σ := fun H locs ls hP hS hl =>
  va_gets C.x C.b C.S.2.1 hS C.o (C.t _ hlk) (fun _ h => h) d (k H locs ls hP hS hl)
theorem j_iret (C : Cx ω κ cc nL own (some .int)) {v : Int32} (e : κ.2.2.2.2.2.2.2.2.2 = (some (.int v), σ)) (d : decode cc pc = .ok (.ireturn, 1)) : J ω κ n nL pc L [.int v] σ := fun H locs ls hP hS hl =>
  W.iret C.x C.b C.r (fun t ht _ => ⟨by rw [e], by rw [ht, e]; exact hP, hS.F ht⟩) hS.2.2 d C.lk
theorem j_zret (C : Cx ω κ cc nL own (some .boolean)) {v : Int32} (e : κ.2.2.2.2.2.2.2.2.2 = (some (.int v), σ)) (hn : narrow .boolean (.int v) = .int v) (d : decode cc pc = .ok (.ireturn, 1)) : J ω κ n nL pc L [.int v] σ := fun H locs ls hP hS hl =>
  W.zret C.x C.b C.r hn (fun t ht _ => ⟨by rw [e], by rw [ht, e]; exact hP, hS.F ht⟩) hS.2.2 d C.lk
theorem j_lret (C : Cx ω κ cc nL own (some .long)) {v : Int64} (e : κ.2.2.2.2.2.2.2.2.2 = (some (.long v), σ)) (d : decode cc pc = .ok (.lreturn, 1)) : J ω κ n nL pc L [.long v] σ := fun H locs ls hP hS hl =>
  W.lret C.x C.b C.r (fun t ht _ => ⟨by rw [e], by rw [ht, e]; exact hP, hS.F ht⟩) hS.2.2 d C.lk
theorem j_vret (C : Cx ω κ cc nL own none) (e : κ.2.2.2.2.2.2.2.2.2 = (none, σ)) (d : decode cc pc = .ok (.return_, 1)) : J ω κ n nL pc L [] σ := fun H locs ls hP hS hl =>
  W.vret C.x C.b C.r (fun t ht _ => ⟨by rw [e], by rw [ht, e]; exact hP, hS.F ht⟩) hS.2.2 d C.lk
theorem j_aret (C : Cx ω κ cc nL own ret) {v : Value} {rt : FieldType} (hret : ret = some rt) (hrt : (∃ n, rt = .object n) ∨ ∃ t, rt = .array t) (hv : v = .null ∨ ∃ a, v = .ref a) (e : κ.2.2.2.2.2.2.2.2.2 = (some v, σ)) (d : decode cc pc = .ok (.areturn, 1)) : J ω κ n nL pc L [v] σ := fun H locs ls hP hS hl =>
  W.aret C.x C.b (C.r.trans hret) hrt hv (fun t ht _ => ⟨by rw [e], by rw [ht, e]; exact hP, hS.F ht⟩) hS.2.2 d C.lk
end ROWS
end
section
/-! rows: calls by contract -/
section CALLS
variable {ω : WT} {κ : KT} {cc : ByteArray} {nL n : Nat} {own : String} {ret : Option FieldType} {pc : Nat} {L : List (Nat × Value)} {st : List Value} {σ : M2}
theorem j_go {v : Option Value} {a : Array Value} {st0 rest : List Value} {σ1 : M2}
    (hr : ∀ (H : Heap) (locs : List Loc) (ls : Array Slot), va_P (wD ω) vwCl (wld ω σ) H → va_S (wA ω) κ.2.2.2.1.heap H locs → lv_has ls nL L → va_Run κ.1 κ.2.1 κ.2.2.1 (rmL n) κ.2.2.2.1 κ.2.2.2.2.1 κ.2.2.2.2.2.1 κ.2.2.2.2.2.2.1 κ.2.2.2.2.2.2.2.1 κ.2.2.2.2.2.2.2.2.1 H locs 0 0 0 0 (F0 κ.2.2.2.2.1 pc ls st0) rest (Qw ω v σ1 a) (wA ω))
    (k : J ω κ n nL (pc + 3) L (v.toList ++ rest) σ1) : J ω κ n nL pc L st0 σ := by
  intro H locs ls hP hS hl T hT X
  obtain ⟨v', st₀, t, T', L', h0, X', hL, e1, e2, ⟨hv, hp, hF⟩, hst⟩ := hr H locs ls hP hS hl T hT X
  cases hv
  obtain ⟨hz, hk⟩ := hF
  rw [h0] at hz hk
  obtain ⟨t2, a1, b1⟩ := k T'.heap (locs ++ L') ls (by rw [e1]; exact hp)
    ⟨Nat.le_trans hS.1 (by rw [e1]; exact hz), fun q h1 h2 => by rw [e1, hk q (Nat.lt_of_lt_of_le h1 hS.1) h2]; exact hS.2.1 q h1 h2, fun q hq => by
      rcases List.mem_append.mp hq with h | h
      · exact hS.2.2 q h
      · exact hL q h⟩ hl T' rfl X'
  exact ⟨t2, hst t2 a1, b1⟩
theorem Cx.pre (C : Cx ω κ cc nL own ret) {as : List Value} {H : Heap} {locs : List Loc} (hP : va_P (wD ω) vwCl (wld ω σ) H) (hS : va_S (wA ω) κ.2.2.2.1.heap H locs) (U : State) (hU : U.heap = H) (hW : κ.2.2.2.1.WarmedH U.vm) : va_Pc as (Pw ω σ) as.toArray U :=
  ⟨rfl, by rw [hU]; exact hP, va_K.moved hW.alike C.K, C.I, C.S.call hS hU hW⟩
def Rm (n' maxL n : Nat) : Prop := n' + 1 ≤ n ∧ maxL ≤ 41
theorem Rm.l {n' maxL n : Nat} (h : Rm n' maxL n) : 8 + (maxL + 11) + (rmL n').locals ≤ (rmL n).locals := by
  obtain ⟨h1, h2⟩ := h
  show 8 + (maxL + 11) + 60 * n' ≤ 60 * n
  omega
theorem Cx.callB (C : Cx ω κ cc nL own ret) {i maxL n' k : Nat} {y : MethodName} {bytes : ByteArray} {r' : Option FieldType} (hR : Rm n' maxL n) (hcode : Cond.code y bytes maxL r' ∈ gtbl) (hini : Cond.initialized y.cls ∈ gtbl) (hlk : Cond.methodLink own i y ∈ gtbl) (hm1 : y.cls ≠ "java/lang/invoke/MethodHandle" ∧ y.cls ≠ "java/lang/invoke/VarHandle" ∧ (parseMethodDescriptor y.desc).map (fun d => d.parameters.length) = some k) : CallB (rmL n) κ.2.2.2.1 κ.2.2.2.2.2.1 own i y bytes maxL r' (.code y bytes maxL r' :: gtbl) (rmL n') 0 0 k :=
  ⟨rfl, rfl, hR.1, hR.l, pay_in C.t (fun w hw => by
    rcases List.mem_cons.mp hw with rfl | h
    · exact gtbl_good gtbl (fun _ h => h) _ hcode
    · exact gtbl_good gtbl (fun _ h => h) _ h), List.mem_cons_self, C.t _ hcode, C.t _ hini, ⟨hm1.1, hm1.2.1⟩, fun sig h => by
      have h2 := hm1.2.2
      rw [h] at h2
      exact (Option.some.inj h2).symm, C.t _ hlk⟩
theorem j_callV (C : Cx ω κ cc nL own ret) {i maxL n' o ci N : Nat} {y : MethodName} {bytes : ByteArray} {r' : Option FieldType} {As rest st0 : List Value} {v : Option Value} {σ1 : M2} {T : u_T} {Cn : String}
    (hM : Ct κ.2.1 ω y bytes maxL r' n' (.ref (wad ω o) :: As) σ v σ1) (hst : st0 = As.reverse ++ .ref (wad ω o) :: rest) (hR : Rm n' maxL n) (hcode : Cond.code y bytes maxL r' ∈ gtbl) (hini : Cond.initialized y.cls ∈ gtbl) (hlk : Cond.methodLink own i y ∈ gtbl) (hin : Cond.instanceMethod y ∈ gtbl) (hsel : Cond.selects Cn y y ∈ gtbl)
    (hm1 : y.cls ≠ "java/lang/invoke/MethodHandle" ∧ y.cls ≠ "java/lang/invoke/VarHandle" ∧ (parseMethodDescriptor y.desc).map (fun d => d.parameters.length) = some As.length) (hc : vwCl[ci]? = some (Cn, T, N)) (hci : ci + 2 ≠ 99) (hsh : wsh ω o = (ci + 2, N)) (hcat : Nat.ble ((rest.map fun v => v.category).sum) 8 = true) (d : decode cc pc = .ok (.invokevirtual i, 3))
    (k : J ω κ n nL (pc + 3) L (v.toList ++ rest) σ1) : J ω κ n nL pc L st0 σ := by
  refine j_go (a := (Value.ref (wad ω o) :: As).toArray) (rest := rest) (fun H locs ls hP hS hl => ?_) k
  exact va_runV (As := As) (n := As.length) (C := Cn) (own := own) (Ts := gtbl) ⟨C.x, C.b, C.ml, C.o, C.t⟩ hM ⟨C.callB hR hcode hini hlk hm1, C.t _ hin, C.t _ hsel⟩ ⟨Pw.blind, va_recv C.K hP hc (by rw [wld_at ω σ (C.I.lt hsh hci), celle_o hsh]), C.pre hP hS⟩ rfl rfl hl.1 hst (lv_room (Nat.le_of_ble_eq_true hcat)) d ⟨Nat.le_refl _, Nat.le_refl _⟩
theorem j_callS (C : Cx ω κ cc nL own ret) {i maxL n' : Nat} {y : MethodName} {bytes : ByteArray} {r' : Option FieldType} {As rest st0 : List Value} {v : Option Value} {σ1 : M2}
    (hM : Ct κ.2.1 ω y bytes maxL r' n' As σ v σ1) (hst : st0 = As.reverse ++ rest) (hR : Rm n' maxL n) (hcode : Cond.code y bytes maxL r' ∈ gtbl) (hini : Cond.initialized y.cls ∈ gtbl) (hlk : Cond.methodLink own i y ∈ gtbl) (hsta : Cond.static y ∈ gtbl)
    (hm1 : y.cls ≠ "java/lang/invoke/MethodHandle" ∧ y.cls ≠ "java/lang/invoke/VarHandle" ∧ (parseMethodDescriptor y.desc).map (fun d => d.parameters.length) = some As.length) (hcat : Nat.ble ((rest.map fun v => v.category).sum) 8 = true) (d : decode cc pc = .ok (.invokestatic i, 3))
    (k : J ω κ n nL (pc + 3) L (v.toList ++ rest) σ1) : J ω κ n nL pc L st0 σ := by
  refine j_go (a := As.toArray) (rest := rest) (fun H locs ls hP hS hl => ?_) k
  exact va_runS (As := As) (n := As.length) (own := own) (Ts := gtbl) ⟨C.x, C.b, C.ml, C.o, C.t⟩ hM ⟨C.callB hR hcode hini hlk hm1, C.t _ hsta⟩ ⟨Pw.blind, C.pre hP hS⟩ rfl rfl hl.1 hst (lv_room (Nat.le_of_ble_eq_true hcat)) d ⟨Nat.le_refl _, Nat.le_refl _⟩
theorem j_callSN (C : Cx ω κ cc nL own ret) {i maxL n' : Nat} {y : MethodName} {host : String} {bytes : ByteArray} {r' : Option FieldType} {As rest st0 : List Value} {v : Option Value} {σ1 : M2}
    (hM : Ct κ.2.1 ω y bytes maxL r' n' As σ v σ1) (hst : st0 = As.reverse ++ rest) (hR : Rm n' maxL n) (hcode : Cond.code y bytes maxL r' ∈ gtbl) (hini : Cond.initialized y.cls ∈ gtbl) (hlk : (own, i, y, host) ∈ nestL) (hsta : Cond.static y ∈ gtbl)
    (hm1 : y.cls ≠ "java/lang/invoke/MethodHandle" ∧ y.cls ≠ "java/lang/invoke/VarHandle" ∧ (parseMethodDescriptor y.desc).map (fun d => d.parameters.length) = some As.length) (hcat : Nat.ble ((rest.map fun v => v.category).sum) 8 = true) (d : decode cc pc = .ok (.invokestatic i, 3))
    (k : J ω κ n nL (pc + 3) L (v.toList ++ rest) σ1) : J ω κ n nL pc L st0 σ := by
  refine j_go (a := As.toArray) (rest := rest) (fun H locs ls hP hS hl => ?_) k
  refine va_runSN (As := As) (n := As.length) (own := own) (host := host) (Ts := gtbl) ⟨C.x, C.b, C.ml, C.o, C.t⟩ hM ⟨va_cnB As.length C.t (fun w hw => ?_) rfl rfl rfl (C.S.1 _ hlk) (C.t _ hini) hm1 ⟨hR.1, hR.l⟩, C.t _ hsta, trivial⟩ ⟨Pw.blind, C.pre hP hS⟩ rfl rfl hl.1 hst (lv_room (Nat.le_of_ble_eq_true hcat)) d ⟨Nat.le_refl _, Nat.le_refl _⟩
  rcases List.mem_cons.mp hw with rfl | h
  · exact gtbl_good gtbl (fun _ h => h) _ hcode
  · exact gtbl_good gtbl (fun _ h => h) _ h
end CALLS
/-! programs over the memory: guards, calls, loops -/
def gd {α : Type} (b : Bool) (x : Option α) : Option α := if b = true then x else none
theorem gd_some {α : Type} {b : Bool} {x : Option α} {r : α} (h : gd b x = some r) : b = true ∧ x = some r := by
  unfold gd at h
  by_cases hb : b = true
  · rw [if_pos hb] at h; exact ⟨hb, h⟩
  · rw [if_neg hb] at h; cases h
def bnd {α β : Type} (x : Option (α × M2)) (f : α → M2 → Option β) : Option β := match x with
  | none => none
  | some (a, s) => f a s
theorem bnd_some {α β : Type} {x : Option (α × M2)} {f : α → M2 → Option β} {r : β} (h : bnd x f = some r) : ∃ a s, x = some (a, s) ∧ f a s = some r := by
  cases x with
  | none => cases h
  | some q => exact ⟨q.1, q.2, rfl, h⟩
def inb (i : Int32) (n : Nat) : Bool := decide (0 ≤ i.toInt ∧ i.toInt < n)
theorem inb_in {i : Int32} {n : Nat} (h : inb i n = true) : vp_in i n := vp_in_iff.mpr (of_decide_eq_true h)
theorem it {α : Type} {c : Prop} [Decidable c] {x y r : α} (hc : c) (h : (if c then x else y) = r) : x = r := by rw [if_pos hc] at h; exact h
theorem ie {α : Type} {c : Prop} [Decidable c] {x y r : α} (hc : ¬ c) (h : (if c then x else y) = r) : y = r := by rw [if_neg hc] at h; exact h
def wl0 { R : Type} (b : (M2 → Option R) → M2 → Option R) : Nat → M2 → Option R
  | 0, _ => none
  | n + 1, σ => b (wl0 b n)  σ
theorem wl0_ind { R : Type} {b : (M2 → Option R) → M2 → Option R} (P : M2 → Prop) {r : R} (hs : ∀ k : M2 → Option R, (∀  σ, k  σ = some r → P  σ) → ∀  σ, b k  σ = some r → P  σ) : ∀ (n : Nat), ∀  σ, wl0 b n  σ = some r → P  σ := by
  intro n
  induction n with
  | zero => intro  σ h; cases h
  | succ n ih => intro  σ h; exact hs (wl0 b n) ih  σ h
def wl1 {A0 R : Type} (b : (A0 → M2 → Option R) → A0 → M2 → Option R) : Nat → A0 → M2 → Option R
  | 0, _, _ => none
  | n + 1, a0, σ => b (wl1 b n) a0 σ
theorem wl1_ind {A0 R : Type} {b : (A0 → M2 → Option R) → A0 → M2 → Option R} (P : A0 → M2 → Prop) {r : R} (hs : ∀ k : A0 → M2 → Option R, (∀ a0 σ, k a0 σ = some r → P a0 σ) → ∀ a0 σ, b k a0 σ = some r → P a0 σ) : ∀ (n : Nat), ∀ a0 σ, wl1 b n a0 σ = some r → P a0 σ := by
  intro n
  induction n with
  | zero => intro a0 σ h; cases h
  | succ n ih => intro a0 σ h; exact hs (wl1 b n) ih a0 σ h
def wl2 {A0 A1 R : Type} (b : (A0 → A1 → M2 → Option R) → A0 → A1 → M2 → Option R) : Nat → A0 → A1 → M2 → Option R
  | 0, _, _, _ => none
  | n + 1, a0, a1, σ => b (wl2 b n) a0 a1 σ
theorem wl2_ind {A0 A1 R : Type} {b : (A0 → A1 → M2 → Option R) → A0 → A1 → M2 → Option R} (P : A0 → A1 → M2 → Prop) {r : R} (hs : ∀ k : A0 → A1 → M2 → Option R, (∀ a0 a1 σ, k a0 a1 σ = some r → P a0 a1 σ) → ∀ a0 a1 σ, b k a0 a1 σ = some r → P a0 a1 σ) : ∀ (n : Nat), ∀ a0 a1 σ, wl2 b n a0 a1 σ = some r → P a0 a1 σ := by
  intro n
  induction n with
  | zero => intro a0 a1 σ h; cases h
  | succ n ih => intro a0 a1 σ h; exact hs (wl2 b n) ih a0 a1 σ h
def wl3 {A0 A1 A2 R : Type} (b : (A0 → A1 → A2 → M2 → Option R) → A0 → A1 → A2 → M2 → Option R) : Nat → A0 → A1 → A2 → M2 → Option R
  | 0, _, _, _, _ => none
  | n + 1, a0, a1, a2, σ => b (wl3 b n) a0 a1 a2 σ
theorem wl3_ind {A0 A1 A2 R : Type} {b : (A0 → A1 → A2 → M2 → Option R) → A0 → A1 → A2 → M2 → Option R} (P : A0 → A1 → A2 → M2 → Prop) {r : R} (hs : ∀ k : A0 → A1 → A2 → M2 → Option R, (∀ a0 a1 a2 σ, k a0 a1 a2 σ = some r → P a0 a1 a2 σ) → ∀ a0 a1 a2 σ, b k a0 a1 a2 σ = some r → P a0 a1 a2 σ) : ∀ (n : Nat), ∀ a0 a1 a2 σ, wl3 b n a0 a1 a2 σ = some r → P a0 a1 a2 σ := by
  intro n
  induction n with
  | zero => intro a0 a1 a2 σ h; cases h
  | succ n ih => intro a0 a1 a2 σ h; exact hs (wl3 b n) ih a0 a1 a2 σ h
def wl4 {A0 A1 A2 A3 R : Type} (b : (A0 → A1 → A2 → A3 → M2 → Option R) → A0 → A1 → A2 → A3 → M2 → Option R) : Nat → A0 → A1 → A2 → A3 → M2 → Option R
  | 0, _, _, _, _, _ => none
  | n + 1, a0, a1, a2, a3, σ => b (wl4 b n) a0 a1 a2 a3 σ
theorem wl4_ind {A0 A1 A2 A3 R : Type} {b : (A0 → A1 → A2 → A3 → M2 → Option R) → A0 → A1 → A2 → A3 → M2 → Option R} (P : A0 → A1 → A2 → A3 → M2 → Prop) {r : R} (hs : ∀ k : A0 → A1 → A2 → A3 → M2 → Option R, (∀ a0 a1 a2 a3 σ, k a0 a1 a2 a3 σ = some r → P a0 a1 a2 a3 σ) → ∀ a0 a1 a2 a3 σ, b k a0 a1 a2 a3 σ = some r → P a0 a1 a2 a3 σ) : ∀ (n : Nat), ∀ a0 a1 a2 a3 σ, wl4 b n a0 a1 a2 a3 σ = some r → P a0 a1 a2 a3 σ := by
  intro n
  induction n with
  | zero => intro a0 a1 a2 a3 σ h; cases h
  | succ n ih => intro a0 a1 a2 a3 σ h; exact hs (wl4 b n) ih a0 a1 a2 a3 σ h
def wl5 {A0 A1 A2 A3 A4 R : Type} (b : (A0 → A1 → A2 → A3 → A4 → M2 → Option R) → A0 → A1 → A2 → A3 → A4 → M2 → Option R) : Nat → A0 → A1 → A2 → A3 → A4 → M2 → Option R
  | 0, _, _, _, _, _, _ => none
  | n + 1, a0, a1, a2, a3, a4, σ => b (wl5 b n) a0 a1 a2 a3 a4 σ
theorem wl5_ind {A0 A1 A2 A3 A4 R : Type} {b : (A0 → A1 → A2 → A3 → A4 → M2 → Option R) → A0 → A1 → A2 → A3 → A4 → M2 → Option R} (P : A0 → A1 → A2 → A3 → A4 → M2 → Prop) {r : R} (hs : ∀ k : A0 → A1 → A2 → A3 → A4 → M2 → Option R, (∀ a0 a1 a2 a3 a4 σ, k a0 a1 a2 a3 a4 σ = some r → P a0 a1 a2 a3 a4 σ) → ∀ a0 a1 a2 a3 a4 σ, b k a0 a1 a2 a3 a4 σ = some r → P a0 a1 a2 a3 a4 σ) : ∀ (n : Nat), ∀ a0 a1 a2 a3 a4 σ, wl5 b n a0 a1 a2 a3 a4 σ = some r → P a0 a1 a2 a3 a4 σ := by
  intro n
  induction n with
  | zero => intro a0 a1 a2 a3 a4 σ h; cases h
  | succ n ih => intro a0 a1 a2 a3 a4 σ h; exact hs (wl5 b n) ih a0 a1 a2 a3 a4 σ h
def wl6 {A0 A1 A2 A3 A4 A5 R : Type} (b : (A0 → A1 → A2 → A3 → A4 → A5 → M2 → Option R) → A0 → A1 → A2 → A3 → A4 → A5 → M2 → Option R) : Nat → A0 → A1 → A2 → A3 → A4 → A5 → M2 → Option R
  | 0, _, _, _, _, _, _, _ => none
  | n + 1, a0, a1, a2, a3, a4, a5, σ => b (wl6 b n) a0 a1 a2 a3 a4 a5 σ
theorem wl6_ind {A0 A1 A2 A3 A4 A5 R : Type} {b : (A0 → A1 → A2 → A3 → A4 → A5 → M2 → Option R) → A0 → A1 → A2 → A3 → A4 → A5 → M2 → Option R} (P : A0 → A1 → A2 → A3 → A4 → A5 → M2 → Prop) {r : R} (hs : ∀ k : A0 → A1 → A2 → A3 → A4 → A5 → M2 → Option R, (∀ a0 a1 a2 a3 a4 a5 σ, k a0 a1 a2 a3 a4 a5 σ = some r → P a0 a1 a2 a3 a4 a5 σ) → ∀ a0 a1 a2 a3 a4 a5 σ, b k a0 a1 a2 a3 a4 a5 σ = some r → P a0 a1 a2 a3 a4 a5 σ) : ∀ (n : Nat), ∀ a0 a1 a2 a3 a4 a5 σ, wl6 b n a0 a1 a2 a3 a4 a5 σ = some r → P a0 a1 a2 a3 a4 a5 σ := by
  intro n
  induction n with
  | zero => intro a0 a1 a2 a3 a4 a5 σ h; cases h
  | succ n ih => intro a0 a1 a2 a3 a4 a5 σ h; exact hs (wl6 b n) ih a0 a1 a2 a3 a4 a5 σ h
def wl7 {A0 A1 A2 A3 A4 A5 A6 R : Type} (b : (A0 → A1 → A2 → A3 → A4 → A5 → A6 → M2 → Option R) → A0 → A1 → A2 → A3 → A4 → A5 → A6 → M2 → Option R) : Nat → A0 → A1 → A2 → A3 → A4 → A5 → A6 → M2 → Option R
  | 0, _, _, _, _, _, _, _, _ => none
  | n + 1, a0, a1, a2, a3, a4, a5, a6, σ => b (wl7 b n) a0 a1 a2 a3 a4 a5 a6 σ
theorem wl7_ind {A0 A1 A2 A3 A4 A5 A6 R : Type} {b : (A0 → A1 → A2 → A3 → A4 → A5 → A6 → M2 → Option R) → A0 → A1 → A2 → A3 → A4 → A5 → A6 → M2 → Option R} (P : A0 → A1 → A2 → A3 → A4 → A5 → A6 → M2 → Prop) {r : R} (hs : ∀ k : A0 → A1 → A2 → A3 → A4 → A5 → A6 → M2 → Option R, (∀ a0 a1 a2 a3 a4 a5 a6 σ, k a0 a1 a2 a3 a4 a5 a6 σ = some r → P a0 a1 a2 a3 a4 a5 a6 σ) → ∀ a0 a1 a2 a3 a4 a5 a6 σ, b k a0 a1 a2 a3 a4 a5 a6 σ = some r → P a0 a1 a2 a3 a4 a5 a6 σ) : ∀ (n : Nat), ∀ a0 a1 a2 a3 a4 a5 a6 σ, wl7 b n a0 a1 a2 a3 a4 a5 a6 σ = some r → P a0 a1 a2 a3 a4 a5 a6 σ := by
  intro n
  induction n with
  | zero => intro a0 a1 a2 a3 a4 a5 a6 σ h; cases h
  | succ n ih => intro a0 a1 a2 a3 a4 a5 a6 σ h; exact hs (wl7 b n) ih a0 a1 a2 a3 a4 a5 a6 σ h
end
section
/-! rows: the static array, Math, arraycopy, switches; what a callee is -/
abbrev WA : Type := (Nat → Nat) × va_G × ClassId × (Nat → ClassId) × List (ClassId × FieldType) × (Nat → Nat) × (Nat → Nat) × Nat
abbrev ωC (α : WA) : WT := (SC, α)
abbrev ωM (α : WA) : WT := (SM, α)
def cpy (σ : M2) (o0 sp o1 dp k : Nat) : M2 := fun a => if a = o1 then va_cpy (σ o0) (σ o1) sp dp k else σ a
section EXTRA
variable {ω : WT} {κ : KT} {cc : ByteArray} {nL n : Nat} {own : String} {ret : Option FieldType} {pc : Nat} {L : List (Nat × Value)} {st : List Value} {σ : M2}
theorem j_tlen (C : Cx ω κ cc nL own ret) (d : decode cc pc = .ok (.arraylength, 1)) (k : J ω κ n nL (pc + 1) L (.int 6 :: st) σ) : J ω κ n nL pc L (.ref (wT ω) :: st) σ := fun H locs ls hP hS hl =>
  va_tlen C.x C.b C.S.2.2.1 hS rfl d (k H locs ls hP hS hl)
theorem j_tald (C : Cx ω κ cc nL own ret) {i : Int32} (hi : vp_in i 6) (d : decode cc pc = .ok (.iaload, 1)) (k : J ω κ n nL (pc + 1) L (.int (aboveL.getD i.toNatClampNeg 0) :: st) σ) : J ω κ n nL pc L (.int i :: .ref (wT ω) :: st) σ := fun H locs ls hP hS hl =>
  va_ti C.x C.b C.S.2.2.1 hS hi rfl d (k H locs ls hP hS hl)
theorem j_mmin (C : Cx ω κ cc nL own ret) {i : Nat} {x y : Int32} (hn : 1 ≤ n) (hcat : Nat.ble ((st.map fun v => v.category).sum) 8 = true) (hlk : Cond.methodLink own i Lib.Math.min.name ∈ gtbl) (hsta : Cond.static Lib.Math.min.name ∈ gtbl) (hini : Cond.initialized "java/lang/Math" ∈ gtbl) (hcode : Cond.code Lib.Math.min.name Lib.Math.min.code 2 (some .int) ∈ gtbl) (d : decode cc pc = .ok (.invokestatic i, 3)) (k : J ω κ n nL (pc + 3) L (.int (if y < x then y else x) :: st) σ) : J ω κ n nL pc L (.int y :: .int x :: st) σ := fun H locs ls hP hS hl =>
  va_mmin C.x C.b (C.ml.trans hl.1.symm) C.o (C.t _ hlk) (C.t _ hsta) (C.t _ hini) (C.t _ hcode) (show 1 ≤ n from hn) (by have h := Nat.le_of_ble_eq_true hcat; show _ ≤ 60 * n; omega) (Nat.le_refl _) (Nat.le_refl _) d (k H locs ls hP hS hl)
theorem j_mmax (C : Cx ω κ cc nL own ret) {i : Nat} {x y : Int32} (hn : 1 ≤ n) (hcat : Nat.ble ((st.map fun v => v.category).sum) 8 = true) (hlk : Cond.methodLink own i Lib.Math.max.name ∈ gtbl) (hsta : Cond.static Lib.Math.max.name ∈ gtbl) (hini : Cond.initialized "java/lang/Math" ∈ gtbl) (hcode : Cond.code Lib.Math.max.name Lib.Math.max.code 2 (some .int) ∈ gtbl) (d : decode cc pc = .ok (.invokestatic i, 3)) (k : J ω κ n nL (pc + 3) L (.int (if x < y then y else x) :: st) σ) : J ω κ n nL pc L (.int y :: .int x :: st) σ := fun H locs ls hP hS hl =>
  va_mmax C.x C.b (C.ml.trans hl.1.symm) C.o (C.t _ hlk) (C.t _ hsta) (C.t _ hini) (C.t _ hcode) (show 1 ≤ n from hn) (by have h := Nat.le_of_ble_eq_true hcat; show _ ≤ 60 * n; omega) (Nat.le_refl _) (Nat.le_refl _) d (k H locs ls hP hS hl)
theorem fitsi (x : Int32) : fits .int (.int x) = true := by rfl
theorem j_copyi (C : Cx ω κ cc nL own ret) {i o0 o1 n0 n1 : Nat} {sp dp m : Int32} (hn : 1 ≤ n) (hlk : Cond.methodLink own i arraycopyName ∈ gtbl) (hnat : Cond.native arraycopyName ∈ gtbl) (hsta : Cond.static arraycopyName ∈ gtbl) (hini : Cond.initialized "java/lang/System" ∈ gtbl) (hs0 : wsh ω o0 = (0, n0)) (hs1 : wsh ω o1 = (0, n1)) (h1 : ¬ sp < 0) (h2 : ¬ dp < 0) (h3 : ¬ m < 0) (h4 : sp.toNatClampNeg + m.toNatClampNeg ≤ n0) (h5 : dp.toNatClampNeg + m.toNatClampNeg ≤ n1) (d : decode cc pc = .ok (.invokestatic i, 3))
    (hroom : (nativeFrameWords "java/lang/System" "arraycopy" 5 + 11) ≤ 60) (k : J ω κ n nL (pc + 3) L [] (cpy σ o0 sp.toNatClampNeg o1 dp.toNatClampNeg m.toNatClampNeg)) : J ω κ n nL pc L [.int m, .int dp, .ref (wad ω o1), .int sp, .ref (wad ω o0)] σ := by
  intro H locs ls hP hS hl
  obtain ⟨t, ht⟩ := C.I.2.2.1
  have hl0 := C.I.lt hs0 (by decide)
  have hl1 := C.I.lt hs1 (by decide)
  refine va_copyi C.x C.b (C.ml.trans hl.1.symm) C.o (C.t _ hlk) (C.t _ hnat) (C.t _ hsta) (C.t _ hini) C.K hP (C.I.D σ) hS o0 o1 t t (by rw [wld_at ω σ hl0, celle_i hs0]) (by rw [wld_at ω σ hl1, celle_i hs1]) ht ht rfl h1 h2 h3 h4 h5 (fun i _ => fitsi _) (show 1 ≤ n from hn) (by show 0 + _ ≤ 60 * n; omega) d (fun H1 locs1 hP1 _ hS1 => ?_)
  refine k H1 locs1 ls ?_ hS1 hl
  have e : wld ω (cpy σ o0 sp.toNatClampNeg o1 dp.toNatClampNeg m.toNatClampNeg) = (wld ω σ).set o1 (wad ω o1, .inl (wcI ω, n1, .inl (va_cpy (σ o0) (σ o1) sp.toNatClampNeg dp.toNatClampNeg m.toNatClampNeg))) := by
    apply List.ext_getElem?
    intro j
    by_cases hj : j < wN ω
    · rw [wld_at ω _ hj]
      by_cases hjo : j = o1
      · subst hjo
        rw [List.getElem?_set_self (by simpa [wld] using hj), celle_i hs1]
        simp [cpy]
      · rw [List.getElem?_set_ne (Ne.symm hjo), wld_at ω σ hj]
        have e1 : cpy σ o0 sp.toNatClampNeg o1 dp.toNatClampNeg m.toNatClampNeg j = σ j := if_neg hjo
        have e2 : cellf ω (cpy σ o0 sp.toNatClampNeg o1 dp.toNatClampNeg m.toNatClampNeg) j = cellf ω σ j := by funext q; simp only [cellf, e1]
        simp only [celle, e1, e2]
    · rw [List.getElem?_eq_none (by simpa [wld] using hj), List.getElem?_eq_none (by simpa [wld] using hj)]
  rw [e]
  exact hP1
theorem j_tabEq (C : Cx ω κ cc nL own ret) {dflt lo hi : Int} {offs : Array Int} {len : Nat} {x v : Int32} {off : Int} {tgt : Nat} (d : decode cc pc = .ok (.tableswitch dflt lo hi offs, len)) (hx : x = v) (h1 : ¬ v.toInt < lo) (h2 : ¬ hi < v.toInt) (ho : offs[(v.toInt - lo).toNat]? = some off) (ht : (pc : Int) + off = (tgt : Int)) (k : J ω κ n nL tgt L st σ) : J ω κ n nL pc L (.int x :: st) σ := by
  subst hx
  exact j_tableIn C d h1 h2 ho ht k
end EXTRA
theorem ne_ti {x v : Int32} (h : ¬ x = v) {z : Int} (hz : v.toInt = z) : x.toInt ≠ z := fun e => h (Int32.toInt_inj.mp (e.trans hz.symm))
def isA (sh : Nat → Nat × Nat) (o : Nat) : Bool := decide ((sh o).1 = 0)
def isR (sh : Nat → Nat × Nat) (o : Nat) : Bool := decide ((sh o).1 = 1)
def isO (sh : Nat → Nat × Nat) (o c k : Nat) : Bool := decide (sh o = (c + 2, k))
theorem isA_sh {sh : Nat → Nat × Nat} {o : Nat} (h : isA sh o = true) : sh o = (0, (sh o).2) := Prod.ext (of_decide_eq_true h) rfl
theorem isR_sh {sh : Nat → Nat × Nat} {o : Nat} (h : isR sh o = true) : sh o = (1, (sh o).2) := Prod.ext (of_decide_eq_true h) rfl
theorem isO_sh {sh : Nat → Nat × Nat} {o c k : Nat} (h : isO sh o c k = true) : sh o = (c + 2, k) := of_decide_eq_true h
/-- what a callee is -/
def VB (y : MethodName) (bytes : ByteArray) (maxL : Nat) (r : Option FieldType) (Cn : String) (k : Nat) : Prop := Cond.code y bytes maxL r ∈ gtbl ∧ Cond.initialized y.cls ∈ gtbl ∧ Cond.instanceMethod y ∈ gtbl ∧ Cond.selects Cn y y ∈ gtbl ∧ maxL ≤ 41 ∧ (y.cls ≠ "java/lang/invoke/MethodHandle" ∧ y.cls ≠ "java/lang/invoke/VarHandle" ∧ (parseMethodDescriptor y.desc).map (fun d => d.parameters.length) = some k)
def SB (y : MethodName) (bytes : ByteArray) (maxL : Nat) (r : Option FieldType) (k : Nat) : Prop := Cond.code y bytes maxL r ∈ gtbl ∧ Cond.initialized y.cls ∈ gtbl ∧ Cond.static y ∈ gtbl ∧ maxL ≤ 41 ∧ (y.cls ≠ "java/lang/invoke/MethodHandle" ∧ y.cls ≠ "java/lang/invoke/VarHandle" ∧ (parseMethodDescriptor y.desc).map (fun d => d.parameters.length) = some k)
section CALLS2
variable {ω : WT} {κ : KT} {cc : ByteArray} {nL n : Nat} {own : String} {ret : Option FieldType} {pc : Nat} {L : List (Nat × Value)} {σ : M2}
variable {i maxL n' o ci N : Nat} {y : MethodName} {bytes : ByteArray} {r' : Option FieldType} {As rest st0 : List Value} {σ1 : M2} {T : u_T} {Cn host : String}
theorem k_V {v : Option Value} (C : Cx ω κ cc nL own ret) (B : VB y bytes maxL r' Cn As.length) (hc : vwCl[ci]? = some (Cn, T, N)) (hci : ci + 2 ≠ 99) (hM : Ct κ.2.1 ω y bytes maxL r' n' (.ref (wad ω o) :: As) σ v σ1) (hst : st0 = As.reverse ++ .ref (wad ω o) :: rest) (hn : n' + 1 ≤ n) (hlk : Cond.methodLink own i y ∈ gtbl) (hsh : wsh ω o = (ci + 2, N)) (hcat : Nat.ble ((rest.map fun v => v.category).sum) 8 = true) (d : decode cc pc = .ok (.invokevirtual i, 3)) (k : J ω κ n nL (pc + 3) L (v.toList ++ rest) σ1) : J ω κ n nL pc L st0 σ :=
  j_callV C hM hst ⟨hn, B.2.2.2.2.1⟩ B.1 B.2.1 hlk B.2.2.1 B.2.2.2.1 B.2.2.2.2.2 hc hci hsh hcat d k
theorem k_S {v : Option Value} (C : Cx ω κ cc nL own ret) (B : SB y bytes maxL r' As.length) (hM : Ct κ.2.1 ω y bytes maxL r' n' As σ v σ1) (hst : st0 = As.reverse ++ rest) (hn : n' + 1 ≤ n) (hlk : Cond.methodLink own i y ∈ gtbl) (hcat : Nat.ble ((rest.map fun v => v.category).sum) 8 = true) (d : decode cc pc = .ok (.invokestatic i, 3)) (k : J ω κ n nL (pc + 3) L (v.toList ++ rest) σ1) : J ω κ n nL pc L st0 σ :=
  j_callS C hM hst ⟨hn, B.2.2.2.1⟩ B.1 B.2.1 hlk B.2.2.1 B.2.2.2.2 hcat d k
theorem k_N {v : Option Value} (C : Cx ω κ cc nL own ret) (B : SB y bytes maxL r' As.length) (hM : Ct κ.2.1 ω y bytes maxL r' n' As σ v σ1) (hst : st0 = As.reverse ++ rest) (hn : n' + 1 ≤ n) (hlk : (own, i, y, host) ∈ nestL) (hcat : Nat.ble ((rest.map fun v => v.category).sum) 8 = true) (d : decode cc pc = .ok (.invokestatic i, 3)) (k : J ω κ n nL (pc + 3) L (v.toList ++ rest) σ1) : J ω κ n nL pc L st0 σ :=
  j_callSN C hM hst ⟨hn, B.2.2.2.1⟩ B.1 B.2.1 hlk B.2.2.1 B.2.2.2.2 hcat d k
theorem k_none {k : J ω κ n nL pc L ((none : Option Value).toList ++ rest) σ} : J ω κ n nL pc L rest σ := k
end CALLS2
theorem nest_of {a h : String} {i k : Nat} {x : MethodName} (hw : lw_tbl[k]? = some (.methodLinkNest a i x h)) : (a, i, x, h) ∈ nestL := List.mem_filterMap.mpr ⟨_, List.mem_of_getElem? hw, rfl⟩
end
section
set_option maxRecDepth 100000 in
theorem inT0 : ∀ w ∈ u_ws RX0 TX0 3, w ∈ gtbl := by decide +kernel
set_option maxRecDepth 100000 in
theorem inT1 : ∀ w ∈ u_ws RX1 TX1 4, w ∈ gtbl := by decide +kernel
set_option maxRecDepth 100000 in
theorem inT2 : ∀ w ∈ u_ws RX2 TX2 12, w ∈ gtbl := by decide +kernel
set_option maxRecDepth 100000 in
theorem inT4 : ∀ w ∈ u_ws RX4 TX4 5, w ∈ gtbl := by decide +kernel
set_option maxRecDepth 100000 in
theorem inT5 : ∀ w ∈ u_ws RX5 TX5 5, w ∈ gtbl := by decide +kernel
set_option maxRecDepth 100000 in
theorem inT6 : ∀ w ∈ u_ws RX6 TX6 5, w ∈ gtbl := by decide +kernel
set_option maxRecDepth 100000 in
theorem inT7 : ∀ w ∈ u_ws RX7 TX7 3, w ∈ gtbl := by decide +kernel
set_option maxRecDepth 100000 in
theorem inT8 : ∀ w ∈ u_ws RX8 TX8 5, w ∈ gtbl := by decide +kernel
set_option maxRecDepth 100000 in
theorem inT9 : ∀ w ∈ u_ws RX9 TX9 5, w ∈ gtbl := by decide +kernel
set_option maxRecDepth 100000 in
theorem inT10 : ∀ w ∈ u_ws RX10 TX10 3, w ∈ gtbl := by decide +kernel
set_option maxRecDepth 100000 in
theorem inT11 : ∀ w ∈ u_ws RX11 TX11 17, w ∈ gtbl := by decide +kernel
set_option maxRecDepth 100000 in
theorem inT12 : ∀ w ∈ u_ws RX12 TX12 45, w ∈ gtbl := by decide +kernel
end
section
def isZ (x : Int32) : Bool := decide (x = 0 ∨ x = 1)
theorem isZ_n {x : Int32} (h : isZ x = true) : narrow .boolean (.int x) = .int x := by
  rcases of_decide_eq_true h with rfl | rfl <;> rfl
def copyOk (sp dp m : Int32) (n0 n1 : Nat) : Bool := decide (¬ sp < 0 ∧ ¬ dp < 0 ∧ ¬ m < 0 ∧ sp.toNatClampNeg + m.toNatClampNeg ≤ n0 ∧ dp.toNatClampNeg + m.toNatClampNeg ≤ n1)
theorem copyOk_1 {sp dp m : Int32} {n0 n1 : Nat} (h : copyOk sp dp m n0 n1 = true) : ¬ sp < 0 ∧ ¬ dp < 0 ∧ ¬ m < 0 ∧ sp.toNatClampNeg + m.toNatClampNeg ≤ n0 ∧ dp.toNatClampNeg + m.toNatClampNeg ≤ n1 := of_decide_eq_true h
theorem lk_eq {ps : List (Int × Int)} {d off : Int} {x v : Int32} (h : x = v) (e : Op.lookupswitch.offset ps d v.toInt = off) : Op.lookupswitch.offset ps d x.toInt = off := h ▸ e
end
section
def F0_take  (a1 : Int32) (σ : M2) : Option (Unit × M2) := some ((), up (up (up σ 47 0 a1) 47 1 ((up σ 47 0 a1) 41 10)) 47 2 ((up (up σ 47 0 a1) 47 1 ((up σ 47 0 a1) 41 10)) 41 8))
def F0_startFrom   (σ : M2) : Option (Unit × M2) := bnd (F0_take (-1 : Int32) σ) (fun r1 s2 => some ((), s2))
def F0_weigh_33  (x1 : Int32) (σ : M2) : Option (Unit × M2) := bnd (F0_take x1 σ) (fun r1 s2 => some ((), s2))
def F0_weigh  (a1 : Int32) (σ : M2) : Option (Unit × M2) := if (σ 41 10) < (σ 47 1) then F0_weigh_33 a1 σ else if (σ 41 10) = (σ 47 1) then if (σ 41 8) ≤ (σ 47 2) then some ((), σ) else F0_weigh_33 a1 σ else some ((), σ)
def F0_tells  (a1 : Int32) (σ : M2) : Option (Int32 × M2) := if a1 = 0 then some (σ 47 0, σ) else if a1 = (1 : Int32) then some (σ 47 1, σ) else some (σ 47 2, σ)
def F3_isOne_37 (fu : Nat) (k4 : Int32 → Int32 → M2 → Option (Int32 × M2)) (x1 : Int32) (x3 : Int32) (y0 : Int32) (σ : M2) : Option (Int32 × M2) := k4 y0 (x3 + 1) σ
def F3_isOne_4 (fu : Nat) (x1 : Int32) (x2 : Int32) (x3 : Int32) (σ : M2) : Option (Int32 × M2) := wl2 (fun (k4 : Int32 → Int32 → M2 → Option (Int32 × M2)) (x2 : Int32) (x3 : Int32) (σ : M2) => if (5 : Int32) < x3 then some ((0 : Int32), σ) else if x2 < 0 then some ((0 : Int32), σ) else if x2 = x1 then some ((1 : Int32), σ) else if (6 : Int32) ≤ x2 then F3_isOne_37 fu k4 x1 x3 (-1 : Int32) σ else gd (inb x2 6) (F3_isOne_37 fu k4 x1 x3 (aboveL.getD x2.toNatClampNeg 0) σ)) fu x2 x3 σ
def F3_isOne (fu : Nat) (a1 : Int32) (a2 : Int32) (σ : M2) : Option (Int32 × M2) := F3_isOne_4 fu a2 a1 (0 : Int32) σ
def F3_inSack  (a1 : Int32) (a2 : Int32) (σ : M2) : Option (Int32 × M2) := some ((a1 / (2 : Int32)) + a2, σ)
def F3_doesIn  (a1 : Int32) (a2 : Int32) (a3 : Int32) (a4 : Int32) (σ : M2) : Option (Int32 × M2) := if a1 = (1 : Int32) then bnd (F3_inSack a2 a3 σ) (fun r2 s3 => some (r2, s3)) else if a1 = (2 : Int32) then some (a3 + a4, σ) else if a1 = (3 : Int32) then bnd (F3_inSack a2 a3 σ) (fun r7 s8 => some ((99 : Int32) - r7, s8)) else if a1 = (4 : Int32) then some ((a3 + a4) - a2, σ) else if a1 = (5 : Int32) then some (((((7 : Int32) * a2) + ((3 : Int32) * a3)) + a4) - ((((7 : Int32) * a2) + ((3 : Int32) * a3)) + a4) / (31 : Int32) * (31 : Int32), σ) else some (a2, σ)
def F3_yardsCountIn  (a1 : Int32) (a2 : Int32) (a3 : Int32) (σ : M2) : Option (Int32 × M2) := if a1 = (3 : Int32) then some ((a2 * a3) / (2 : Int32), σ) else if a1 = (4 : Int32) then some (-a2, σ) else some (a2, σ)
def F3_ribbonsIn_15 (fu : Nat) (x0 : Int32) (x1 : Int32) (x2 : Int32) (σ : M2) : Option (Int32 × M2) := if x0 = (5 : Int32) then some (x2 / (2 : Int32), σ) else some (x1, σ)
def F3_ribbonsIn (fu : Nat) (a1 : Int32) (a2 : Int32) (a3 : Int32) (σ : M2) : Option (Int32 × M2) := bnd (F3_isOne fu a1 (2 : Int32) σ) (fun r1 s2 => if r1 = 0 then F3_ribbonsIn_15 fu a1 a2 a3 s2 else if (3 : Int32) ≤ a3 then F3_ribbonsIn_15 fu a1 a2 a3 s2 else some ((1 : Int32), s2))
end
section
theorem wd_29 : Cond.selects "EveryoneWins$Best" yX0_take yX0_take ∈ gtbl := gtbl_of (i := 29) (by decide +kernel) (by decide +kernel)
theorem wd_81 : Cond.initialized "EveryoneWins$Best" ∈ gtbl := gtbl_of (i := 81) (by decide +kernel) (by decide +kernel)
theorem wd_91 : Cond.initialized "EveryoneWins$Kinds" ∈ gtbl := gtbl_of (i := 91) (by decide +kernel) (by decide +kernel)
theorem wd_266 : Cond.fieldLink "EveryoneWins$Best" 22 "EveryoneWins$Day" "joy" "I" ∈ gtbl := gtbl_of (i := 266) (by decide +kernel) (by decide +kernel)
theorem wd_272 : Cond.fieldLink "EveryoneWins$Best" 15 "EveryoneWins$Day" "crossed" "I" ∈ gtbl := gtbl_of (i := 272) (by decide +kernel) (by decide +kernel)
theorem wd_308 : Cond.fieldLink "EveryoneWins$Best" 26 "EveryoneWins$Best" "found" "I" ∈ gtbl := gtbl_of (i := 308) (by decide +kernel) (by decide +kernel)
theorem wd_309 : Cond.fieldLink "EveryoneWins$Best" 21 "EveryoneWins$Best" "crossed" "I" ∈ gtbl := gtbl_of (i := 309) (by decide +kernel) (by decide +kernel)
theorem wd_310 : Cond.fieldLink "EveryoneWins$Best" 25 "EveryoneWins$Best" "joy" "I" ∈ gtbl := gtbl_of (i := 310) (by decide +kernel) (by decide +kernel)
theorem wd_782 : Cond.methodLink "EveryoneWins$Kinds" 13 yX3_inSack ∈ gtbl := gtbl_of (i := 782) (by decide +kernel) (by decide +kernel)
theorem wd_783 : Cond.static yX3_inSack ∈ gtbl := gtbl_of (i := 783) (by decide +kernel) (by decide +kernel)
theorem wd_784 : Cond.code yX3_inSack prog_5_method_4_code 2 (Option.some Jvm.ClassFile.FieldType.int) ∈ gtbl := gtbl_of (i := 784) (by decide +kernel) (by decide +kernel)
theorem wd_818 : Cond.methodLink "EveryoneWins$Kinds" 17 yX3_isOne ∈ gtbl := gtbl_of (i := 818) (by decide +kernel) (by decide +kernel)
theorem wd_819 : Cond.static yX3_isOne ∈ gtbl := gtbl_of (i := 819) (by decide +kernel) (by decide +kernel)
theorem wd_820 : Cond.code yX3_isOne prog_5_method_2_code 4 (Option.some Jvm.ClassFile.FieldType.boolean) ∈ gtbl := gtbl_of (i := 820) (by decide +kernel) (by decide +kernel)
theorem wd_821 : Cond.fieldLink "EveryoneWins$Kinds" 9 "EveryoneWins$Kinds" "ABOVE" "[I" ∈ gtbl := gtbl_of (i := 821) (by decide +kernel) (by decide +kernel)
theorem wd_839 : Cond.methodLink "EveryoneWins$Best" 9 yX0_take ∈ gtbl := gtbl_of (i := 839) (by decide +kernel) (by decide +kernel)
theorem wd_841 : Cond.instanceMethod yX0_take ∈ gtbl := gtbl_of (i := 841) (by decide +kernel) (by decide +kernel)
theorem wd_842 : Cond.code yX0_take prog_2_method_4_code 3 (Option.none) ∈ gtbl := gtbl_of (i := 842) (by decide +kernel) (by decide +kernel)
theorem vb_X0_take : VB yX0_take cX0_take 3 (none) RX0 2 := ⟨wd_842, wd_81, wd_841, wd_29, by decide, by decide +kernel⟩
theorem sb_X3_inSack : SB yX3_inSack cX3_inSack 2 (some FieldType.int) 2 := ⟨wd_784, wd_91, wd_783, by decide, by decide +kernel⟩
theorem sb_X3_isOne : SB yX3_isOne cX3_isOne 4 (some FieldType.boolean) 2 := ⟨wd_820, wd_91, wd_819, by decide, by decide +kernel⟩
end
section
theorem dX0_startFrom_0 : decode cX0_startFrom 0 = .ok (.aload_n 0, 1) := by decide +kernel
theorem dX0_startFrom_1 : decode cX0_startFrom 1 = .ok (.iconst (-1), 1) := by decide +kernel
theorem dX0_startFrom_2 : decode cX0_startFrom 2 = .ok (.aload_n 1, 1) := by decide +kernel
theorem dX0_startFrom_3 : decode cX0_startFrom 3 = .ok (.invokevirtual 9, 3) := by decide +kernel
theorem dX0_startFrom_6 : decode cX0_startFrom 6 = .ok (.return_, 1) := by decide +kernel
theorem dX0_take_0 : decode cX0_take 0 = .ok (.aload_n 0, 1) := by decide +kernel
theorem dX0_take_1 : decode cX0_take 1 = .ok (.iload_n 1, 1) := by decide +kernel
theorem dX0_take_2 : decode cX0_take 2 = .ok (.putfield 26, 3) := by decide +kernel
theorem dX0_take_5 : decode cX0_take 5 = .ok (.aload_n 0, 1) := by decide +kernel
theorem dX0_take_6 : decode cX0_take 6 = .ok (.aload_n 2, 1) := by decide +kernel
theorem dX0_take_7 : decode cX0_take 7 = .ok (.getfield 15, 3) := by decide +kernel
theorem dX0_take_10 : decode cX0_take 10 = .ok (.putfield 21, 3) := by decide +kernel
theorem dX0_take_13 : decode cX0_take 13 = .ok (.aload_n 0, 1) := by decide +kernel
theorem dX0_take_14 : decode cX0_take 14 = .ok (.aload_n 2, 1) := by decide +kernel
theorem dX0_take_15 : decode cX0_take 15 = .ok (.getfield 22, 3) := by decide +kernel
theorem dX0_take_18 : decode cX0_take 18 = .ok (.putfield 25, 3) := by decide +kernel
theorem dX0_take_21 : decode cX0_take 21 = .ok (.return_, 1) := by decide +kernel
theorem dX0_tells_0 : decode cX0_tells 0 = .ok (.iload_n 1, 1) := by decide +kernel
theorem dX0_tells_1 : decode cX0_tells 1 = .ok (.ifCond .ne 10, 3) := by decide +kernel
theorem dX0_tells_4 : decode cX0_tells 4 = .ok (.aload_n 0, 1) := by decide +kernel
theorem dX0_tells_5 : decode cX0_tells 5 = .ok (.getfield 26, 3) := by decide +kernel
theorem dX0_tells_8 : decode cX0_tells 8 = .ok (.goto 19, 3) := by decide +kernel
theorem dX0_tells_11 : decode cX0_tells 11 = .ok (.iload_n 1, 1) := by decide +kernel
theorem dX0_tells_12 : decode cX0_tells 12 = .ok (.iconst 1, 1) := by decide +kernel
theorem dX0_tells_13 : decode cX0_tells 13 = .ok (.if_icmp .ne 10, 3) := by decide +kernel
theorem dX0_tells_16 : decode cX0_tells 16 = .ok (.aload_n 0, 1) := by decide +kernel
theorem dX0_tells_17 : decode cX0_tells 17 = .ok (.getfield 21, 3) := by decide +kernel
theorem dX0_tells_20 : decode cX0_tells 20 = .ok (.goto 7, 3) := by decide +kernel
theorem dX0_tells_23 : decode cX0_tells 23 = .ok (.aload_n 0, 1) := by decide +kernel
theorem dX0_tells_24 : decode cX0_tells 24 = .ok (.getfield 25, 3) := by decide +kernel
theorem dX0_tells_27 : decode cX0_tells 27 = .ok (.ireturn, 1) := by decide +kernel
theorem dX0_weigh_0 : decode cX0_weigh 0 = .ok (.aload_n 2, 1) := by decide +kernel
theorem dX0_weigh_1 : decode cX0_weigh 1 = .ok (.getfield 15, 3) := by decide +kernel
theorem dX0_weigh_4 : decode cX0_weigh 4 = .ok (.aload_n 0, 1) := by decide +kernel
theorem dX0_weigh_5 : decode cX0_weigh 5 = .ok (.getfield 21, 3) := by decide +kernel
theorem dX0_weigh_8 : decode cX0_weigh 8 = .ok (.if_icmp .lt 25, 3) := by decide +kernel
theorem dX0_weigh_11 : decode cX0_weigh 11 = .ok (.aload_n 2, 1) := by decide +kernel
theorem dX0_weigh_12 : decode cX0_weigh 12 = .ok (.getfield 15, 3) := by decide +kernel
theorem dX0_weigh_15 : decode cX0_weigh 15 = .ok (.aload_n 0, 1) := by decide +kernel
theorem dX0_weigh_16 : decode cX0_weigh 16 = .ok (.getfield 21, 3) := by decide +kernel
theorem dX0_weigh_19 : decode cX0_weigh 19 = .ok (.if_icmp .ne 20, 3) := by decide +kernel
theorem dX0_weigh_22 : decode cX0_weigh 22 = .ok (.aload_n 2, 1) := by decide +kernel
theorem dX0_weigh_23 : decode cX0_weigh 23 = .ok (.getfield 22, 3) := by decide +kernel
theorem dX0_weigh_26 : decode cX0_weigh 26 = .ok (.aload_n 0, 1) := by decide +kernel
theorem dX0_weigh_27 : decode cX0_weigh 27 = .ok (.getfield 25, 3) := by decide +kernel
theorem dX0_weigh_30 : decode cX0_weigh 30 = .ok (.if_icmp .le 9, 3) := by decide +kernel
theorem dX0_weigh_33 : decode cX0_weigh 33 = .ok (.aload_n 0, 1) := by decide +kernel
theorem dX0_weigh_34 : decode cX0_weigh 34 = .ok (.iload_n 1, 1) := by decide +kernel
theorem dX0_weigh_35 : decode cX0_weigh 35 = .ok (.aload_n 2, 1) := by decide +kernel
theorem dX0_weigh_36 : decode cX0_weigh 36 = .ok (.invokevirtual 9, 3) := by decide +kernel
theorem dX0_weigh_39 : decode cX0_weigh 39 = .ok (.return_, 1) := by decide +kernel
theorem dX3_doesIn_0 : decode cX3_doesIn 0 = .ok (.iload_n 0, 1) := by decide +kernel
theorem dX3_doesIn_1 : decode cX3_doesIn 1 = .ok (.tableswitch 74 1 5 #[35, 41, 45, 54, 60], 35) := by decide +kernel
theorem dX3_doesIn_36 : decode cX3_doesIn 36 = .ok (.iload_n 1, 1) := by decide +kernel
theorem dX3_doesIn_37 : decode cX3_doesIn 37 = .ok (.iload_n 2, 1) := by decide +kernel
theorem dX3_doesIn_38 : decode cX3_doesIn 38 = .ok (.invokestatic 13, 3) := by decide +kernel
theorem dX3_doesIn_41 : decode cX3_doesIn 41 = .ok (.ireturn, 1) := by decide +kernel
theorem dX3_doesIn_42 : decode cX3_doesIn 42 = .ok (.iload_n 2, 1) := by decide +kernel
theorem dX3_doesIn_43 : decode cX3_doesIn 43 = .ok (.iload_n 3, 1) := by decide +kernel
theorem dX3_doesIn_44 : decode cX3_doesIn 44 = .ok (.iadd, 1) := by decide +kernel
theorem dX3_doesIn_45 : decode cX3_doesIn 45 = .ok (.ireturn, 1) := by decide +kernel
theorem dX3_doesIn_46 : decode cX3_doesIn 46 = .ok (.bipush 99, 2) := by decide +kernel
theorem dX3_doesIn_48 : decode cX3_doesIn 48 = .ok (.iload_n 1, 1) := by decide +kernel
theorem dX3_doesIn_49 : decode cX3_doesIn 49 = .ok (.iload_n 2, 1) := by decide +kernel
theorem dX3_doesIn_50 : decode cX3_doesIn 50 = .ok (.invokestatic 13, 3) := by decide +kernel
theorem dX3_doesIn_53 : decode cX3_doesIn 53 = .ok (.isub, 1) := by decide +kernel
theorem dX3_doesIn_54 : decode cX3_doesIn 54 = .ok (.ireturn, 1) := by decide +kernel
theorem dX3_doesIn_55 : decode cX3_doesIn 55 = .ok (.iload_n 2, 1) := by decide +kernel
theorem dX3_doesIn_56 : decode cX3_doesIn 56 = .ok (.iload_n 3, 1) := by decide +kernel
theorem dX3_doesIn_57 : decode cX3_doesIn 57 = .ok (.iadd, 1) := by decide +kernel
theorem dX3_doesIn_58 : decode cX3_doesIn 58 = .ok (.iload_n 1, 1) := by decide +kernel
theorem dX3_doesIn_59 : decode cX3_doesIn 59 = .ok (.isub, 1) := by decide +kernel
theorem dX3_doesIn_60 : decode cX3_doesIn 60 = .ok (.ireturn, 1) := by decide +kernel
theorem dX3_doesIn_61 : decode cX3_doesIn 61 = .ok (.bipush 7, 2) := by decide +kernel
theorem dX3_doesIn_63 : decode cX3_doesIn 63 = .ok (.iload_n 1, 1) := by decide +kernel
theorem dX3_doesIn_64 : decode cX3_doesIn 64 = .ok (.imul, 1) := by decide +kernel
theorem dX3_doesIn_65 : decode cX3_doesIn 65 = .ok (.iconst 3, 1) := by decide +kernel
theorem dX3_doesIn_66 : decode cX3_doesIn 66 = .ok (.iload_n 2, 1) := by decide +kernel
theorem dX3_doesIn_67 : decode cX3_doesIn 67 = .ok (.imul, 1) := by decide +kernel
theorem dX3_doesIn_68 : decode cX3_doesIn 68 = .ok (.iadd, 1) := by decide +kernel
theorem dX3_doesIn_69 : decode cX3_doesIn 69 = .ok (.iload_n 3, 1) := by decide +kernel
theorem dX3_doesIn_70 : decode cX3_doesIn 70 = .ok (.iadd, 1) := by decide +kernel
theorem dX3_doesIn_71 : decode cX3_doesIn 71 = .ok (.bipush 31, 2) := by decide +kernel
theorem dX3_doesIn_73 : decode cX3_doesIn 73 = .ok (.irem, 1) := by decide +kernel
theorem dX3_doesIn_74 : decode cX3_doesIn 74 = .ok (.ireturn, 1) := by decide +kernel
theorem dX3_doesIn_75 : decode cX3_doesIn 75 = .ok (.iload_n 1, 1) := by decide +kernel
theorem dX3_doesIn_76 : decode cX3_doesIn 76 = .ok (.ireturn, 1) := by decide +kernel
theorem dX3_inSack_0 : decode cX3_inSack 0 = .ok (.iload_n 0, 1) := by decide +kernel
theorem dX3_inSack_1 : decode cX3_inSack 1 = .ok (.iconst 2, 1) := by decide +kernel
theorem dX3_inSack_2 : decode cX3_inSack 2 = .ok (.idiv, 1) := by decide +kernel
theorem dX3_inSack_3 : decode cX3_inSack 3 = .ok (.iload_n 1, 1) := by decide +kernel
theorem dX3_inSack_4 : decode cX3_inSack 4 = .ok (.iadd, 1) := by decide +kernel
theorem dX3_inSack_5 : decode cX3_inSack 5 = .ok (.ireturn, 1) := by decide +kernel
theorem dX3_isOne_0 : decode cX3_isOne 0 = .ok (.iload_n 0, 1) := by decide +kernel
theorem dX3_isOne_1 : decode cX3_isOne 1 = .ok (.istore_n 2, 1) := by decide +kernel
theorem dX3_isOne_2 : decode cX3_isOne 2 = .ok (.iconst 0, 1) := by decide +kernel
theorem dX3_isOne_3 : decode cX3_isOne 3 = .ok (.istore_n 3, 1) := by decide +kernel
theorem dX3_isOne_4 : decode cX3_isOne 4 = .ok (.iload_n 3, 1) := by decide +kernel
theorem dX3_isOne_5 : decode cX3_isOne 5 = .ok (.iconst 5, 1) := by decide +kernel
theorem dX3_isOne_6 : decode cX3_isOne 6 = .ok (.if_icmp .gt 38, 3) := by decide +kernel
theorem dX3_isOne_9 : decode cX3_isOne 9 = .ok (.iload_n 2, 1) := by decide +kernel
theorem dX3_isOne_10 : decode cX3_isOne 10 = .ok (.ifCond .lt 34, 3) := by decide +kernel
theorem dX3_isOne_13 : decode cX3_isOne 13 = .ok (.iload_n 2, 1) := by decide +kernel
theorem dX3_isOne_14 : decode cX3_isOne 14 = .ok (.iload_n 1, 1) := by decide +kernel
theorem dX3_isOne_15 : decode cX3_isOne 15 = .ok (.if_icmp .ne 5, 3) := by decide +kernel
theorem dX3_isOne_18 : decode cX3_isOne 18 = .ok (.iconst 1, 1) := by decide +kernel
theorem dX3_isOne_19 : decode cX3_isOne 19 = .ok (.ireturn, 1) := by decide +kernel
theorem dX3_isOne_20 : decode cX3_isOne 20 = .ok (.iload_n 2, 1) := by decide +kernel
theorem dX3_isOne_21 : decode cX3_isOne 21 = .ok (.getstatic 9, 3) := by decide +kernel
theorem dX3_isOne_24 : decode cX3_isOne 24 = .ok (.arraylength, 1) := by decide +kernel
theorem dX3_isOne_25 : decode cX3_isOne 25 = .ok (.if_icmp .ge 11, 3) := by decide +kernel
theorem dX3_isOne_28 : decode cX3_isOne 28 = .ok (.getstatic 9, 3) := by decide +kernel
theorem dX3_isOne_31 : decode cX3_isOne 31 = .ok (.iload_n 2, 1) := by decide +kernel
theorem dX3_isOne_32 : decode cX3_isOne 32 = .ok (.iaload, 1) := by decide +kernel
theorem dX3_isOne_33 : decode cX3_isOne 33 = .ok (.goto 4, 3) := by decide +kernel
theorem dX3_isOne_36 : decode cX3_isOne 36 = .ok (.iconst (-1), 1) := by decide +kernel
theorem dX3_isOne_37 : decode cX3_isOne 37 = .ok (.istore_n 2, 1) := by decide +kernel
theorem dX3_isOne_38 : decode cX3_isOne 38 = .ok (.iinc 3 1, 3) := by decide +kernel
theorem dX3_isOne_41 : decode cX3_isOne 41 = .ok (.goto (-37), 3) := by decide +kernel
theorem dX3_isOne_44 : decode cX3_isOne 44 = .ok (.iconst 0, 1) := by decide +kernel
theorem dX3_isOne_45 : decode cX3_isOne 45 = .ok (.ireturn, 1) := by decide +kernel
theorem dX3_ribbonsIn_0 : decode cX3_ribbonsIn 0 = .ok (.iload_n 0, 1) := by decide +kernel
theorem dX3_ribbonsIn_1 : decode cX3_ribbonsIn 1 = .ok (.iconst 2, 1) := by decide +kernel
theorem dX3_ribbonsIn_2 : decode cX3_ribbonsIn 2 = .ok (.invokestatic 17, 3) := by decide +kernel
theorem dX3_ribbonsIn_5 : decode cX3_ribbonsIn 5 = .ok (.ifCond .eq 10, 3) := by decide +kernel
theorem dX3_ribbonsIn_8 : decode cX3_ribbonsIn 8 = .ok (.iload_n 2, 1) := by decide +kernel
theorem dX3_ribbonsIn_9 : decode cX3_ribbonsIn 9 = .ok (.iconst 3, 1) := by decide +kernel
theorem dX3_ribbonsIn_10 : decode cX3_ribbonsIn 10 = .ok (.if_icmp .ge 5, 3) := by decide +kernel
theorem dX3_ribbonsIn_13 : decode cX3_ribbonsIn 13 = .ok (.iconst 1, 1) := by decide +kernel
theorem dX3_ribbonsIn_14 : decode cX3_ribbonsIn 14 = .ok (.ireturn, 1) := by decide +kernel
theorem dX3_ribbonsIn_15 : decode cX3_ribbonsIn 15 = .ok (.iload_n 0, 1) := by decide +kernel
theorem dX3_ribbonsIn_16 : decode cX3_ribbonsIn 16 = .ok (.iconst 5, 1) := by decide +kernel
theorem dX3_ribbonsIn_17 : decode cX3_ribbonsIn 17 = .ok (.if_icmp .ne 9, 3) := by decide +kernel
theorem dX3_ribbonsIn_20 : decode cX3_ribbonsIn 20 = .ok (.iload_n 2, 1) := by decide +kernel
theorem dX3_ribbonsIn_21 : decode cX3_ribbonsIn 21 = .ok (.iconst 2, 1) := by decide +kernel
theorem dX3_ribbonsIn_22 : decode cX3_ribbonsIn 22 = .ok (.idiv, 1) := by decide +kernel
theorem dX3_ribbonsIn_23 : decode cX3_ribbonsIn 23 = .ok (.goto 4, 3) := by decide +kernel
theorem dX3_ribbonsIn_26 : decode cX3_ribbonsIn 26 = .ok (.iload_n 1, 1) := by decide +kernel
theorem dX3_ribbonsIn_27 : decode cX3_ribbonsIn 27 = .ok (.ireturn, 1) := by decide +kernel
theorem dX3_yardsCountIn_0 : decode cX3_yardsCountIn 0 = .ok (.iload_n 0, 1) := by decide +kernel
theorem dX3_yardsCountIn_1 : decode cX3_yardsCountIn 1 = .ok (.lookupswitch 36 #[(3, 27), (4, 33)], 27) := by decide +kernel
theorem dX3_yardsCountIn_28 : decode cX3_yardsCountIn 28 = .ok (.iload_n 1, 1) := by decide +kernel
theorem dX3_yardsCountIn_29 : decode cX3_yardsCountIn 29 = .ok (.iload_n 2, 1) := by decide +kernel
theorem dX3_yardsCountIn_30 : decode cX3_yardsCountIn 30 = .ok (.imul, 1) := by decide +kernel
theorem dX3_yardsCountIn_31 : decode cX3_yardsCountIn 31 = .ok (.iconst 2, 1) := by decide +kernel
theorem dX3_yardsCountIn_32 : decode cX3_yardsCountIn 32 = .ok (.idiv, 1) := by decide +kernel
theorem dX3_yardsCountIn_33 : decode cX3_yardsCountIn 33 = .ok (.ireturn, 1) := by decide +kernel
theorem dX3_yardsCountIn_34 : decode cX3_yardsCountIn 34 = .ok (.iload_n 1, 1) := by decide +kernel
theorem dX3_yardsCountIn_35 : decode cX3_yardsCountIn 35 = .ok (.ineg, 1) := by decide +kernel
theorem dX3_yardsCountIn_36 : decode cX3_yardsCountIn 36 = .ok (.ireturn, 1) := by decide +kernel
theorem dX3_yardsCountIn_37 : decode cX3_yardsCountIn 37 = .ok (.iload_n 1, 1) := by decide +kernel
theorem dX3_yardsCountIn_38 : decode cX3_yardsCountIn 38 = .ok (.ireturn, 1) := by decide +kernel
end
section
set_option maxRecDepth 10000 in
theorem c0_take (l : Launch) {α : WA}  {a1 : Int32} {σ σ' : M2}  (h : F0_take a1 σ = some ((), σ')) : Ct l (ωC α) yX0_take cX0_take 3 (none) 1 [.ref (wad (ωC α) 47), .int a1, .ref (wad (ωC α) 41)] σ (none) σ' := by
  unfold F0_take at h
  refine Ct.of (own := "EveryoneWins$Best") (L := [(0, .ref (wad (ωC α) 47)), (1, .int a1), (2, .ref (wad (ωC α) 41))]) (by decide +kernel) rfl rfl rfl (fun κ hl e C => ?_)
  show J (ωC α) κ 1 3 0 [(0, .ref (wad (ωC α) 47)), (1, .int a1), (2, .ref (wad (ωC α) 41))] [] σ
  refine j_aload_n C 0 dX0_take_0 rfl ?_
  refine j_iload_n C 1 dX0_take_1 rfl ?_
  refine j_puti (o := 47) (j := 0) C inT0 tyX0_ok nmX0 (ci := 0) rfl (by decide) (rfl) rfl rfl rfl (tyX0_ok 0 (by decide)) rfl rfl wd_308 dX0_take_2 ?_
  refine j_aload_n C 0 dX0_take_5 rfl ?_
  refine j_aload_n C 2 dX0_take_6 rfl ?_
  refine j_geti (o := 41) (j := 10) C inT2 (ci := 2) rfl (by decide) (rfl) rfl rfl wd_272 dX0_take_7 ?_
  refine j_puti (o := 47) (j := 1) C inT0 tyX0_ok nmX0 (ci := 0) rfl (by decide) (rfl) rfl rfl rfl (tyX0_ok 1 (by decide)) rfl rfl wd_309 dX0_take_10 ?_
  refine j_aload_n C 0 dX0_take_13 rfl ?_
  refine j_aload_n C 2 dX0_take_14 rfl ?_
  refine j_geti (o := 41) (j := 8) C inT2 (ci := 2) rfl (by decide) (rfl) rfl rfl wd_266 dX0_take_15 ?_
  refine j_puti (o := 47) (j := 2) C inT0 tyX0_ok nmX0 (ci := 0) rfl (by decide) (rfl) rfl rfl rfl (tyX0_ok 2 (by decide)) rfl rfl wd_310 dX0_take_18 ?_
  cases h
  exact j_vret C e dX0_take_21
set_option maxRecDepth 10000 in
theorem c0_startFrom (l : Launch) {α : WA}   {σ σ' : M2}  (h : F0_startFrom  σ = some ((), σ')) : Ct l (ωC α) yX0_startFrom cX0_startFrom 2 (none) 2 [.ref (wad (ωC α) 47), .ref (wad (ωC α) 41)] σ (none) σ' := by
  unfold F0_startFrom at h
  refine Ct.of (own := "EveryoneWins$Best") (L := [(0, .ref (wad (ωC α) 47)), (1, .ref (wad (ωC α) 41))]) (by decide +kernel) rfl rfl rfl (fun κ hl e C => ?_)
  show J (ωC α) κ 2 2 0 [(0, .ref (wad (ωC α) 47)), (1, .ref (wad (ωC α) 41))] [] σ
  refine j_aload_n C 0 dX0_startFrom_0 rfl ?_
  refine j_iconst (v := -1) C dX0_startFrom_1 (by decide) ?_
  refine j_aload_n C 1 dX0_startFrom_2 rfl ?_
  obtain ⟨r1, s2, hc3, h⟩ := bnd_some h
  refine k_V (v := none) C vb_X0_take (ci := 0) (T := TX0) (N := 3) rfl (by decide) (c0_take _ hc3) rfl (by decide) wd_839 (rfl) rfl dX0_startFrom_3 ?_
  show J (ωC α) κ _ _ 6 _ [] s2
  cases h
  exact j_vret C e dX0_startFrom_6
set_option maxRecDepth 10000 in
theorem b0_weigh_33 {α : WA} {κ : KT}  {σ' : M2} {x1 : Int32} (C : Cx (ωC α) κ cX0_weigh 3 "EveryoneWins$Best" (none)) (e : κ.2.2.2.2.2.2.2.2.2 = (none, σ'))  {σ : M2} (h : F0_weigh_33 x1 σ = some ((), σ')) : J (ωC α) κ 2 3 33 [(0, .ref (wad (ωC α) 47)), (1, .int x1), (2, .ref (wad (ωC α) 41))] [] σ := by
  unfold F0_weigh_33 at h
  refine j_aload_n C 0 dX0_weigh_33 rfl ?_
  refine j_iload_n C 1 dX0_weigh_34 rfl ?_
  refine j_aload_n C 2 dX0_weigh_35 rfl ?_
  obtain ⟨r1, s2, hc3, h⟩ := bnd_some h
  refine k_V (v := none) C vb_X0_take (ci := 0) (T := TX0) (N := 3) rfl (by decide) (c0_take _ hc3) rfl (by decide) wd_839 (rfl) rfl dX0_weigh_36 ?_
  show J (ωC α) κ _ _ 39 _ [] s2
  cases h
  exact j_vret C e dX0_weigh_39
set_option maxRecDepth 10000 in
theorem c0_weigh (l : Launch) {α : WA}  {a1 : Int32} {σ σ' : M2}  (h : F0_weigh a1 σ = some ((), σ')) : Ct l (ωC α) yX0_weigh cX0_weigh 3 (none) 2 [.ref (wad (ωC α) 47), .int a1, .ref (wad (ωC α) 41)] σ (none) σ' := by
  unfold F0_weigh at h
  refine Ct.of (own := "EveryoneWins$Best") (L := [(0, .ref (wad (ωC α) 47)), (1, .int a1), (2, .ref (wad (ωC α) 41))]) (by decide +kernel) rfl rfl rfl (fun κ hl e C => ?_)
  show J (ωC α) κ 2 3 0 [(0, .ref (wad (ωC α) 47)), (1, .int a1), (2, .ref (wad (ωC α) 41))] [] σ
  refine j_aload_n C 2 dX0_weigh_0 rfl ?_
  refine j_geti (o := 41) (j := 10) C inT2 (ci := 2) rfl (by decide) (rfl) rfl rfl wd_272 dX0_weigh_1 ?_
  refine j_aload_n C 0 dX0_weigh_4 rfl ?_
  refine j_geti (o := 47) (j := 1) C inT0 (ci := 0) rfl (by decide) (rfl) rfl rfl wd_309 dX0_weigh_5 ?_
  refine j_icmp_lt (tgt := 33) C dX0_weigh_8 (by decide) (fun c1 => ?_) (fun c1 => ?_)
  · replace h := it c1 h
    exact (b0_weigh_33 C e h)
  · replace h := ie c1 h
    refine j_aload_n C 2 dX0_weigh_11 rfl ?_
    refine j_geti (o := 41) (j := 10) C inT2 (ci := 2) rfl (by decide) (rfl) rfl rfl wd_272 dX0_weigh_12 ?_
    refine j_aload_n C 0 dX0_weigh_15 rfl ?_
    refine j_geti (o := 47) (j := 1) C inT0 (ci := 0) rfl (by decide) (rfl) rfl rfl wd_309 dX0_weigh_16 ?_
    refine j_icmp_ne (tgt := 39) C dX0_weigh_19 (by decide) (fun c2 => ?_) (fun c2 => ?_)
    · replace h := ie c2 h
      cases h
      exact j_vret C e dX0_weigh_39
    · replace h := it c2 h
      refine j_aload_n C 2 dX0_weigh_22 rfl ?_
      refine j_geti (o := 41) (j := 8) C inT2 (ci := 2) rfl (by decide) (rfl) rfl rfl wd_266 dX0_weigh_23 ?_
      refine j_aload_n C 0 dX0_weigh_26 rfl ?_
      refine j_geti (o := 47) (j := 2) C inT0 (ci := 0) rfl (by decide) (rfl) rfl rfl wd_310 dX0_weigh_27 ?_
      refine j_icmp_le (tgt := 39) C dX0_weigh_30 (by decide) (fun c3 => ?_) (fun c3 => ?_)
      · replace h := it c3 h
        cases h
        exact j_vret C e dX0_weigh_39
      · replace h := ie c3 h
        exact (b0_weigh_33 C e h)
set_option maxRecDepth 10000 in
theorem c0_tells (l : Launch) {α : WA}  {a1 : Int32} {σ σ' : M2} {v : Int32}  (h : F0_tells a1 σ = some (v, σ')) : Ct l (ωC α) yX0_tells cX0_tells 2 (some FieldType.int) 1 [.ref (wad (ωC α) 47), .int a1] σ (some (.int v)) σ' := by
  unfold F0_tells at h
  refine Ct.of (own := "EveryoneWins$Best") (L := [(0, .ref (wad (ωC α) 47)), (1, .int a1)]) (by decide +kernel) rfl rfl rfl (fun κ hl e C => ?_)
  show J (ωC α) κ 1 2 0 [(0, .ref (wad (ωC α) 47)), (1, .int a1)] [] σ
  refine j_iload_n C 1 dX0_tells_0 rfl ?_
  refine j_if_ne (tgt := 11) C dX0_tells_1 (by decide) (fun c1 => ?_) (fun c1 => ?_)
  · replace h := ie c1 h
    refine j_iload_n C 1 dX0_tells_11 rfl ?_
    refine j_iconst (v := 1) C dX0_tells_12 (by decide) ?_
    refine j_icmp_ne (tgt := 23) C dX0_tells_13 (by decide) (fun c2 => ?_) (fun c2 => ?_)
    · replace h := ie c2 h
      refine j_aload_n C 0 dX0_tells_23 rfl ?_
      refine j_geti (o := 47) (j := 2) C inT0 (ci := 0) rfl (by decide) (rfl) rfl rfl wd_310 dX0_tells_24 ?_
      cases h
      exact j_iret C e dX0_tells_27
    · replace h := it c2 h
      refine j_aload_n C 0 dX0_tells_16 rfl ?_
      refine j_geti (o := 47) (j := 1) C inT0 (ci := 0) rfl (by decide) (rfl) rfl rfl wd_309 dX0_tells_17 ?_
      refine j_goto (tgt := 27) C dX0_tells_20 (by decide) ?_
      cases h
      exact j_iret C e dX0_tells_27
  · replace h := it c1 h
    refine j_aload_n C 0 dX0_tells_4 rfl ?_
    refine j_geti (o := 47) (j := 0) C inT0 (ci := 0) rfl (by decide) (rfl) rfl rfl wd_308 dX0_tells_5 ?_
    refine j_goto (tgt := 27) C dX0_tells_8 (by decide) ?_
    cases h
    exact j_iret C e dX0_tells_27
set_option maxRecDepth 10000 in
theorem b3_isOne_37 {α : WA} {κ : KT} {fu : Nat} {v : Int32} {σ' : M2} {x1 : Int32} {x3 : Int32} {y0 : Int32} (C : Cx (ωC α) κ cX3_isOne 4 "EveryoneWins$Kinds" (some FieldType.boolean)) (e : κ.2.2.2.2.2.2.2.2.2 = (some (.int v), σ')) {k4 : Int32 → Int32 → M2 → Option (Int32 × M2)} (hk4 : ∀ (x2' : Int32) (x3' : Int32) (σ : M2), k4 x2' x3' σ = some (v, σ') → J (ωC α) κ 1 4 4 [(1, .int x1), (2, .int x2'), (3, .int x3')] [] σ) {σ : M2} (h : F3_isOne_37 fu k4 x1 x3 y0 σ = some (v, σ')) : J (ωC α) κ 1 4 37 [(1, .int x1), (3, .int x3)] [.int y0] σ := by
  unfold F3_isOne_37 at h
  refine j_istore_n (L' := [(2, .int y0), (1, .int x1), (3, .int x3)]) C dX3_isOne_37 rfl rfl rfl ?_
  refine j_iinc (L' := [(3, .int (x3 + 1)), (2, .int y0), (1, .int x1)]) C 2 dX3_isOne_38 rfl rfl rfl rfl ?_
  refine j_goto (tgt := 4) C dX3_isOne_41 (by decide) ?_
  exact j_sub [2, 1, 0] rfl (hk4 _ _ _ h)
set_option maxRecDepth 10000 in
theorem b3_isOne_4 {α : WA} {κ : KT} {fu : Nat} {v : Int32} {σ' : M2} {x1 : Int32} {x2 : Int32} {x3 : Int32} (C : Cx (ωC α) κ cX3_isOne 4 "EveryoneWins$Kinds" (some FieldType.boolean)) (e : κ.2.2.2.2.2.2.2.2.2 = (some (.int v), σ'))  {σ : M2} (h : F3_isOne_4 fu x1 x2 x3 σ = some (v, σ')) : J (ωC α) κ 1 4 4 [(1, .int x1), (2, .int x2), (3, .int x3)] [] σ := by
  unfold F3_isOne_4 at h
  refine wl2_ind (fun x2 x3 σ => J (ωC α) κ 1 4 4 [(1, .int x1), (2, .int x2), (3, .int x3)] [] σ) ?_ fu x2 x3 σ h
  intro k4 hk4 x2 x3 σ h
  try dsimp only at h
  show J (ωC α) κ 1 4 4 [(1, .int x1), (2, .int x2), (3, .int x3)] [] σ
  refine j_iload_n C 2 dX3_isOne_4 rfl ?_
  refine j_iconst (v := 5) C dX3_isOne_5 (by decide) ?_
  refine j_icmp_gt (tgt := 44) C dX3_isOne_6 (by decide) (fun c1 => ?_) (fun c1 => ?_)
  · replace h := it c1 h
    refine j_iconst (v := 0) C dX3_isOne_44 (by decide) ?_
    cases h
    exact j_zret C e rfl dX3_isOne_45
  · replace h := ie c1 h
    refine j_iload_n C 1 dX3_isOne_9 rfl ?_
    refine j_if_lt (tgt := 44) C dX3_isOne_10 (by decide) (fun c2 => ?_) (fun c2 => ?_)
    · replace h := it c2 h
      refine j_iconst (v := 0) C dX3_isOne_44 (by decide) ?_
      cases h
      exact j_zret C e rfl dX3_isOne_45
    · replace h := ie c2 h
      refine j_iload_n C 1 dX3_isOne_13 rfl ?_
      refine j_iload_n C 0 dX3_isOne_14 rfl ?_
      refine j_icmp_ne (tgt := 20) C dX3_isOne_15 (by decide) (fun c3 => ?_) (fun c3 => ?_)
      · replace h := ie c3 h
        refine j_iload_n C 1 dX3_isOne_20 rfl ?_
        refine j_getsA C wd_821 dX3_isOne_21 ?_
        refine j_tlen C dX3_isOne_24 ?_
        refine j_icmp_ge (tgt := 36) C dX3_isOne_25 (by decide) (fun c4 => ?_) (fun c4 => ?_)
        · replace h := it c4 h
          refine j_iconst (v := -1) C dX3_isOne_36 (by decide) ?_
          exact j_sub [0, 2] rfl (b3_isOne_37 C e hk4 h)
        · replace h := ie c4 h
          refine j_getsA C wd_821 dX3_isOne_28 ?_
          refine j_iload_n C 1 dX3_isOne_31 rfl ?_
          obtain ⟨g5, h⟩ := gd_some h
          refine j_tald C (inb_in g5) dX3_isOne_32 ?_
          refine j_goto (tgt := 37) C dX3_isOne_33 (by decide) ?_
          exact j_sub [0, 2] rfl (b3_isOne_37 C e hk4 h)
      · replace h := it c3 h
        refine j_iconst (v := 1) C dX3_isOne_18 (by decide) ?_
        cases h
        exact j_zret C e rfl dX3_isOne_19
set_option maxRecDepth 10000 in
theorem c3_isOne (l : Launch) {α : WA} {fu : Nat} {a1 : Int32} {a2 : Int32} {σ σ' : M2} {v : Int32}  (h : F3_isOne fu a1 a2 σ = some (v, σ')) : Ct l (ωC α) yX3_isOne cX3_isOne 4 (some FieldType.boolean) 1 [.int a1, .int a2] σ (some (.int v)) σ' := by
  unfold F3_isOne at h
  refine Ct.of (own := "EveryoneWins$Kinds") (L := [(0, .int a1), (1, .int a2)]) (by decide +kernel) rfl rfl rfl (fun κ hl e C => ?_)
  show J (ωC α) κ 1 4 0 [(0, .int a1), (1, .int a2)] [] σ
  refine j_iload_n C 0 dX3_isOne_0 rfl ?_
  refine j_istore_n (L' := [(2, .int a1), (0, .int a1), (1, .int a2)]) C dX3_isOne_1 rfl rfl rfl ?_
  refine j_iconst (v := 0) C dX3_isOne_2 (by decide) ?_
  refine j_istore_n (L' := [(3, .int (0 : Int32)), (2, .int a1), (0, .int a1), (1, .int a2)]) C dX3_isOne_3 rfl rfl rfl ?_
  exact j_sub [3, 1, 0] rfl (b3_isOne_4 C e h)
set_option maxRecDepth 10000 in
theorem c3_inSack (l : Launch) {α : WA}  {a1 : Int32} {a2 : Int32} {σ σ' : M2} {v : Int32}  (h : F3_inSack a1 a2 σ = some (v, σ')) : Ct l (ωC α) yX3_inSack cX3_inSack 2 (some FieldType.int) 1 [.int a1, .int a2] σ (some (.int v)) σ' := by
  unfold F3_inSack at h
  refine Ct.of (own := "EveryoneWins$Kinds") (L := [(0, .int a1), (1, .int a2)]) (by decide +kernel) rfl rfl rfl (fun κ hl e C => ?_)
  show J (ωC α) κ 1 2 0 [(0, .int a1), (1, .int a2)] [] σ
  refine j_iload_n C 0 dX3_inSack_0 rfl ?_
  refine j_iconst (v := 2) C dX3_inSack_1 (by decide) ?_
  refine j_idiv C dX3_inSack_2 (by decide) ?_
  refine j_iload_n C 1 dX3_inSack_3 rfl ?_
  refine j_iadd C dX3_inSack_4 ?_
  cases h
  exact j_iret C e dX3_inSack_5
set_option maxRecDepth 10000 in
theorem c3_doesIn (l : Launch) {α : WA}  {a1 : Int32} {a2 : Int32} {a3 : Int32} {a4 : Int32} {σ σ' : M2} {v : Int32}  (h : F3_doesIn a1 a2 a3 a4 σ = some (v, σ')) : Ct l (ωC α) yX3_doesIn cX3_doesIn 4 (some FieldType.int) 2 [.int a1, .int a2, .int a3, .int a4] σ (some (.int v)) σ' := by
  unfold F3_doesIn at h
  refine Ct.of (own := "EveryoneWins$Kinds") (L := [(0, .int a1), (1, .int a2), (2, .int a3), (3, .int a4)]) (by decide +kernel) rfl rfl rfl (fun κ hl e C => ?_)
  show J (ωC α) κ 2 4 0 [(0, .int a1), (1, .int a2), (2, .int a3), (3, .int a4)] [] σ
  refine j_iload_n C 0 dX3_doesIn_0 rfl ?_
  by_cases c1 : a1 = (1 : Int32)
  · replace h := it c1 h
    refine j_tabEq (tgt := 36) C dX3_doesIn_1 c1 (by decide) (by decide) rfl (by decide) ?_
    refine j_iload_n C 1 dX3_doesIn_36 rfl ?_
    refine j_iload_n C 2 dX3_doesIn_37 rfl ?_
    obtain ⟨r2, s3, hc4, h⟩ := bnd_some h
    refine k_S (v := some (.int r2)) C sb_X3_inSack (c3_inSack _ hc4) rfl (by decide) wd_782 rfl dX3_doesIn_38 ?_
    show J (ωC α) κ _ _ 41 _ [.int r2] s3
    cases h
    exact j_iret C e dX3_doesIn_41
  replace h := ie c1 h
  by_cases c5 : a1 = (2 : Int32)
  · replace h := it c5 h
    refine j_tabEq (tgt := 42) C dX3_doesIn_1 c5 (by decide) (by decide) rfl (by decide) ?_
    refine j_iload_n C 2 dX3_doesIn_42 rfl ?_
    refine j_iload_n C 3 dX3_doesIn_43 rfl ?_
    refine j_iadd C dX3_doesIn_44 ?_
    cases h
    exact j_iret C e dX3_doesIn_45
  replace h := ie c5 h
  by_cases c6 : a1 = (3 : Int32)
  · replace h := it c6 h
    refine j_tabEq (tgt := 46) C dX3_doesIn_1 c6 (by decide) (by decide) rfl (by decide) ?_
    refine j_bipush (v := 99) C dX3_doesIn_46 (by decide) ?_
    refine j_iload_n C 1 dX3_doesIn_48 rfl ?_
    refine j_iload_n C 2 dX3_doesIn_49 rfl ?_
    obtain ⟨r7, s8, hc9, h⟩ := bnd_some h
    refine k_S (v := some (.int r7)) C sb_X3_inSack (c3_inSack _ hc9) rfl (by decide) wd_782 rfl dX3_doesIn_50 ?_
    show J (ωC α) κ _ _ 53 _ [.int r7, .int (99 : Int32)] s8
    refine j_isub C dX3_doesIn_53 ?_
    cases h
    exact j_iret C e dX3_doesIn_54
  replace h := ie c6 h
  by_cases c10 : a1 = (4 : Int32)
  · replace h := it c10 h
    refine j_tabEq (tgt := 55) C dX3_doesIn_1 c10 (by decide) (by decide) rfl (by decide) ?_
    refine j_iload_n C 2 dX3_doesIn_55 rfl ?_
    refine j_iload_n C 3 dX3_doesIn_56 rfl ?_
    refine j_iadd C dX3_doesIn_57 ?_
    refine j_iload_n C 1 dX3_doesIn_58 rfl ?_
    refine j_isub C dX3_doesIn_59 ?_
    cases h
    exact j_iret C e dX3_doesIn_60
  replace h := ie c10 h
  by_cases c11 : a1 = (5 : Int32)
  · replace h := it c11 h
    refine j_tabEq (tgt := 61) C dX3_doesIn_1 c11 (by decide) (by decide) rfl (by decide) ?_
    refine j_bipush (v := 7) C dX3_doesIn_61 (by decide) ?_
    refine j_iload_n C 1 dX3_doesIn_63 rfl ?_
    refine j_imul C dX3_doesIn_64 ?_
    refine j_iconst (v := 3) C dX3_doesIn_65 (by decide) ?_
    refine j_iload_n C 2 dX3_doesIn_66 rfl ?_
    refine j_imul C dX3_doesIn_67 ?_
    refine j_iadd C dX3_doesIn_68 ?_
    refine j_iload_n C 3 dX3_doesIn_69 rfl ?_
    refine j_iadd C dX3_doesIn_70 ?_
    refine j_bipush (v := 31) C dX3_doesIn_71 (by decide) ?_
    refine j_irem C dX3_doesIn_73 (by decide) ?_
    cases h
    exact j_iret C e dX3_doesIn_74
  replace h := ie c11 h
  refine j_tableOut (tgt := 75) C dX3_doesIn_1 (by have q0 := ne_ti c1 (z := 1) (by decide); have q1 := ne_ti c5 (z := 2) (by decide); have q2 := ne_ti c6 (z := 3) (by decide); have q3 := ne_ti c10 (z := 4) (by decide); have q4 := ne_ti c11 (z := 5) (by decide); omega) (by decide) ?_
  refine j_iload_n C 1 dX3_doesIn_75 rfl ?_
  cases h
  exact j_iret C e dX3_doesIn_76
set_option maxRecDepth 10000 in
theorem c3_yardsCountIn (l : Launch) {α : WA}  {a1 : Int32} {a2 : Int32} {a3 : Int32} {σ σ' : M2} {v : Int32}  (h : F3_yardsCountIn a1 a2 a3 σ = some (v, σ')) : Ct l (ωC α) yX3_yardsCountIn cX3_yardsCountIn 3 (some FieldType.int) 1 [.int a1, .int a2, .int a3] σ (some (.int v)) σ' := by
  unfold F3_yardsCountIn at h
  refine Ct.of (own := "EveryoneWins$Kinds") (L := [(0, .int a1), (1, .int a2), (2, .int a3)]) (by decide +kernel) rfl rfl rfl (fun κ hl e C => ?_)
  show J (ωC α) κ 1 3 0 [(0, .int a1), (1, .int a2), (2, .int a3)] [] σ
  refine j_iload_n C 0 dX3_yardsCountIn_0 rfl ?_
  by_cases c1 : a1 = (3 : Int32)
  · replace h := it c1 h
    refine j_lookup (tgt := 28) (off := 27) C dX3_yardsCountIn_1 (by decide) (lk_eq c1 (by decide)) (by decide) ?_
    refine j_iload_n C 1 dX3_yardsCountIn_28 rfl ?_
    refine j_iload_n C 2 dX3_yardsCountIn_29 rfl ?_
    refine j_imul C dX3_yardsCountIn_30 ?_
    refine j_iconst (v := 2) C dX3_yardsCountIn_31 (by decide) ?_
    refine j_idiv C dX3_yardsCountIn_32 (by decide) ?_
    cases h
    exact j_iret C e dX3_yardsCountIn_33
  replace h := ie c1 h
  by_cases c2 : a1 = (4 : Int32)
  · replace h := it c2 h
    refine j_lookup (tgt := 34) (off := 33) C dX3_yardsCountIn_1 (by decide) (lk_eq c2 (by decide)) (by decide) ?_
    refine j_iload_n C 1 dX3_yardsCountIn_34 rfl ?_
    refine j_ineg C dX3_yardsCountIn_35 ?_
    cases h
    exact j_iret C e dX3_yardsCountIn_36
  replace h := ie c2 h
  refine j_lookup (tgt := 37) (off := 36) C dX3_yardsCountIn_1 (by decide) (by have q3 := ne_ti c1 (z := 3) (by decide); have q4 := ne_ti c2 (z := 4) (by decide); show (if (3 : Int) = Int32.toInt a1 then (27 : Int) else if (4 : Int) = Int32.toInt a1 then (33 : Int) else (36 : Int)) = 36; rw [if_neg (Ne.symm q3), if_neg (Ne.symm q4)]) (by decide) ?_
  refine j_iload_n C 1 dX3_yardsCountIn_37 rfl ?_
  cases h
  exact j_iret C e dX3_yardsCountIn_38
set_option maxRecDepth 10000 in
theorem b3_ribbonsIn_15 {α : WA} {κ : KT} {fu : Nat} {v : Int32} {σ' : M2} {x0 : Int32} {x1 : Int32} {x2 : Int32} (C : Cx (ωC α) κ cX3_ribbonsIn 3 "EveryoneWins$Kinds" (some FieldType.int)) (e : κ.2.2.2.2.2.2.2.2.2 = (some (.int v), σ'))  {σ : M2} (h : F3_ribbonsIn_15 fu x0 x1 x2 σ = some (v, σ')) : J (ωC α) κ 2 3 15 [(0, .int x0), (1, .int x1), (2, .int x2)] [] σ := by
  unfold F3_ribbonsIn_15 at h
  refine j_iload_n C 0 dX3_ribbonsIn_15 rfl ?_
  refine j_iconst (v := 5) C dX3_ribbonsIn_16 (by decide) ?_
  refine j_icmp_ne (tgt := 26) C dX3_ribbonsIn_17 (by decide) (fun c1 => ?_) (fun c1 => ?_)
  · replace h := ie c1 h
    refine j_iload_n C 1 dX3_ribbonsIn_26 rfl ?_
    cases h
    exact j_iret C e dX3_ribbonsIn_27
  · replace h := it c1 h
    refine j_iload_n C 2 dX3_ribbonsIn_20 rfl ?_
    refine j_iconst (v := 2) C dX3_ribbonsIn_21 (by decide) ?_
    refine j_idiv C dX3_ribbonsIn_22 (by decide) ?_
    refine j_goto (tgt := 27) C dX3_ribbonsIn_23 (by decide) ?_
    cases h
    exact j_iret C e dX3_ribbonsIn_27
set_option maxRecDepth 10000 in
theorem c3_ribbonsIn (l : Launch) {α : WA} {fu : Nat} {a1 : Int32} {a2 : Int32} {a3 : Int32} {σ σ' : M2} {v : Int32}  (h : F3_ribbonsIn fu a1 a2 a3 σ = some (v, σ')) : Ct l (ωC α) yX3_ribbonsIn cX3_ribbonsIn 3 (some FieldType.int) 2 [.int a1, .int a2, .int a3] σ (some (.int v)) σ' := by
  unfold F3_ribbonsIn at h
  refine Ct.of (own := "EveryoneWins$Kinds") (L := [(0, .int a1), (1, .int a2), (2, .int a3)]) (by decide +kernel) rfl rfl rfl (fun κ hl e C => ?_)
  show J (ωC α) κ 2 3 0 [(0, .int a1), (1, .int a2), (2, .int a3)] [] σ
  refine j_iload_n C 0 dX3_ribbonsIn_0 rfl ?_
  refine j_iconst (v := 2) C dX3_ribbonsIn_1 (by decide) ?_
  obtain ⟨r1, s2, hc3, h⟩ := bnd_some h
  refine k_S (v := some (.int r1)) C sb_X3_isOne (c3_isOne _ hc3) rfl (by decide) wd_818 rfl dX3_ribbonsIn_2 ?_
  show J (ωC α) κ _ _ 5 _ [.int r1] s2
  refine j_if_eq (tgt := 15) C dX3_ribbonsIn_5 (by decide) (fun c4 => ?_) (fun c4 => ?_)
  · replace h := it c4 h
    exact (b3_ribbonsIn_15 C e h)
  · replace h := ie c4 h
    refine j_iload_n C 2 dX3_ribbonsIn_8 rfl ?_
    refine j_iconst (v := 3) C dX3_ribbonsIn_9 (by decide) ?_
    refine j_icmp_ge (tgt := 15) C dX3_ribbonsIn_10 (by decide) (fun c5 => ?_) (fun c5 => ?_)
    · replace h := it c5 h
      exact (b3_ribbonsIn_15 C e h)
    · replace h := ie c5 h
      refine j_iconst (v := 1) C dX3_ribbonsIn_13 (by decide) ?_
      cases h
      exact j_iret C e dX3_ribbonsIn_14
end
