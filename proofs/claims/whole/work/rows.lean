section
-- ===== PART A: goes FIRST, ahead of the names: the tables' words, and 'selects' of the private methods out of them =====
/-- a private method of a class that the tables say can be made, by its rows of tables_1 -/
def lw_okq (q : MethodName × Nat) : Prop := (q.1.cls ≠ "java/lang/invoke/MethodHandle" ∧ q.1.cls ≠ "java/lang/invoke/VarHandle") ∧ Cond.instantiable q.1.cls q.2 ∈ tables_1 ∧ Cond.privateMethod q.1 ∈ tables_1 ∧ Cond.instanceMethod q.1 ∈ tables_1
theorem lw_p0 : lw_okq (⟨"TapeHall", "isHome", "(I)Z"⟩, 18) := ⟨⟨by decide +kernel, by decide +kernel⟩, List.mem_of_getElem? (i := 17) (by decide +kernel), List.mem_of_getElem? (i := 224) (by decide +kernel), List.mem_of_getElem? (i := 225) (by decide +kernel)⟩
theorem lw_p1 : lw_okq (⟨"TapeHall", "isReaderSlot", "(I)Z"⟩, 18) := ⟨⟨by decide +kernel, by decide +kernel⟩, List.mem_of_getElem? (i := 17) (by decide +kernel), List.mem_of_getElem? (i := 273) (by decide +kernel), List.mem_of_getElem? (i := 274) (by decide +kernel)⟩
theorem lw_p2 : lw_okq (⟨"TapeHall", "tapeAt", "(I)LTapeHall$Tape;"⟩, 18) := ⟨⟨by decide +kernel, by decide +kernel⟩, List.mem_of_getElem? (i := 17) (by decide +kernel), List.mem_of_getElem? (i := 323) (by decide +kernel), List.mem_of_getElem? (i := 324) (by decide +kernel)⟩
theorem lw_p3 : lw_okq (⟨"TapeHall", "changeWaiting", "(LTapeHall$Ask;I)V"⟩, 18) := ⟨⟨by decide +kernel, by decide +kernel⟩, List.mem_of_getElem? (i := 17) (by decide +kernel), List.mem_of_getElem? (i := 379) (by decide +kernel), List.mem_of_getElem? (i := 380) (by decide +kernel)⟩
theorem lw_p4 : lw_okq (⟨"TapeHall", "moveArm", "(LTapeHall$Arm;LTapeHall$Arm;)V"⟩, 18) := ⟨⟨by decide +kernel, by decide +kernel⟩, List.mem_of_getElem? (i := 17) (by decide +kernel), List.mem_of_getElem? (i := 395) (by decide +kernel), List.mem_of_getElem? (i := 396) (by decide +kernel)⟩
theorem lw_p5 : lw_okq (⟨"TapeHall", "readerAt", "(I)LTapeHall$Reader;"⟩, 18) := ⟨⟨by decide +kernel, by decide +kernel⟩, List.mem_of_getElem? (i := 17) (by decide +kernel), List.mem_of_getElem? (i := 411) (by decide +kernel), List.mem_of_getElem? (i := 412) (by decide +kernel)⟩
theorem lw_p6 : lw_okq (⟨"TapeHall", "makePlan", "(I)Z"⟩, 18) := ⟨⟨by decide +kernel, by decide +kernel⟩, List.mem_of_getElem? (i := 17) (by decide +kernel), List.mem_of_getElem? (i := 422) (by decide +kernel), List.mem_of_getElem? (i := 423) (by decide +kernel)⟩
theorem lw_p7 : lw_okq (⟨"TapeHall$Plan", "fillState", "(III)V"⟩, 14) := ⟨⟨by decide +kernel, by decide +kernel⟩, List.mem_of_getElem? (i := 73) (by decide +kernel), List.mem_of_getElem? (i := 445) (by decide +kernel), List.mem_of_getElem? (i := 446) (by decide +kernel)⟩
theorem lw_p8 : lw_okq (⟨"TapeHall$Plan", "canLeave", "(II)Z"⟩, 14) := ⟨⟨by decide +kernel, by decide +kernel⟩, List.mem_of_getElem? (i := 73) (by decide +kernel), List.mem_of_getElem? (i := 464) (by decide +kernel), List.mem_of_getElem? (i := 465) (by decide +kernel)⟩
theorem lw_p9 : lw_okq (⟨"TapeHall$Plan", "best", "(IIZ)I"⟩, 14) := ⟨⟨by decide +kernel, by decide +kernel⟩, List.mem_of_getElem? (i := 73) (by decide +kernel), List.mem_of_getElem? (i := 472) (by decide +kernel), List.mem_of_getElem? (i := 473) (by decide +kernel)⟩
theorem lw_p10 : lw_okq (⟨"TapeHall", "startWork", "(LTapeHall$Tape;LTapeHall$Reader;)V"⟩, 18) := ⟨⟨by decide +kernel, by decide +kernel⟩, List.mem_of_getElem? (i := 17) (by decide +kernel), List.mem_of_getElem? (i := 490) (by decide +kernel), List.mem_of_getElem? (i := 491) (by decide +kernel)⟩
theorem lw_p11 : lw_okq (⟨"TapeHall", "askAt", "(I)LTapeHall$Ask;"⟩, 18) := ⟨⟨by decide +kernel, by decide +kernel⟩, List.mem_of_getElem? (i := 17) (by decide +kernel), List.mem_of_getElem? (i := 499) (by decide +kernel), List.mem_of_getElem? (i := 500) (by decide +kernel)⟩
theorem lw_p12 : lw_okq (⟨"TapeHall", "workIn", "(LTapeHall$Reader;)I"⟩, 18) := ⟨⟨by decide +kernel, by decide +kernel⟩, List.mem_of_getElem? (i := 17) (by decide +kernel), List.mem_of_getElem? (i := 508) (by decide +kernel), List.mem_of_getElem? (i := 509) (by decide +kernel)⟩
theorem lw_p13 : lw_okq (⟨"TapeHall", "endAsk", "(LTapeHall$Ask;LTapeHall$Tape;)V"⟩, 18) := ⟨⟨by decide +kernel, by decide +kernel⟩, List.mem_of_getElem? (i := 17) (by decide +kernel), List.mem_of_getElem? (i := 517) (by decide +kernel), List.mem_of_getElem? (i := 518) (by decide +kernel)⟩
theorem lw_p14 : lw_okq (⟨"TapeHall", "findJob", "(LTapeHall$Arm;LTapeHall$Arm;)V"⟩, 18) := ⟨⟨by decide +kernel, by decide +kernel⟩, List.mem_of_getElem? (i := 17) (by decide +kernel), List.mem_of_getElem? (i := 545) (by decide +kernel), List.mem_of_getElem? (i := 546) (by decide +kernel)⟩
theorem lw_p15 : lw_okq (⟨"TapeHall", "clearReader", "(LTapeHall$Arm;LTapeHall$Arm;)Z"⟩, 18) := ⟨⟨by decide +kernel, by decide +kernel⟩, List.mem_of_getElem? (i := 17) (by decide +kernel), List.mem_of_getElem? (i := 549) (by decide +kernel), List.mem_of_getElem? (i := 550) (by decide +kernel)⟩
def lw_privs_1 : List (MethodName × Nat) := [(⟨"TapeHall", "isHome", "(I)Z"⟩, 18), (⟨"TapeHall", "isReaderSlot", "(I)Z"⟩, 18), (⟨"TapeHall", "tapeAt", "(I)LTapeHall$Tape;"⟩, 18), (⟨"TapeHall", "changeWaiting", "(LTapeHall$Ask;I)V"⟩, 18), (⟨"TapeHall", "moveArm", "(LTapeHall$Arm;LTapeHall$Arm;)V"⟩, 18), (⟨"TapeHall", "readerAt", "(I)LTapeHall$Reader;"⟩, 18), (⟨"TapeHall", "makePlan", "(I)Z"⟩, 18), (⟨"TapeHall$Plan", "fillState", "(III)V"⟩, 14), (⟨"TapeHall$Plan", "canLeave", "(II)Z"⟩, 14), (⟨"TapeHall$Plan", "best", "(IIZ)I"⟩, 14), (⟨"TapeHall", "startWork", "(LTapeHall$Tape;LTapeHall$Reader;)V"⟩, 18), (⟨"TapeHall", "askAt", "(I)LTapeHall$Ask;"⟩, 18), (⟨"TapeHall", "workIn", "(LTapeHall$Reader;)I"⟩, 18), (⟨"TapeHall", "endAsk", "(LTapeHall$Ask;LTapeHall$Tape;)V"⟩, 18), (⟨"TapeHall", "findJob", "(LTapeHall$Arm;LTapeHall$Arm;)V"⟩, 18), (⟨"TapeHall", "clearReader", "(LTapeHall$Arm;LTapeHall$Arm;)Z"⟩, 18)]
theorem lw_r1 : ∀ q ∈ lw_privs_1, lw_okq q := List.forall_mem_cons.mpr ⟨lw_p0, List.forall_mem_cons.mpr ⟨lw_p1, List.forall_mem_cons.mpr ⟨lw_p2, List.forall_mem_cons.mpr ⟨lw_p3, List.forall_mem_cons.mpr ⟨lw_p4, List.forall_mem_cons.mpr ⟨lw_p5, List.forall_mem_cons.mpr ⟨lw_p6, List.forall_mem_cons.mpr ⟨lw_p7, List.forall_mem_cons.mpr ⟨lw_p8, List.forall_mem_cons.mpr ⟨lw_p9, List.forall_mem_cons.mpr ⟨lw_p10, List.forall_mem_cons.mpr ⟨lw_p11, List.forall_mem_cons.mpr ⟨lw_p12, List.forall_mem_cons.mpr ⟨lw_p13, List.forall_mem_cons.mpr ⟨lw_p14, List.forall_mem_cons.mpr ⟨lw_p15, fun _ h => absurd h List.not_mem_nil⟩⟩⟩⟩⟩⟩⟩⟩⟩⟩⟩⟩⟩⟩⟩⟩
theorem lw_p16 : lw_okq (⟨"TapeHall", "bringChosen", "(LTapeHall$Arm;LTapeHall$Arm;)V"⟩, 18) := ⟨⟨by decide +kernel, by decide +kernel⟩, List.mem_of_getElem? (i := 17) (by decide +kernel), List.mem_of_getElem? (i := 572) (by decide +kernel), List.mem_of_getElem? (i := 573) (by decide +kernel)⟩
theorem lw_p17 : lw_okq (⟨"TapeHall", "firstEmpty", "()I"⟩, 18) := ⟨⟨by decide +kernel, by decide +kernel⟩, List.mem_of_getElem? (i := 17) (by decide +kernel), List.mem_of_getElem? (i := 576) (by decide +kernel), List.mem_of_getElem? (i := 577) (by decide +kernel)⟩
theorem lw_p18 : lw_okq (⟨"TapeHall", "chosenFor", "(I)I"⟩, 18) := ⟨⟨by decide +kernel, by decide +kernel⟩, List.mem_of_getElem? (i := 17) (by decide +kernel), List.mem_of_getElem? (i := 580) (by decide +kernel), List.mem_of_getElem? (i := 581) (by decide +kernel)⟩
theorem lw_p19 : lw_okq (⟨"TapeHall", "overdueTape", "()I"⟩, 18) := ⟨⟨by decide +kernel, by decide +kernel⟩, List.mem_of_getElem? (i := 17) (by decide +kernel), List.mem_of_getElem? (i := 584) (by decide +kernel), List.mem_of_getElem? (i := 585) (by decide +kernel)⟩
theorem lw_p20 : lw_okq (⟨"TapeHall", "isFree", "(I)Z"⟩, 18) := ⟨⟨by decide +kernel, by decide +kernel⟩, List.mem_of_getElem? (i := 17) (by decide +kernel), List.mem_of_getElem? (i := 588) (by decide +kernel), List.mem_of_getElem? (i := 589) (by decide +kernel)⟩
theorem lw_p21 : lw_okq (⟨"TapeHall", "worthiestTape", "(I)I"⟩, 18) := ⟨⟨by decide +kernel, by decide +kernel⟩, List.mem_of_getElem? (i := 17) (by decide +kernel), List.mem_of_getElem? (i := 596) (by decide +kernel), List.mem_of_getElem? (i := 597) (by decide +kernel)⟩
theorem lw_p22 : lw_okq (⟨"TapeHall", "scrubTape", "()I"⟩, 18) := ⟨⟨by decide +kernel, by decide +kernel⟩, List.mem_of_getElem? (i := 17) (by decide +kernel), List.mem_of_getElem? (i := 605) (by decide +kernel), List.mem_of_getElem? (i := 606) (by decide +kernel)⟩
theorem lw_p23 : lw_okq (⟨"TapeHall", "waitingOf", "(I)I"⟩, 18) := ⟨⟨by decide +kernel, by decide +kernel⟩, List.mem_of_getElem? (i := 17) (by decide +kernel), List.mem_of_getElem? (i := 621) (by decide +kernel), List.mem_of_getElem? (i := 622) (by decide +kernel)⟩
theorem lw_p24 : lw_okq (⟨"TapeHall$Shelf", "best", "(I)J"⟩, 8) := ⟨⟨by decide +kernel, by decide +kernel⟩, List.mem_of_getElem? (i := 127) (by decide +kernel), List.mem_of_getElem? (i := 680) (by decide +kernel), List.mem_of_getElem? (i := 681) (by decide +kernel)⟩
theorem lw_p25 : lw_okq (⟨"TapeHall$Shelf", "countsOf", "(I)I"⟩, 8) := ⟨⟨by decide +kernel, by decide +kernel⟩, List.mem_of_getElem? (i := 127) (by decide +kernel), List.mem_of_getElem? (i := 684) (by decide +kernel), List.mem_of_getElem? (i := 685) (by decide +kernel)⟩
theorem lw_p26 : lw_okq (⟨"TapeHall", "asksThatAre", "(I)I"⟩, 18) := ⟨⟨by decide +kernel, by decide +kernel⟩, List.mem_of_getElem? (i := 17) (by decide +kernel), List.mem_of_getElem? (i := 711) (by decide +kernel), List.mem_of_getElem? (i := 712) (by decide +kernel)⟩
theorem lw_p27 : lw_okq (⟨"java/lang/Throwable", "fillInStackTrace", "(I)Ljava/lang/Throwable;"⟩, 6) := ⟨⟨by decide +kernel, by decide +kernel⟩, List.mem_of_getElem? (i := 763) (by decide +kernel), List.mem_of_getElem? (i := 761) (by decide +kernel), List.mem_of_getElem? (i := 762) (by decide +kernel)⟩
theorem lw_p28 : lw_okq (⟨"TapeHallModel", "isTape", "(I)Z"⟩, 48) := ⟨⟨by decide +kernel, by decide +kernel⟩, List.mem_of_getElem? (i := 793) (by decide +kernel), List.mem_of_getElem? (i := 960) (by decide +kernel), List.mem_of_getElem? (i := 961) (by decide +kernel)⟩
theorem lw_p29 : lw_okq (⟨"TapeHallModel", "orders", "(IZ)V"⟩, 48) := ⟨⟨by decide +kernel, by decide +kernel⟩, List.mem_of_getElem? (i := 793) (by decide +kernel), List.mem_of_getElem? (i := 976) (by decide +kernel), List.mem_of_getElem? (i := 977) (by decide +kernel)⟩
theorem lw_p30 : lw_okq (⟨"TapeHallModel", "gathers", "(I)V"⟩, 48) := ⟨⟨by decide +kernel, by decide +kernel⟩, List.mem_of_getElem? (i := 793) (by decide +kernel), List.mem_of_getElem? (i := 980) (by decide +kernel), List.mem_of_getElem? (i := 981) (by decide +kernel)⟩
theorem lw_p31 : lw_okq (⟨"TapeHallModel", "tries", "(IIIIIIZ)V"⟩, 48) := ⟨⟨by decide +kernel, by decide +kernel⟩, List.mem_of_getElem? (i := 793) (by decide +kernel), List.mem_of_getElem? (i := 984) (by decide +kernel), List.mem_of_getElem? (i := 985) (by decide +kernel)⟩
def lw_privs_2 : List (MethodName × Nat) := [(⟨"TapeHall", "bringChosen", "(LTapeHall$Arm;LTapeHall$Arm;)V"⟩, 18), (⟨"TapeHall", "firstEmpty", "()I"⟩, 18), (⟨"TapeHall", "chosenFor", "(I)I"⟩, 18), (⟨"TapeHall", "overdueTape", "()I"⟩, 18), (⟨"TapeHall", "isFree", "(I)Z"⟩, 18), (⟨"TapeHall", "worthiestTape", "(I)I"⟩, 18), (⟨"TapeHall", "scrubTape", "()I"⟩, 18), (⟨"TapeHall", "waitingOf", "(I)I"⟩, 18), (⟨"TapeHall$Shelf", "best", "(I)J"⟩, 8), (⟨"TapeHall$Shelf", "countsOf", "(I)I"⟩, 8), (⟨"TapeHall", "asksThatAre", "(I)I"⟩, 18), (⟨"java/lang/Throwable", "fillInStackTrace", "(I)Ljava/lang/Throwable;"⟩, 6), (⟨"TapeHallModel", "isTape", "(I)Z"⟩, 48), (⟨"TapeHallModel", "orders", "(IZ)V"⟩, 48), (⟨"TapeHallModel", "gathers", "(I)V"⟩, 48), (⟨"TapeHallModel", "tries", "(IIIIIIZ)V"⟩, 48)]
theorem lw_r2 : ∀ q ∈ lw_privs_2, lw_okq q := List.forall_mem_cons.mpr ⟨lw_p16, List.forall_mem_cons.mpr ⟨lw_p17, List.forall_mem_cons.mpr ⟨lw_p18, List.forall_mem_cons.mpr ⟨lw_p19, List.forall_mem_cons.mpr ⟨lw_p20, List.forall_mem_cons.mpr ⟨lw_p21, List.forall_mem_cons.mpr ⟨lw_p22, List.forall_mem_cons.mpr ⟨lw_p23, List.forall_mem_cons.mpr ⟨lw_p24, List.forall_mem_cons.mpr ⟨lw_p25, List.forall_mem_cons.mpr ⟨lw_p26, List.forall_mem_cons.mpr ⟨lw_p27, List.forall_mem_cons.mpr ⟨lw_p28, List.forall_mem_cons.mpr ⟨lw_p29, List.forall_mem_cons.mpr ⟨lw_p30, List.forall_mem_cons.mpr ⟨lw_p31, fun _ h => absurd h List.not_mem_nil⟩⟩⟩⟩⟩⟩⟩⟩⟩⟩⟩⟩⟩⟩⟩⟩
theorem lw_p32 : lw_okq (⟨"TapeHallModel", "costOf", "(III)I"⟩, 48) := ⟨⟨by decide +kernel, by decide +kernel⟩, List.mem_of_getElem? (i := 793) (by decide +kernel), List.mem_of_getElem? (i := 988) (by decide +kernel), List.mem_of_getElem? (i := 989) (by decide +kernel)⟩
theorem lw_p33 : lw_okq (⟨"TapeHallModel", "fromOf", "(I)I"⟩, 48) := ⟨⟨by decide +kernel, by decide +kernel⟩, List.mem_of_getElem? (i := 793) (by decide +kernel), List.mem_of_getElem? (i := 992) (by decide +kernel), List.mem_of_getElem? (i := 993) (by decide +kernel)⟩
theorem lw_p34 : lw_okq (⟨"TapeHallModel", "toOf", "(I)I"⟩, 48) := ⟨⟨by decide +kernel, by decide +kernel⟩, List.mem_of_getElem? (i := 793) (by decide +kernel), List.mem_of_getElem? (i := 996) (by decide +kernel), List.mem_of_getElem? (i := 997) (by decide +kernel)⟩
theorem lw_p35 : lw_okq (⟨"TapeHallModel", "isReader", "(I)Z"⟩, 48) := ⟨⟨by decide +kernel, by decide +kernel⟩, List.mem_of_getElem? (i := 793) (by decide +kernel), List.mem_of_getElem? (i := 1012) (by decide +kernel), List.mem_of_getElem? (i := 1013) (by decide +kernel)⟩
theorem lw_p36 : lw_okq (⟨"TapeHallModel", "moves", "(I)V"⟩, 48) := ⟨⟨by decide +kernel, by decide +kernel⟩, List.mem_of_getElem? (i := 793) (by decide +kernel), List.mem_of_getElem? (i := 1024) (by decide +kernel), List.mem_of_getElem? (i := 1025) (by decide +kernel)⟩
theorem lw_p37 : lw_okq (⟨"TapeHallModel", "begins", "(II)V"⟩, 48) := ⟨⟨by decide +kernel, by decide +kernel⟩, List.mem_of_getElem? (i := 793) (by decide +kernel), List.mem_of_getElem? (i := 1028) (by decide +kernel), List.mem_of_getElem? (i := 1029) (by decide +kernel)⟩
theorem lw_p38 : lw_okq (⟨"TapeHallModel", "works", "(I)I"⟩, 48) := ⟨⟨by decide +kernel, by decide +kernel⟩, List.mem_of_getElem? (i := 793) (by decide +kernel), List.mem_of_getElem? (i := 1032) (by decide +kernel), List.mem_of_getElem? (i := 1033) (by decide +kernel)⟩
theorem lw_p39 : lw_okq (⟨"TapeHallModel", "results", "(I)J"⟩, 48) := ⟨⟨by decide +kernel, by decide +kernel⟩, List.mem_of_getElem? (i := 793) (by decide +kernel), List.mem_of_getElem? (i := 1036) (by decide +kernel), List.mem_of_getElem? (i := 1037) (by decide +kernel)⟩
theorem lw_p40 : lw_okq (⟨"TapeHallModel", "asksForJob", "(I)V"⟩, 48) := ⟨⟨by decide +kernel, by decide +kernel⟩, List.mem_of_getElem? (i := 793) (by decide +kernel), List.mem_of_getElem? (i := 1043) (by decide +kernel), List.mem_of_getElem? (i := 1044) (by decide +kernel)⟩
theorem lw_p41 : lw_okq (⟨"TapeHallModel", "hasJob", "(I)Z"⟩, 48) := ⟨⟨by decide +kernel, by decide +kernel⟩, List.mem_of_getElem? (i := 793) (by decide +kernel), List.mem_of_getElem? (i := 1047) (by decide +kernel), List.mem_of_getElem? (i := 1048) (by decide +kernel)⟩
theorem lw_p42 : lw_okq (⟨"TapeHallModel", "may", "(III)Z"⟩, 48) := ⟨⟨by decide +kernel, by decide +kernel⟩, List.mem_of_getElem? (i := 793) (by decide +kernel), List.mem_of_getElem? (i := 1051) (by decide +kernel), List.mem_of_getElem? (i := 1052) (by decide +kernel)⟩
theorem lw_p43 : lw_okq (⟨"TapeHallModel", "takesJob", "(IIIIIZ)V"⟩, 48) := ⟨⟨by decide +kernel, by decide +kernel⟩, List.mem_of_getElem? (i := 793) (by decide +kernel), List.mem_of_getElem? (i := 1057) (by decide +kernel), List.mem_of_getElem? (i := 1058) (by decide +kernel)⟩
theorem lw_p44 : lw_okq (⟨"TapeHallModel", "chosen", "(I)I"⟩, 48) := ⟨⟨by decide +kernel, by decide +kernel⟩, List.mem_of_getElem? (i := 793) (by decide +kernel), List.mem_of_getElem? (i := 1061) (by decide +kernel), List.mem_of_getElem? (i := 1062) (by decide +kernel)⟩
theorem lw_p45 : lw_okq (⟨"TapeHallModel", "isAtHome", "(I)Z"⟩, 48) := ⟨⟨by decide +kernel, by decide +kernel⟩, List.mem_of_getElem? (i := 793) (by decide +kernel), List.mem_of_getElem? (i := 1065) (by decide +kernel), List.mem_of_getElem? (i := 1066) (by decide +kernel)⟩
theorem lw_p46 : lw_okq (⟨"TapeHallModel", "worth", "(II)I"⟩, 48) := ⟨⟨by decide +kernel, by decide +kernel⟩, List.mem_of_getElem? (i := 793) (by decide +kernel), List.mem_of_getElem? (i := 1069) (by decide +kernel), List.mem_of_getElem? (i := 1070) (by decide +kernel)⟩
theorem lw_p47 : lw_okq (⟨"TapeHallModel", "waiting", "(I)I"⟩, 48) := ⟨⟨by decide +kernel, by decide +kernel⟩, List.mem_of_getElem? (i := 793) (by decide +kernel), List.mem_of_getElem? (i := 1086) (by decide +kernel), List.mem_of_getElem? (i := 1087) (by decide +kernel)⟩
def lw_privs_3 : List (MethodName × Nat) := [(⟨"TapeHallModel", "costOf", "(III)I"⟩, 48), (⟨"TapeHallModel", "fromOf", "(I)I"⟩, 48), (⟨"TapeHallModel", "toOf", "(I)I"⟩, 48), (⟨"TapeHallModel", "isReader", "(I)Z"⟩, 48), (⟨"TapeHallModel", "moves", "(I)V"⟩, 48), (⟨"TapeHallModel", "begins", "(II)V"⟩, 48), (⟨"TapeHallModel", "works", "(I)I"⟩, 48), (⟨"TapeHallModel", "results", "(I)J"⟩, 48), (⟨"TapeHallModel", "asksForJob", "(I)V"⟩, 48), (⟨"TapeHallModel", "hasJob", "(I)Z"⟩, 48), (⟨"TapeHallModel", "may", "(III)Z"⟩, 48), (⟨"TapeHallModel", "takesJob", "(IIIIIZ)V"⟩, 48), (⟨"TapeHallModel", "chosen", "(I)I"⟩, 48), (⟨"TapeHallModel", "isAtHome", "(I)Z"⟩, 48), (⟨"TapeHallModel", "worth", "(II)I"⟩, 48), (⟨"TapeHallModel", "waiting", "(I)I"⟩, 48)]
theorem lw_r3 : ∀ q ∈ lw_privs_3, lw_okq q := List.forall_mem_cons.mpr ⟨lw_p32, List.forall_mem_cons.mpr ⟨lw_p33, List.forall_mem_cons.mpr ⟨lw_p34, List.forall_mem_cons.mpr ⟨lw_p35, List.forall_mem_cons.mpr ⟨lw_p36, List.forall_mem_cons.mpr ⟨lw_p37, List.forall_mem_cons.mpr ⟨lw_p38, List.forall_mem_cons.mpr ⟨lw_p39, List.forall_mem_cons.mpr ⟨lw_p40, List.forall_mem_cons.mpr ⟨lw_p41, List.forall_mem_cons.mpr ⟨lw_p42, List.forall_mem_cons.mpr ⟨lw_p43, List.forall_mem_cons.mpr ⟨lw_p44, List.forall_mem_cons.mpr ⟨lw_p45, List.forall_mem_cons.mpr ⟨lw_p46, List.forall_mem_cons.mpr ⟨lw_p47, fun _ h => absurd h List.not_mem_nil⟩⟩⟩⟩⟩⟩⟩⟩⟩⟩⟩⟩⟩⟩⟩⟩
theorem lw_p48 : lw_okq (⟨"TapeHallModel", "inState", "(I)I"⟩, 48) := ⟨⟨by decide +kernel, by decide +kernel⟩, List.mem_of_getElem? (i := 793) (by decide +kernel), List.mem_of_getElem? (i := 1103) (by decide +kernel), List.mem_of_getElem? (i := 1104) (by decide +kernel)⟩
theorem lw_p49 : lw_okq (⟨"TapeHallModel", "ages", "(Z)I"⟩, 48) := ⟨⟨by decide +kernel, by decide +kernel⟩, List.mem_of_getElem? (i := 793) (by decide +kernel), List.mem_of_getElem? (i := 1107) (by decide +kernel), List.mem_of_getElem? (i := 1108) (by decide +kernel)⟩
theorem lw_p50 : lw_okq (⟨"TapeHallModel", "lays", "()V"⟩, 48) := ⟨⟨by decide +kernel, by decide +kernel⟩, List.mem_of_getElem? (i := 793) (by decide +kernel), List.mem_of_getElem? (i := 1119) (by decide +kernel), List.mem_of_getElem? (i := 1120) (by decide +kernel)⟩
theorem lw_p51 : lw_okq (⟨"TapeHallModel", "lays", "(IIIJ)V"⟩, 48) := ⟨⟨by decide +kernel, by decide +kernel⟩, List.mem_of_getElem? (i := 793) (by decide +kernel), List.mem_of_getElem? (i := 1123) (by decide +kernel), List.mem_of_getElem? (i := 1124) (by decide +kernel)⟩
def lw_privs_4 : List (MethodName × Nat) := [(⟨"TapeHallModel", "inState", "(I)I"⟩, 48), (⟨"TapeHallModel", "ages", "(Z)I"⟩, 48), (⟨"TapeHallModel", "lays", "()V"⟩, 48), (⟨"TapeHallModel", "lays", "(IIIJ)V"⟩, 48)]
theorem lw_r4 : ∀ q ∈ lw_privs_4, lw_okq q := List.forall_mem_cons.mpr ⟨lw_p48, List.forall_mem_cons.mpr ⟨lw_p49, List.forall_mem_cons.mpr ⟨lw_p50, List.forall_mem_cons.mpr ⟨lw_p51, fun _ h => absurd h List.not_mem_nil⟩⟩⟩⟩
def lw_privs : List (MethodName × Nat) := lw_privs_1 ++ (lw_privs_2 ++ (lw_privs_3 ++ (lw_privs_4)))
def lw_tbl : List Cond := k2_sels lw_privs ++ tables_1
theorem lw_privs_ok : ∀ q ∈ lw_privs, lw_okq q := by
  show ∀ q ∈ lw_privs_1 ++ (lw_privs_2 ++ (lw_privs_3 ++ (lw_privs_4))), lw_okq q
  exact List.forall_mem_append.mpr ⟨lw_r1, List.forall_mem_append.mpr ⟨lw_r2, List.forall_mem_append.mpr ⟨lw_r3, lw_r4⟩⟩⟩
/-! ===== BEGIN words of one list among another's, by their places ===== -/
theorem goodIn_r {big : List Cond} (ws : List Cond) (ps : List Nat) (hp : ws = ps.filterMap (fun i => big[i]?)) (h : ws.all goodWord = true) : GoodIn big ws := by
  intro w hw
  have h1 := List.all_eq_true.mp h w hw
  rw [hp] at hw
  obtain ⟨i, -, hi⟩ := List.mem_filterMap.mp hw
  have hm : w ∈ big := by first | exact List.mem_of_getElem? hi | exact List.getElem?_mem hi
  exact ⟨hm, good_of_word h1⟩
theorem goodIn_app {big a b : List Cond} (ha : GoodIn big a) (hb : GoodIn big b) : GoodIn big (a ++ b) := fun w h => (List.mem_append.mp h).elim (ha w) (hb w)
theorem goodIn_ca {big a b : List Cond} {c : Cond} (ha : GoodIn big (c :: a)) (hb : GoodIn big b) : GoodIn big (c :: (a ++ b)) := fun w h => (List.mem_cons.mp h).elim (fun e => ha w (List.mem_cons.mpr (Or.inl e))) (fun h => (List.mem_append.mp h).elim (fun h => ha w (List.mem_cons.mpr (Or.inr h))) (hb w))
theorem goodIn_sub {big ws : List Cond} (hm : ∀ w ∈ ws, w ∈ big) (h : ws.all goodWord = true) : GoodIn big ws := fun w hw => ⟨hm w hw, good_of_word (List.all_eq_true.mp h w hw)⟩
/-! ===== END ===== -/

/-! ===== BEGIN exceptions that leave a method, and their catching by the caller (launches without stack traces) ===== -/
section VXA
/-! The laws vx_back, vx_callV, vx_callS, vx_callSW, vx_throw0, vx_throwS follow proofs of the library, with one case more: JvmDerived/Free/Laws.lean (Back.of_free), Shelf42/LK1.lean (callV, callS), Shelf/KitTraced.lean (throwNew0V, throwNewS). -/
/-- where a method has thrown q: the class by its name, the cell, what was written, the world -/
def vx_T (XC : String → State → State → Prop) (st : State) (q : Addr) (t : State) (mc ms : Nat) (free : Addr → Prop) : Prop :=
  ∃ (E : String) (ce : Cell) (L : List Loc), XC E st t ∧ t.heap[q]? = some ce ∧ ce.vm = .none ∧ st.vm.findClass E = some ce.cls ∧ st.WarmedH t.vm ∧ st.sameButNew ({ t with vm := st.vm } : State) L mc ms ∧ ∀ z ∈ L, free z.base
def vx_Q (Qc : Array Value → State → Outcome → State → Prop) (XC : String → State → State → Prop) (mc ms : Nat) (free : Addr → Prop) : Array Value → State → Outcome → State → Prop := fun a st o t =>
  (Qc a st o t ∧ ∃ L, FrameEnd st o t L mc ms ∧ ∀ q ∈ L, free q.base) ∨ ∃ q, o = .threw q ∧ vx_T XC st q t mc ms free
/-- a callee that returns or throws -/
def vx_Met (l : Launch) (y : MethodName) (ws : List Cond) (rm : Room) (Pc : Array Value → State → Prop) (Qc : Array Value → State → Outcome → State → Prop) (XC : String → State → State → Prop) (mc ms : Nat) (free : Addr → Prop) : Prop :=
  MetFree l y (headSpec ws rm) Pc (fun _ _ _ _ _ => True) (vx_Q Qc XC mc ms free)
def vx_Post (XC : String → State → State → Prop) (mc ms : Nat) (free : Addr → Prop) : Pt → Array Value → Addr → Pt → Prop := fun A a q B =>
  ∃ (g : JFrame) (mk : MethodId) (t : State) (L : List Loc) (E : String) (ce : Cell), B.U.heap = t.heap ∧ B.U.vm = t.vm ∧ XC E (A.U.calling g mk a) t ∧ t.heap[q]? = some ce ∧ ce.vm = .none ∧ A.U.vm.findClass E = some ce.cls ∧ B.locs = A.locs ++ L ∧ (∀ z ∈ L, free z.base) ∧ B.cells = A.cells + mc ∧ B.slots = A.slots + ms
def vx_Back (l : Launch) (R : Room) (p : Program) (e : Env) (below : List Frame) (s : State) (sargs : Array Value) (y : MethodName) (len W9 : Nat)
    (Pre : Pt → Array Value → Prop) (Post : Pt → Array Value → Option Value → Pt → Prop) (PostX : Pt → Array Value → Addr → Pt → Prop) : Prop :=
  ∀ (m : MethodId) (meth : Method) (c : Code) (A : Pt) (g : JFrame) (ig : Instr) (mk : MethodId) (a : Array Value),
    Stand p l e R s m sargs below meth c A.U A.locs A.cells A.slots → g.method = m → g.locals.size = c.maxLocals → decode c.code g.pc = .ok (ig, len) →
    2 * g.monitorRoom + (g.stack.map fun v => v.category).sum ≤ W9 → A.U.methodNamed? y = some mk → Pre A a →
    (∃ (v : Option Value) (B : Pt), Stand p l e R s m sargs below meth c B.U B.locs B.cells B.slots ∧ Post A a v B ∧
      Steps p.tables e below (doInvoke e (A.U.setTop g) [] mk a).1 (B.U.setTop { g with pc := g.pc + len, stack := v.toList ++ g.stack })) ∨
    (∃ (q : Addr) (B : Pt), Stand p l e R s m sargs below meth c B.U B.locs B.cells B.slots ∧ PostX A a q B ∧
      Steps p.tables e below (doInvoke e (A.U.setTop g) [] mk a).1 ((B.U.setTop g).pushFrame (.throwing q)))
section Payer
variable {l : Launch} {R : Room} {p : Program} {e : Env} {below : List Frame} {s : State} {sargs : Array Value} {y : MethodName} {len W9 : Nat}
theorem vx_back {ws : List Cond} {rm : Room} {Pc : Array Value → State → Prop} {Qc : Array Value → State → Outcome → State → Prop} {XC : String → State → State → Prop} {mc ms : Nat} {free : Addr → Prop} {bytes : ByteArray} {maxL : Nat} {ret : Option FieldType}
    (hM : vx_Met l y ws rm Pc Qc XC mc ms free) (hblind : FrameBlind Pc) (hrc : rm.cells = mc) (hrs : rm.slots = ms)
    (hframes : rm.frames + 1 ≤ R.frames) (hlocals : W9 + (maxL + 11) + rm.locals ≤ R.locals)
    (hws : ∀ w ∈ ws, ∀ a' U, s.WarmedH U.vm → w.before a' U = true) (hcode : Cond.code y bytes maxL ret ∈ ws) (hinit : ∀ a' U, s.WarmedH U.vm → (Cond.initialized y.cls).before a' U = true) :
    vx_Back l R p e below s sargs y len W9 (PreOf R mc ms Pc) (PostOf Qc mc ms free) (vx_Post XC mc ms free) := by
  intro m meth c A g ig mk a X hg hsize hdg hW hn hp
  have h1 : (headSpec ws rm).pre.before a A.U = true := atoms_intro fun w hw => hws w hw _ _ X.warmed
  have h2 : (Cond.code y bytes maxL ret).before a A.U = true := hws _ hcode _ _ X.warmed
  have h3 : (Cond.initialized y.cls).before a A.U = true := hinit _ _ X.warmed
  have h4 : A.cells + (headSpec ws rm).room.cells ≤ R.cells := by rw [show (headSpec ws rm).room.cells = mc from hrc]; exact hp.1
  have h5 : A.slots + (headSpec ws rm).room.slots ≤ R.slots := by rw [show (headSpec ws rm).room.slots = ms from hrs]; exact hp.2.1
  have hPc : Pc a (A.U.calling g mk a) := hblind _ _ _ _ hp.2.2
  obtain ⟨U, Ls, c0, s0⟩ := A
  dsimp only [Pt.U, Pt.locs, Pt.cells, Pt.slots] at h1 h2 h3 h4 h5 X hn hPc ⊢
  obtain ⟨methY, cY, hmY, hcY, -, hlY, -, -, -, -⟩ := Cond.code_spec hn h2
  obtain ⟨kY, hkY, -⟩ := className_of_methodNamed hn
  have hinitY : kY.init = .initialized := Cond.initialized_spec (findClass_of_methodNamed hn) hkY h3
  have h : At U g.method c below := by rw [hg]; exact X.here
  have hlocals9 : W9 + (maxL + 11) + (headSpec ws rm).room.locals ≤ R.locals := hlocals
  have happ : (headSpec ws rm).appliesLoose y e.platform (U.calling g mk a) = true :=
    Spec.appliesLoose_calling (g := g) h hdg hn hkY hinitY
      (X.room_calling (g := g) (R' := (headSpec ws rm).room) hsize hmY hcY hframes (by rw [hlY]; omega) h4 h5) h1
  obtain ⟨mid, hmid⟩ := h.above
  have hfr : (U.setTop g).frames = (.java g :: mid) ++ below := by rw [State.frames_setTop' g h.top, hmid]; rfl
  obtain ⟨o, s₂, hsteps, -, hend, hq⟩ := Steps.callFree hM p X.admits X.cas X.clock (acts := []) hfr happ hPc trivial
  have hq' : vx_Q Qc XC mc ms free a (U.calling g mk a) o s₂ := hq
  rw [State.frames_setTop' g h.top] at hend
  obtain ⟨g₀, hg0⟩ := Option.isSome_iff_exists.mp h.top
  obtain ⟨r, hr⟩ := State.topJava?_eq_some.mp hg0
  have hr' : (({ U with heap := s₂.heap, slotsUsed := s₂.slotsUsed } : State).setVm s₂.vm).frames = .java g₀ :: r := hr
  rcases hq' with ⟨hqc, L, hfe, hL⟩ | ⟨q, rfl, E, ce, L, hx, hce, hcv, hcl, hW₂, hsm, hL⟩
  · obtain ⟨⟨v, rfl⟩, hW₂, e2, q2, q3, q4, q5, q6⟩ := id hfe
    have e3 : s₂ = ({ (U.calling g mk a).setFrames s₂.frames with heap := s₂.heap, slotsUsed := s₂.slotsUsed } : State).setVm s₂.vm := by
      have : s₂ = ({ s₂ with vm := (U.calling g mk a).vm } : State).setVm s₂.vm := rfl
      rw [e2] at this
      exact this
    obtain ⟨c₂, i₂, len₂, hc₂, hd₂, hf₂⟩ := hend
    have hW' : U.WarmedH s₂.vm := hW₂
    have hcc : c₂ = c := by
      have h1 : s₂.code? g.method = U.code? g.method := by
        rw [State.code?_eq, State.code?_eq, hW'.alike.method?]
      exact Option.some.inj (hc₂.symm.trans (h1.trans h.code))
    subst hcc
    have hlen : len₂ = len := by rw [hdg] at hd₂; cases hd₂; rfl
    subst hlen
    have hs₂ : s₂ = (({ U with heap := s₂.heap, slotsUsed := s₂.slotsUsed } : State).setVm s₂.vm).setTop { g with pc := g.pc + len₂, stack := v.toList ++ g.stack } := by
      refine e3.trans ?_
      rw [hf₂, State.calling_eq h.top, State.setFrames_setFrames, State.setTop_of_frames _ hr', hr]
      rfl
    have hsame : U.sameButNew ({ U with heap := s₂.heap, slotsUsed := s₂.slotsUsed } : State) L mc ms := by
      refine ⟨?_, q2, q3, q4, q5, q6⟩
      obtain ⟨t, ht, -⟩ := State.frames_cons hr
      show ({ U with heap := s₂.heap, slotsUsed := s₂.slotsUsed } : State) = { U.setFrames U.frames with heap := s₂.heap, slotsUsed := s₂.slotsUsed }
      rw [State.setFrames_self ht]
    subst hg
    refine Or.inl ⟨v, ⟨(({ U with heap := s₂.heap, slotsUsed := s₂.slotsUsed } : State).setVm s₂.vm), Ls ++ L, c0 + mc, s0 + ms⟩,
      ⟨X.admits, X.cas, X.clock, X.frames, X.room, X.hears, X.method, X.code, (X.here.setHeapUsed s₂.heap s₂.slotsUsed).setVm hW'.alike, X.tail, State.WarmedH.trans X.warmed hW', X.limits, X.bytes, X.same.trans (hsame.setVm s.vm)⟩,
      ⟨g, mk, s₂, L, rfl, rfl, hqc, rfl, hL, rfl, rfl⟩, ?_⟩
    show Steps p.tables e below _ ((({ U with heap := s₂.heap, slotsUsed := s₂.slotsUsed } : State).setVm s₂.vm).setTop { g with pc := g.pc + len₂, stack := v.toList ++ g.stack })
    rw [← hs₂]
    exact hsteps
  · obtain ⟨e2, q2, q3, q4, q5, q6⟩ := id hsm
    have e3 : s₂ = ({ (U.calling g mk a).setFrames s₂.frames with heap := s₂.heap, slotsUsed := s₂.slotsUsed } : State).setVm s₂.vm := by
      have : s₂ = ({ s₂ with vm := (U.calling g mk a).vm } : State).setVm s₂.vm := rfl
      rw [e2] at this
      exact this
    have hf₂ : s₂.frames = .throwing q :: .java g :: U.frames.tail := hend
    have hW' : U.WarmedH s₂.vm := hW₂
    have hs₂ : s₂ = ((({ U with heap := s₂.heap, slotsUsed := s₂.slotsUsed } : State).setVm s₂.vm).setTop g).pushFrame (.throwing q) := by
      refine e3.trans ?_
      rw [hf₂, State.calling_eq h.top, State.setFrames_setFrames, State.pushFrame, State.frames_setTop _ hr', State.setTop_of_frames _ hr', State.setFrames_setFrames, hr]
      rfl
    have hsame : U.sameButNew ({ U with heap := s₂.heap, slotsUsed := s₂.slotsUsed } : State) L mc ms := by
      refine ⟨?_, q2, q3, q4, q5, q6⟩
      obtain ⟨t, ht, -⟩ := State.frames_cons hr
      show ({ U with heap := s₂.heap, slotsUsed := s₂.slotsUsed } : State) = { U.setFrames U.frames with heap := s₂.heap, slotsUsed := s₂.slotsUsed }
      rw [State.setFrames_self ht]
    subst hg
    refine Or.inr ⟨q, ⟨(({ U with heap := s₂.heap, slotsUsed := s₂.slotsUsed } : State).setVm s₂.vm), Ls ++ L, c0 + mc, s0 + ms⟩,
      ⟨X.admits, X.cas, X.clock, X.frames, X.room, X.hears, X.method, X.code, (X.here.setHeapUsed s₂.heap s₂.slotsUsed).setVm hW'.alike, X.tail, State.WarmedH.trans X.warmed hW', X.limits, X.bytes, X.same.trans (hsame.setVm s.vm)⟩,
      ⟨g, mk, s₂, L, E, ce, rfl, rfl, hx, hce, hcv, hcl, rfl, hL, rfl, rfl⟩, ?_⟩
    show Steps p.tables e below _ (((({ U with heap := s₂.heap, slotsUsed := s₂.slotsUsed } : State).setVm s₂.vm).setTop g).pushFrame (.throwing q))
    rw [← hs₂]
    exact hsteps
end Payer
section Calls
variable {p : Program} {l : Launch} {e : Env} {R : Room} {s : State} {m : MethodId} {args : Array Value} {below : List Frame} {meth : Method} {c : Code} {T : State} {locs : List Loc} {cells slots : Nat}
theorem vx_callV (X : Stand p l e R s m args below meth c T locs cells slots) (hexec : p.tables.exec = Jvm.exec) {own C : String} {index : Nat} {y : MethodName} {bytes : ByteArray} {maxL : Nat} {ret : Option FieldType}
    (hown : s.vm.findClass own = some m.cls) (hlink : (Cond.methodLink own index y).before args s = true) (hinst : (Cond.instanceMethod y).before args s = true) (hsel : (Cond.selects C y y).before args s = true)
    (hcode : (Cond.code y bytes maxL ret).before args s = true) (hy : y.cls ≠ "java/lang/invoke/MethodHandle" ∧ y.cls ≠ "java/lang/invoke/VarHandle")
    {W9 : Nat} {Pre : Pt → Array Value → Prop} {Post : Pt → Array Value → Option Value → Pt → Prop} {PostX : Pt → Array Value → Addr → Pt → Prop} (hK : vx_Back l R p e below s args y 3 W9 Pre Post PostX)
    {b : Addr} {cellB : Cell} (hcell : T.heap[b]? = some cellB) (hobj : cellB.vm.isStatics = false) (hcls : s.vm.findClass C = some cellB.cls)
    {g : JFrame} (hg : g.method = m) (hsize : g.locals.size = c.maxLocals) {argsL rest : List Value} (hlen : ∀ sig, parseMethodDescriptor y.desc = some sig → argsL.length = sig.parameters.length)
    (hstack : g.stack = argsL.reverse ++ .ref b :: rest) (hW : 2 * g.monitorRoom + (rest.map fun v => v.category).sum ≤ W9) (hdg : decode c.code g.pc = .ok (.invokevirtual index, 3))
    (hpre : ∀ vm₁, s.WarmedH vm₁ → Pre ⟨T.setVm vm₁, locs, cells, slots⟩ (Value.ref b :: argsL).toArray) :
    (∃ (v : Option Value) (vm₁ : Vm) (B : Pt), s.WarmedH vm₁ ∧ Stand p l e R s m args below meth c B.U B.locs B.cells B.slots ∧ Post ⟨T.setVm vm₁, locs, cells, slots⟩ (Value.ref b :: argsL).toArray v B ∧
      ∀ target, Steps p.tables e below (B.U.setTop { g with pc := g.pc + 3, stack := v.toList ++ rest }) target → Steps p.tables e below (T.setTop g) target) ∨
    (∃ (q : Addr) (vm₁ : Vm) (B : Pt), s.WarmedH vm₁ ∧ Stand p l e R s m args below meth c B.U B.locs B.cells B.slots ∧ PostX ⟨T.setVm vm₁, locs, cells, slots⟩ (Value.ref b :: argsL).toArray q B ∧
      Steps p.tables e below (T.setTop g) ((B.U.setTop { g with stack := rest }).pushFrame (.throwing q))) := by
  obtain ⟨mk, methM, hnamed, hmethM, hstM, habM⟩ := Cond.instanceMethod_spec hinst
  obtain ⟨methM', cM, hmethM', -, -, -, -, -, -, hsigM⟩ := Cond.code_spec hnamed hcode
  cases hmethM.symm.trans hmethM'
  obtain ⟨c2, r2, m2, q1, q2, q3, q4, kP, hkP, hkPi⟩ := Cond.selects_spec hsel
  cases hcls.symm.trans q1
  cases (State.methodFound?_of_named hnamed hy).symm.trans q2
  cases hnamed.symm.trans q3
  have hselP : selectMethod e.platform s.vm cellB.cls mk = .method mk := by rw [Launch.admits_selectMethod X.admits]; exact q4
  obtain ⟨vm₁, X₁, hstep₁⟩ := X.invokevirtual hexec hown hlink hnamed hmethM hstM hkP hkPi hy (a := b) (cell := cellB) hcell
    (fun z h => by rw [h] at hobj; cases hobj) hselP hmethM habM hkP hkPi (g := g) hg (argsL := argsL) (rest := rest) (hlen _ hsigM) hstack hdg
  rcases hK m meth c ⟨T.setVm vm₁, locs, cells, slots⟩ { g with stack := rest } (.invokevirtual index) mk (Value.ref b :: argsL).toArray X₁ hg hsize hdg hW (X₁.named hnamed) (hpre vm₁ X₁.warmed) with ⟨v, B, X', hpost, hsteps⟩ | ⟨q, B, X', hpost, hsteps⟩
  · exact Or.inl ⟨v, vm₁, B, X₁.warmed, X', hpost, fun target h => hstep₁ _ fun acts => by rw [doInvoke_state]; exact hsteps.trans h⟩
  · exact Or.inr ⟨q, vm₁, B, X₁.warmed, X', hpost, hstep₁ _ fun acts => by rw [doInvoke_state]; exact hsteps⟩
theorem vx_callS (X : Stand p l e R s m args below meth c T locs cells slots) (hexec : p.tables.exec = Jvm.exec) {own : String} {index : Nat} {y : MethodName} {bytes : ByteArray} {maxL : Nat} {ret : Option FieldType}
    (hown : s.vm.findClass own = some m.cls) (hlink : (Cond.methodLink own index y).before args s = true) (hstat : (Cond.static y).before args s = true) (hinit : (Cond.initialized y.cls).before args s = true)
    (hcode : (Cond.code y bytes maxL ret).before args s = true) (hy : y.cls ≠ "java/lang/invoke/MethodHandle" ∧ y.cls ≠ "java/lang/invoke/VarHandle")
    {W9 : Nat} {Pre : Pt → Array Value → Prop} {Post : Pt → Array Value → Option Value → Pt → Prop} {PostX : Pt → Array Value → Addr → Pt → Prop} (hK : vx_Back l R p e below s args y 3 W9 Pre Post PostX)
    {g : JFrame} (hg : g.method = m) (hsize : g.locals.size = c.maxLocals) {argsL rest : List Value} (hlen : ∀ sig, parseMethodDescriptor y.desc = some sig → argsL.length = sig.parameters.length)
    (hstack : g.stack = argsL.reverse ++ rest) (hW : 2 * g.monitorRoom + (rest.map fun v => v.category).sum ≤ W9) (hdg : decode c.code g.pc = .ok (.invokestatic index, 3))
    (hpre : ∀ vm₁, s.WarmedH vm₁ → Pre ⟨T.setVm vm₁, locs, cells, slots⟩ argsL.toArray) :
    (∃ (v : Option Value) (vm₁ : Vm) (B : Pt), s.WarmedH vm₁ ∧ Stand p l e R s m args below meth c B.U B.locs B.cells B.slots ∧ Post ⟨T.setVm vm₁, locs, cells, slots⟩ argsL.toArray v B ∧
      ∀ target, Steps p.tables e below (B.U.setTop { g with pc := g.pc + 3, stack := v.toList ++ rest }) target → Steps p.tables e below (T.setTop g) target) ∨
    (∃ (q : Addr) (vm₁ : Vm) (B : Pt), s.WarmedH vm₁ ∧ Stand p l e R s m args below meth c B.U B.locs B.cells B.slots ∧ PostX ⟨T.setVm vm₁, locs, cells, slots⟩ argsL.toArray q B ∧
      Steps p.tables e below (T.setTop g) ((B.U.setTop { g with stack := rest }).pushFrame (.throwing q))) := by
  obtain ⟨mk, hnamed⟩ := Cond.code_named hcode
  obtain ⟨methM, cM, hmethM, -, -, -, -, -, -, hsigM⟩ := Cond.code_spec hnamed hcode
  have hstatic : methM.isStatic = true := Cond.static_spec hnamed hmethM hstat
  obtain ⟨kP, hkP, -⟩ := className_of_methodNamed hnamed
  have hinitP : kP.init = .initialized := Cond.initialized_spec (findClass_of_methodNamed hnamed) hkP hinit
  obtain ⟨vm₁, X₁, hstep₁⟩ := X.invokestatic hexec hown hlink hnamed hmethM hstatic hkP hinitP hy (g := g) hg (argsL := argsL) (rest := rest) (hlen _ hsigM) hstack hdg
  rcases hK m meth c ⟨T.setVm vm₁, locs, cells, slots⟩ { g with stack := rest } (.invokestatic index) mk argsL.toArray X₁ hg hsize hdg hW (X₁.named hnamed) (hpre vm₁ X₁.warmed) with ⟨v, B, X', hpost, hsteps⟩ | ⟨q, B, X', hpost, hsteps⟩
  · exact Or.inl ⟨v, vm₁, B, X₁.warmed, X', hpost, fun target h => hstep₁ _ fun acts => by rw [doInvoke_state]; exact hsteps.trans h⟩
  · exact Or.inr ⟨q, vm₁, B, X₁.warmed, X', hpost, hstep₁ _ fun acts => by rw [doInvoke_state]; exact hsteps⟩
end Calls
theorem vx_cls {s : State} {T : State} {vm₁ : Vm} {E : String} {k : ClassId} (hW : s.WarmedH vm₁) (h : (T.setVm vm₁).vm.findClass E = some k) : s.vm.findClass E = some k := by
  have h1 : vm₁.findClass E = some k := h
  rw [hW.alike.findClass] at h1
  exact h1
/-- the method's frame g, with q thrown over it -/
def vx_W (p : Program) (l : Launch) (e : Env) (R : Room) (s : State) (m : MethodId) (args : Array Value) (below : List Frame) (meth : Method) (c : Code) (H : Heap) (locs : List Loc) (cells slots : Nat) (Q : State → Prop) (g : JFrame) (q : Addr) : Prop :=
  ∀ T : State, T.heap = H → Stand p l e R s m args below meth c T locs cells slots → ∃ t, Steps p.tables e below ((T.setTop g).pushFrame (.throwing q)) t ∧ Q t
def vx_Run (p : Program) (l : Launch) (e : Env) (R : Room) (s : State) (m : MethodId) (args : Array Value) (below : List Frame) (meth : Method) (c : Code) (H : Heap) (locs : List Loc) (cells slots mc ms : Nat) (g : JFrame) (rest : List Value) (Qa : State → Outcome → State → Prop) (XC : String → State → State → Prop) (free : Addr → Prop) : Prop :=
  ∀ T : State, T.heap = H → Stand p l e R s m args below meth c T locs cells slots →
    (∃ (v : Option Value) (st₀ t T' : State) (L : List Loc), st₀.heap = H ∧ Stand p l e R s m args below meth c T' (locs ++ L) (cells + mc) (slots + ms) ∧ (∀ q ∈ L, free q.base) ∧ T'.heap = t.heap ∧ T'.vm = t.vm ∧ Qa st₀ (.returned v) t ∧
      Goes p e below T g T' { g with pc := g.pc + 3, stack := v.toList ++ rest }) ∨
    (∃ (q : Addr) (st₀ t T' : State) (L : List Loc) (E : String) (ce : Cell), st₀.heap = H ∧ Stand p l e R s m args below meth c T' (locs ++ L) (cells + mc) (slots + ms) ∧ (∀ z ∈ L, free z.base) ∧ T'.heap = t.heap ∧ T'.vm = t.vm ∧ XC E st₀ t ∧ t.heap[q]? = some ce ∧ ce.vm = .none ∧ s.vm.findClass E = some ce.cls ∧
      Steps p.tables e below (T.setTop g) ((T'.setTop { g with stack := rest }).pushFrame (.throwing q)))
def vx_X {S : Type} (px : S → Prop) (B : String → S → State → Prop) (A : Nat → Prop) : String → State → State → Prop := fun E st t => ∃ u : S, px u ∧ B E u t ∧ va_F A st t
section Runs
variable {p : Program} {l : Launch} {e : Env} {R : Room} {s : State} {m : MethodId} {args : Array Value} {below : List Frame} {meth : Method} {c : Code} {H : Heap} {locs : List Loc} {cells slots : Nat}
variable {y : MethodName} {bytes cc : ByteArray} {maxL nL mc ms n index : Nat} {ret : Option FieldType} {ws : List Cond} {rm : Room} {Pc : Array Value → State → Prop} {Qc : Array Value → State → Outcome → State → Prop} {XC : String → State → State → Prop} {free : Addr → Prop} {Ts : List Cond} {own C : String} {b : Addr} {As rest : List Value} {g : JFrame}
theorem vx_callBack (cb : CallB R s args own index y bytes maxL ret ws rm mc ms n) (hM : vx_Met l y ws rm Pc Qc XC mc ms free) (hbl : FrameBlind Pc) : vx_Back l R p e below s args y 3 8 (PreOf R mc ms Pc) (PostOf Qc mc ms free) (vx_Post XC mc ms free) := by
  obtain ⟨hrc, hrs, hfr, hlo, hws, hcw, -, hini, -⟩ := cb
  exact vx_back (bytes := bytes) (maxL := maxL) (ret := ret) hM hbl hrc hrs hfr hlo hws hcw (fun a' U hW => word_at hW (Or.inl (by first | rfl | simp [Cond.onTables, Cond.keeps, Cond.steady])) hini)
theorem vx_runV (S : CallFix p m c cc nL s args Ts own) (hM : vx_Met l y ws rm Pc Qc XC mc ms free) (cw : CallW R s args own C index y bytes maxL ret ws rm mc ms n) (hp : PreV s H C b Pc As)
    (hg : g.method = m) (hn : As.length = n) (hsize : g.locals.size = nL) (hstack : g.stack = As.reverse ++ .ref b :: rest) (hW : 2 * g.monitorRoom + (rest.map fun v => v.category).sum ≤ 8) (hdg : decode cc g.pc = .ok (.invokevirtual index, 3)) (hf : cells + mc ≤ R.cells ∧ slots + ms ≤ R.slots) :
    vx_Run p l e R s m args below meth c H locs cells slots mc ms g rest (Qc (Value.ref b :: As).toArray) XC free := by
  have hK : vx_Back l R p e below s args y 3 8 (PreOf R mc ms Pc) (PostOf Qc mc ms free) (vx_Post XC mc ms free) := vx_callBack cw.1 hM hp.1
  obtain ⟨⟨-, -, -, -, -, -, hcode, -, hy, hlen, hl⟩, hin, hse⟩ := cw
  obtain ⟨hx, hb, hml, ho, -⟩ := S
  obtain ⟨-, ⟨cellB, hcB, hoB, hclB⟩, hPc⟩ := hp
  intro T hT X
  rcases vx_callV X hx (C := C) (bytes := bytes) (maxL := maxL) (ret := ret) ho hl hin hse hcode hy hK (by rw [hT]; exact hcB) hoB hclB hg (hsize.trans hml.symm) (argsL := As) (rest := rest) (fun sig h => hn.trans (hlen sig h)) hstack hW (by rw [hb]; exact hdg)
    (fun vm₁ hW₁ => ⟨hf.1, hf.2, hPc (T.setVm vm₁) hT hW₁⟩) with ⟨v, vm₁, ⟨U', l2, c2, s2⟩, hW₁, X', ⟨g', mk, t, L, e1, e2, hq, h1, hL, h2, h3⟩, st⟩ | ⟨q, vm₁, ⟨U', l2, c2, s2⟩, hW₁, X', ⟨g', mk, t, L, E, ce, e1, e2, hq, hce, hcv, hcl, h1, hL, h2, h3⟩, st⟩
  · dsimp only [Pt.U, Pt.locs, Pt.cells, Pt.slots] at X' e1 e2 h1 h2 h3 st
    subst h1; subst h2; subst h3
    exact Or.inl ⟨v, (T.setVm vm₁).calling g' mk (Value.ref b :: As).toArray, t, U', L, hT, X', hL, e1, e2, hq, st⟩
  · dsimp only [Pt.U, Pt.locs, Pt.cells, Pt.slots] at X' e1 e2 h1 h2 h3 st hcl
    subst h1; subst h2; subst h3
    exact Or.inr ⟨q, (T.setVm vm₁).calling g' mk (Value.ref b :: As).toArray, t, U', L, E, ce, hT, X', hL, e1, e2, hq, hce, hcv, vx_cls hW₁ hcl, st⟩
theorem vx_runS (S : CallFix p m c cc nL s args Ts own) (hM : vx_Met l y ws rm Pc Qc XC mc ms free) (cw : CallB R s args own index y bytes maxL ret ws rm mc ms n ∧ (Cond.static y).before args s = true) (hp : PreS s H Pc As)
    (hg : g.method = m) (hn : As.length = n) (hsize : g.locals.size = nL) (hstack : g.stack = As.reverse ++ rest) (hW : 2 * g.monitorRoom + (rest.map fun v => v.category).sum ≤ 8) (hdg : decode cc g.pc = .ok (.invokestatic index, 3)) (hf : cells + mc ≤ R.cells ∧ slots + ms ≤ R.slots) :
    vx_Run p l e R s m args below meth c H locs cells slots mc ms g rest (Qc As.toArray) XC free := by
  have hK : vx_Back l R p e below s args y 3 8 (PreOf R mc ms Pc) (PostOf Qc mc ms free) (vx_Post XC mc ms free) := vx_callBack cw.1 hM hp.1
  obtain ⟨⟨-, -, -, -, -, -, hcode, hini, hy, hlen, hl⟩, hstt⟩ := cw
  obtain ⟨hx, hb, hml, ho, -⟩ := S
  intro T hT X
  rcases vx_callS X hx (bytes := bytes) (maxL := maxL) (ret := ret) ho hl hstt hini hcode hy hK hg (hsize.trans hml.symm) (argsL := As) (rest := rest) (fun sig h => hn.trans (hlen sig h)) hstack hW (by rw [hb]; exact hdg)
    (fun vm₁ hW₁ => ⟨hf.1, hf.2, hp.2 (T.setVm vm₁) hT hW₁⟩) with ⟨v, vm₁, ⟨U', l2, c2, s2⟩, hW₁, X', ⟨g', mk, t, L, e1, e2, hq, h1, hL, h2, h3⟩, st⟩ | ⟨q, vm₁, ⟨U', l2, c2, s2⟩, hW₁, X', ⟨g', mk, t, L, E, ce, e1, e2, hq, hce, hcv, hcl, h1, hL, h2, h3⟩, st⟩
  · dsimp only [Pt.U, Pt.locs, Pt.cells, Pt.slots] at X' e1 e2 h1 h2 h3 st
    subst h1; subst h2; subst h3
    exact Or.inl ⟨v, (T.setVm vm₁).calling g' mk As.toArray, t, U', L, hT, X', hL, e1, e2, hq, st⟩
  · dsimp only [Pt.U, Pt.locs, Pt.cells, Pt.slots] at X' e1 e2 h1 h2 h3 st hcl
    subst h1; subst h2; subst h3
    exact Or.inr ⟨q, (T.setVm vm₁).calling g' mk As.toArray, t, U', L, E, ce, hT, X', hL, e1, e2, hq, hce, hcv, vx_cls hW₁ hcl, st⟩
end Runs
section Rows
variable {p : Program} {l : Launch} {e : Env} {R : Room} {s : State} {m : MethodId} {args : Array Value} {below : List Frame} {meth : Method} {c : Code} {H : Heap} {locs : List Loc} {cells slots : Nat} {Q : State → Prop}
variable {mc ms : Nat} {free : Addr → Prop} {A0 A1 : Nat → Prop} {H0 : Heap} {a : Array Value} {pc : Nat} {ls : Array Slot} {st0 rest : List Value}
theorem vx_keep {st₀ t T' : State} {L : List Loc} (h0 : st₀.heap = H) (e1 : T'.heap = t.heap) (hS : va_S A0 H0 H locs) (hA : ∀ q, q < H.size → A1 q → A0 q) (hf : ∀ q, free q → A0 q) (hL : ∀ q ∈ L, free q.base) (hF : va_F A1 st₀ t) :
    H.size ≤ T'.heap.size ∧ (∀ q : Nat, q < H.size → ¬ A1 q → T'.heap[q]? = H[q]?) ∧ va_S A0 H0 T'.heap (locs ++ L) := by
  obtain ⟨hz, hk⟩ := hF
  rw [h0] at hz hk
  exact ⟨by rw [e1]; exact hz, fun q h1 h2 => by rw [e1]; exact hk q h1 h2,
    ⟨Nat.le_trans hS.1 (by rw [e1]; exact hz), fun q h1 h2 => by rw [e1, hk q (Nat.lt_of_lt_of_le h1 hS.1) (fun z => h2 (hA q (Nat.lt_of_lt_of_le h1 hS.1) z))]; exact hS.2.1 q h1 h2, fun q hq => by
      rcases List.mem_append.mp hq with h | h
      · exact hS.2.2 q h
      · exact hf _ (hL q h)⟩⟩
theorem vx_calli {S SX : Type} {post : Int32 → S → Prop} {px : SX → Prop} {B : S → State → Prop} {BX : String → SX → State → Prop} {AX : Nat → Prop} (hr : vx_Run p l e R s m args below meth c H locs cells slots mc ms (F0 m pc ls st0) rest (va_Qi post B A1 a) (vx_X px BX AX) free) (hS : va_S A0 H0 H locs) (hA : ∀ q, q < H.size → A1 q → A0 q) (hf : ∀ q, free q → A0 q) (hAX : ∀ q, q < H.size → AX q → A0 q)
    (kx : ∀ (E : String) (ce : Cell) (q9 : Addr) (u : SX) (t : State) (H1 : Heap) (locs1 : List Loc), t.heap = H1 → s.vm.Alike t.vm → px u → BX E u t → H.size ≤ H1.size → (∀ q : Nat, q < H.size → ¬ AX q → H1[q]? = H[q]?) → va_S A0 H0 H1 locs1 → H1[q9]? = some ce → ce.vm = .none → s.vm.findClass E = some ce.cls → vx_W p l e R s m args below meth c H1 locs1 (cells + mc) (slots + ms) Q (F0 m pc ls rest) q9)
    (kk : ∀ (r : Int32) (u : S) (t : State) (H1 : Heap) (locs1 : List Loc), t.heap = H1 → s.vm.Alike t.vm → post r u → B u t → H.size ≤ H1.size → (∀ q : Nat, q < H.size → ¬ A1 q → H1[q]? = H[q]?) → va_S A0 H0 H1 locs1 → W p l e R s m args below meth c H1 locs1 (cells + mc) (slots + ms) Q (F0 m (pc + 3) ls (.int r :: rest))) : W p l e R s m args below meth c H locs cells slots Q (F0 m pc ls st0) := by
  intro T hT X
  rcases hr T hT X with ⟨v, st₀, t, T', L, h0, X', hL, e1, e2, ⟨⟨r, u, hv, hp, hb⟩, hF⟩, st⟩ | ⟨q, st₀, t, T', L, E, ce, h0, X', hL, e1, e2, ⟨u, hp, hb, hF⟩, hce, hcv, hcl, st⟩
  · cases hv
    obtain ⟨k1, k2, k3⟩ := vx_keep h0 e1 hS hA hf hL hF
    obtain ⟨t2, a1, b1⟩ := kk r u t T'.heap (locs ++ L) e1.symm (by rw [← e2]; exact X'.warmed.alike) hp hb k1 k2 k3 T' rfl X'
    exact ⟨t2, st t2 a1, b1⟩
  · obtain ⟨k1, k2, k3⟩ := vx_keep h0 e1 hS hAX hf hL hF
    obtain ⟨t2, a1, b1⟩ := kx E ce q u t T'.heap (locs ++ L) e1.symm (by rw [← e2]; exact X'.warmed.alike) hp hb k1 k2 k3 (by rw [e1]; exact hce) hcv hcl T' rfl X'
    exact ⟨t2, st.trans a1, b1⟩
theorem vx_calll {S SX : Type} {post : Int64 → S → Prop} {px : SX → Prop} {B : S → State → Prop} {BX : String → SX → State → Prop} {AX : Nat → Prop} (hr : vx_Run p l e R s m args below meth c H locs cells slots mc ms (F0 m pc ls st0) rest (va_Ql post B A1 a) (vx_X px BX AX) free) (hS : va_S A0 H0 H locs) (hA : ∀ q, q < H.size → A1 q → A0 q) (hf : ∀ q, free q → A0 q) (hAX : ∀ q, q < H.size → AX q → A0 q)
    (kx : ∀ (E : String) (ce : Cell) (q9 : Addr) (u : SX) (t : State) (H1 : Heap) (locs1 : List Loc), t.heap = H1 → s.vm.Alike t.vm → px u → BX E u t → H.size ≤ H1.size → (∀ q : Nat, q < H.size → ¬ AX q → H1[q]? = H[q]?) → va_S A0 H0 H1 locs1 → H1[q9]? = some ce → ce.vm = .none → s.vm.findClass E = some ce.cls → vx_W p l e R s m args below meth c H1 locs1 (cells + mc) (slots + ms) Q (F0 m pc ls rest) q9)
    (kk : ∀ (r : Int64) (u : S) (t : State) (H1 : Heap) (locs1 : List Loc), t.heap = H1 → s.vm.Alike t.vm → post r u → B u t → H.size ≤ H1.size → (∀ q : Nat, q < H.size → ¬ A1 q → H1[q]? = H[q]?) → va_S A0 H0 H1 locs1 → W p l e R s m args below meth c H1 locs1 (cells + mc) (slots + ms) Q (F0 m (pc + 3) ls (.long r :: rest))) : W p l e R s m args below meth c H locs cells slots Q (F0 m pc ls st0) := by
  intro T hT X
  rcases hr T hT X with ⟨v, st₀, t, T', L, h0, X', hL, e1, e2, ⟨⟨r, u, hv, hp, hb⟩, hF⟩, st⟩ | ⟨q, st₀, t, T', L, E, ce, h0, X', hL, e1, e2, ⟨u, hp, hb, hF⟩, hce, hcv, hcl, st⟩
  · cases hv
    obtain ⟨k1, k2, k3⟩ := vx_keep h0 e1 hS hA hf hL hF
    obtain ⟨t2, a1, b1⟩ := kk r u t T'.heap (locs ++ L) e1.symm (by rw [← e2]; exact X'.warmed.alike) hp hb k1 k2 k3 T' rfl X'
    exact ⟨t2, st t2 a1, b1⟩
  · obtain ⟨k1, k2, k3⟩ := vx_keep h0 e1 hS hAX hf hL hF
    obtain ⟨t2, a1, b1⟩ := kx E ce q u t T'.heap (locs ++ L) e1.symm (by rw [← e2]; exact X'.warmed.alike) hp hb k1 k2 k3 (by rw [e1]; exact hce) hcv hcl T' rfl X'
    exact ⟨t2, st.trans a1, b1⟩
theorem vx_callf {S SX : Type} {post : UInt32 → S → Prop} {px : SX → Prop} {B : S → State → Prop} {BX : String → SX → State → Prop} {AX : Nat → Prop} (hr : vx_Run p l e R s m args below meth c H locs cells slots mc ms (F0 m pc ls st0) rest (va_Qf post B A1 a) (vx_X px BX AX) free) (hS : va_S A0 H0 H locs) (hA : ∀ q, q < H.size → A1 q → A0 q) (hf : ∀ q, free q → A0 q) (hAX : ∀ q, q < H.size → AX q → A0 q)
    (kx : ∀ (E : String) (ce : Cell) (q9 : Addr) (u : SX) (t : State) (H1 : Heap) (locs1 : List Loc), t.heap = H1 → s.vm.Alike t.vm → px u → BX E u t → H.size ≤ H1.size → (∀ q : Nat, q < H.size → ¬ AX q → H1[q]? = H[q]?) → va_S A0 H0 H1 locs1 → H1[q9]? = some ce → ce.vm = .none → s.vm.findClass E = some ce.cls → vx_W p l e R s m args below meth c H1 locs1 (cells + mc) (slots + ms) Q (F0 m pc ls rest) q9)
    (kk : ∀ (r : UInt32) (u : S) (t : State) (H1 : Heap) (locs1 : List Loc), t.heap = H1 → s.vm.Alike t.vm → post r u → B u t → H.size ≤ H1.size → (∀ q : Nat, q < H.size → ¬ A1 q → H1[q]? = H[q]?) → va_S A0 H0 H1 locs1 → W p l e R s m args below meth c H1 locs1 (cells + mc) (slots + ms) Q (F0 m (pc + 3) ls (.float r :: rest))) : W p l e R s m args below meth c H locs cells slots Q (F0 m pc ls st0) := by
  intro T hT X
  rcases hr T hT X with ⟨v, st₀, t, T', L, h0, X', hL, e1, e2, ⟨⟨r, u, hv, hp, hb⟩, hF⟩, st⟩ | ⟨q, st₀, t, T', L, E, ce, h0, X', hL, e1, e2, ⟨u, hp, hb, hF⟩, hce, hcv, hcl, st⟩
  · cases hv
    obtain ⟨k1, k2, k3⟩ := vx_keep h0 e1 hS hA hf hL hF
    obtain ⟨t2, a1, b1⟩ := kk r u t T'.heap (locs ++ L) e1.symm (by rw [← e2]; exact X'.warmed.alike) hp hb k1 k2 k3 T' rfl X'
    exact ⟨t2, st t2 a1, b1⟩
  · obtain ⟨k1, k2, k3⟩ := vx_keep h0 e1 hS hAX hf hL hF
    obtain ⟨t2, a1, b1⟩ := kx E ce q u t T'.heap (locs ++ L) e1.symm (by rw [← e2]; exact X'.warmed.alike) hp hb k1 k2 k3 (by rw [e1]; exact hce) hcv hcl T' rfl X'
    exact ⟨t2, st.trans a1, b1⟩
theorem vx_calld {S SX : Type} {post : UInt64 → S → Prop} {px : SX → Prop} {B : S → State → Prop} {BX : String → SX → State → Prop} {AX : Nat → Prop} (hr : vx_Run p l e R s m args below meth c H locs cells slots mc ms (F0 m pc ls st0) rest (va_Qd post B A1 a) (vx_X px BX AX) free) (hS : va_S A0 H0 H locs) (hA : ∀ q, q < H.size → A1 q → A0 q) (hf : ∀ q, free q → A0 q) (hAX : ∀ q, q < H.size → AX q → A0 q)
    (kx : ∀ (E : String) (ce : Cell) (q9 : Addr) (u : SX) (t : State) (H1 : Heap) (locs1 : List Loc), t.heap = H1 → s.vm.Alike t.vm → px u → BX E u t → H.size ≤ H1.size → (∀ q : Nat, q < H.size → ¬ AX q → H1[q]? = H[q]?) → va_S A0 H0 H1 locs1 → H1[q9]? = some ce → ce.vm = .none → s.vm.findClass E = some ce.cls → vx_W p l e R s m args below meth c H1 locs1 (cells + mc) (slots + ms) Q (F0 m pc ls rest) q9)
    (kk : ∀ (r : UInt64) (u : S) (t : State) (H1 : Heap) (locs1 : List Loc), t.heap = H1 → s.vm.Alike t.vm → post r u → B u t → H.size ≤ H1.size → (∀ q : Nat, q < H.size → ¬ A1 q → H1[q]? = H[q]?) → va_S A0 H0 H1 locs1 → W p l e R s m args below meth c H1 locs1 (cells + mc) (slots + ms) Q (F0 m (pc + 3) ls (.double r :: rest))) : W p l e R s m args below meth c H locs cells slots Q (F0 m pc ls st0) := by
  intro T hT X
  rcases hr T hT X with ⟨v, st₀, t, T', L, h0, X', hL, e1, e2, ⟨⟨r, u, hv, hp, hb⟩, hF⟩, st⟩ | ⟨q, st₀, t, T', L, E, ce, h0, X', hL, e1, e2, ⟨u, hp, hb, hF⟩, hce, hcv, hcl, st⟩
  · cases hv
    obtain ⟨k1, k2, k3⟩ := vx_keep h0 e1 hS hA hf hL hF
    obtain ⟨t2, a1, b1⟩ := kk r u t T'.heap (locs ++ L) e1.symm (by rw [← e2]; exact X'.warmed.alike) hp hb k1 k2 k3 T' rfl X'
    exact ⟨t2, st t2 a1, b1⟩
  · obtain ⟨k1, k2, k3⟩ := vx_keep h0 e1 hS hAX hf hL hF
    obtain ⟨t2, a1, b1⟩ := kx E ce q u t T'.heap (locs ++ L) e1.symm (by rw [← e2]; exact X'.warmed.alike) hp hb k1 k2 k3 (by rw [e1]; exact hce) hcv hcl T' rfl X'
    exact ⟨t2, st.trans a1, b1⟩
theorem vx_callv {S SX : Type} {post : S → Prop} {px : SX → Prop} {B : S → State → Prop} {BX : String → SX → State → Prop} {AX : Nat → Prop} (hr : vx_Run p l e R s m args below meth c H locs cells slots mc ms (F0 m pc ls st0) rest (va_Qv post B A1 a) (vx_X px BX AX) free) (hS : va_S A0 H0 H locs) (hA : ∀ q, q < H.size → A1 q → A0 q) (hf : ∀ q, free q → A0 q) (hAX : ∀ q, q < H.size → AX q → A0 q)
    (kx : ∀ (E : String) (ce : Cell) (q9 : Addr) (u : SX) (t : State) (H1 : Heap) (locs1 : List Loc), t.heap = H1 → s.vm.Alike t.vm → px u → BX E u t → H.size ≤ H1.size → (∀ q : Nat, q < H.size → ¬ AX q → H1[q]? = H[q]?) → va_S A0 H0 H1 locs1 → H1[q9]? = some ce → ce.vm = .none → s.vm.findClass E = some ce.cls → vx_W p l e R s m args below meth c H1 locs1 (cells + mc) (slots + ms) Q (F0 m pc ls rest) q9)
    (kk : ∀ (u : S) (t : State) (H1 : Heap) (locs1 : List Loc), t.heap = H1 → s.vm.Alike t.vm → post u → B u t → H.size ≤ H1.size → (∀ q : Nat, q < H.size → ¬ A1 q → H1[q]? = H[q]?) → va_S A0 H0 H1 locs1 → W p l e R s m args below meth c H1 locs1 (cells + mc) (slots + ms) Q (F0 m (pc + 3) ls (rest))) : W p l e R s m args below meth c H locs cells slots Q (F0 m pc ls st0) := by
  intro T hT X
  rcases hr T hT X with ⟨v, st₀, t, T', L, h0, X', hL, e1, e2, ⟨⟨u, hv, hp, hb⟩, hF⟩, st⟩ | ⟨q, st₀, t, T', L, E, ce, h0, X', hL, e1, e2, ⟨u, hp, hb, hF⟩, hce, hcv, hcl, st⟩
  · cases hv
    obtain ⟨k1, k2, k3⟩ := vx_keep h0 e1 hS hA hf hL hF
    obtain ⟨t2, a1, b1⟩ := kk u t T'.heap (locs ++ L) e1.symm (by rw [← e2]; exact X'.warmed.alike) hp hb k1 k2 k3 T' rfl X'
    exact ⟨t2, st t2 a1, b1⟩
  · obtain ⟨k1, k2, k3⟩ := vx_keep h0 e1 hS hAX hf hL hF
    obtain ⟨t2, a1, b1⟩ := kx E ce q u t T'.heap (locs ++ L) e1.symm (by rw [← e2]; exact X'.warmed.alike) hp hb k1 k2 k3 (by rw [e1]; exact hce) hcv hcl T' rfl X'
    exact ⟨t2, st.trans a1, b1⟩
/-- caught by the row x of this method's table; the rows ahead don't take it -/
theorem vx_catch {own name : String} {E : String} {ce : Cell} {q : Addr} (hown : s.vm.findClass own = some m.cls) (pre : List ExceptionTableEntry) (x : ExceptionTableEntry) (suf : List ExceptionTableEntry) (hsplit : c.exceptionTable.toList = pre ++ x :: suf)
    (hpass : ∀ z ∈ pre, covers z pc = false ∨ (z.catchType ≠ 0 ∧ ∃ nm : String, (Cond.classLink own z.catchType nm).before args s = true ∧ va_Nc E nm s)) (hx : covers x pc = true) (h0 : x.catchType ≠ 0)
    (hlink : (Cond.classLink own x.catchType name).before args s = true) (hcast : (Cond.castable E name).before args s = true) (hcell : H[q]? = some ce) (hv : ce.vm = .none) (hcl : s.vm.findClass E = some ce.cls)
    (kk : W p l e R s m args below meth c H locs cells slots Q (F0 m x.handlerPc ls [.ref q])) : vx_W p l e R s m args below meth c H locs cells slots Q (F0 m pc ls rest) q := by
  intro T hT X
  have hpl : e.platform.magicAccessors = ({} : Platform).magicAccessors := by rw [X.admits.platform]
  obtain ⟨c3, c4, hc3, hc4, hasg⟩ := Cond.castable_spec hcast
  cases Option.some.inj (hc3.symm.trans hcl)
  obtain ⟨c5, hc5, hcl5⟩ := Cond.classLink_spec hown hlink e.platform hpl
  cases Option.some.inj (hc4.symm.trans hc5)
  obtain ⟨vm', X', st⟩ := X.thenCaughtThrough q (g := F0 m pc ls rest) rfl (Steps.refl _) (by rw [hT]; exact hcell) (by rw [hv]; rfl) (by obtain ⟨k9, h9, -⟩ := Vm.findClass_spec hcl; exact ⟨k9, h9⟩) pre x suf hsplit
    (fun z hz => by
      rcases hpass z hz with h | ⟨hz0, nm, hl1, hn1⟩
      · exact Or.inl h
      · obtain ⟨c6, hc6, hcl6⟩ := Cond.classLink_spec hown hl1 e.platform hpl
        obtain ⟨a8, b8, h1, h2, h3⟩ := hn1
        cases Option.some.inj (h1.symm.trans hcl)
        cases Option.some.inj (h2.symm.trans hc6)
        exact Or.inr ⟨hz0, _, hcl6, h3⟩) hx (Or.inr ⟨h0, c4, hcl5, hasg⟩)
  obtain ⟨t, a1, b1⟩ := kk (T.setVm vm') hT X'
  exact ⟨t, st.trans a1, b1⟩
end Rows
section Ends
variable {p : Program} {l : Launch} {e : Env} {R : Room} {s : State} {m : MethodId} {args : Array Value} {below : List Frame} {meth : Method} {c : Code} {H : Heap} {locs : List Loc} {cells slots : Nat} {Q : State → Prop}
variable {mc ms : Nat} {free : Addr → Prop} {A0 A1 : Nat → Prop} {H0 : Heap} {a : Array Value} {ls : Array Slot} {st0 rest : List Value}
variable {Qc : Array Value → State → Outcome → State → Prop} {XC : String → State → State → Prop}
/-- what a body that may throw owes at its end -/
def vx_MQ (below : List Frame) (Qc : Array Value → State → Outcome → State → Prop) (XC : String → State → State → Prop) (a : Array Value) (s : State) (mc ms : Nat) (free : Addr → Prop) : State → Prop := fun t =>
  ∃ o, t.status = .running ∧ Ended t below o ∧ vx_Q Qc XC mc ms free a s o t
theorem vx_ret {g : JFrame} {mc ms : Nat} (k : W p l e R s m args below meth c H locs cells slots (MQ below Qc args s mc ms free) g) : W p l e R s m args below meth c H locs cells slots (vx_MQ below Qc XC args s mc ms free) g := by
  intro T hT X
  obtain ⟨t, a1, o, b1, b2, b3, b4⟩ := k T hT X
  exact ⟨t, a1, o, b1, b2, Or.inl ⟨b3, b4⟩⟩
/-- not caught here: it goes on to the caller -/
theorem vx_widen {g : JFrame} {q : Addr} {k n : Nat} (h1 : cells ≤ k) (h2 : slots ≤ n) (kk : vx_W p l e R s m args below meth c H locs k n Q g q) : vx_W p l e R s m args below meth c H locs cells slots Q g q := fun T hT X => kk T hT (stand_widen X h1 h2)
theorem vx_out {pc : Nat} {E : String} {ce : Cell} {q : Addr} {mc ms : Nat} (hout : ∀ x ∈ c.exceptionTable.toList, covers x pc = false) (hlocks : meth.locks = false) (hcell : H[q]? = some ce) (hv : ce.vm = .none) (hcl : s.vm.findClass E = some ce.cls)
    (hx : ∀ t : State, t.heap = H → s.vm.Alike t.vm → XC E s t) (hf : ∀ z ∈ locs, free z.base) (hc : cells ≤ mc) (hs : slots ≤ ms) :
    vx_W p l e R s m args below meth c H locs cells slots (vx_MQ below Qc XC args s mc ms free) (F0 m pc ls rest) q := by
  intro T hT X
  obtain ⟨st1, hrun, hend, hW, hsm⟩ := X.leaveThrown q (g := F0 m pc ls rest) rfl rfl rfl hout hlocks
  have hcell9 : (T.setFrames (.throwing q :: below)).heap[q]? = some ce := by
    show T.heap[q]? = some ce
    rw [hT]; exact hcell
  exact ⟨_, st1, .threw q, hrun, hend, Or.inr ⟨q, rfl, E, ce, locs, hx _ hT hW.alike, hcell9, hv, hcl, hW, hsm.mono hc hs, hf⟩⟩
theorem vx_frame {U : State} {k n : Nat} (h : s.sameButNew ({ U with vm := s.vm } : State) locs k n) : s.heap.size ≤ U.heap.size ∧ ∀ q : Nat, q < s.heap.size → (∀ z ∈ locs, z.base ≠ q) → U.heap[q]? = s.heap[q]? := by
  obtain ⟨-, h2, -, -, -, h6⟩ := h
  refine ⟨h2, fun q hq hz => ?_⟩
  obtain ⟨c9, e1, e2, e3, e4⟩ := h6 q _ (Array.getElem?_eq_getElem hq)
  have hs : c9.slots = (s.heap[q]).slots := Array.ext_getElem? fun i => e4 i fun hm => hz _ hm rfl
  have h9 : c9 = s.heap[q] := by
    rw [hs] at e2
    exact e2
  have e5 : U.heap[q]? = some c9 := e1
  rw [e5, h9, Array.getElem?_eq_getElem hq]
/-- the words of a throw but the four that speak of the heap -/
def vx_no (w : Cond) : Bool := decide (w ≠ .isRef (.static Bundle.tN "UNASSIGNED_STACK" Bundle.steD)) && decide (w ≠ .isRef (.static Bundle.tN "SUPPRESSED_SENTINEL" Bundle.listD)) && decide (w ≠ .laysStatic Bundle.tN "UNASSIGNED_STACK" Bundle.steD) && decide (w ≠ .laysStatic Bundle.tN "SUPPRESSED_SENTINEL" Bundle.listD)
def vx_at0 (own : String) (ic : Nat) (X : String) (names : List String) : List Cond := (Bundle.ownAtoms0 own ic X names).filter vx_no
def vx_atS (own : String) (ic : Nat) (X : String) (names : List String) : List Cond := (Bundle.ownAtoms own ic X names).filter vx_no
/-- a word that the tables alone decide, or a good one -/
def vx_ot (w : Cond) : Bool := w.onTables || goodWord w
theorem vx_ot_at {args a' : Array Value} {s U : State} {w : Cond} (hW : s.WarmedH U.vm) (hvm : s.vm = U.vm) (hg : vx_ot w = true) (h : w.before args s = true) : w.before a' U = true := by
  simp only [vx_ot, Bool.or_eq_true] at hg
  rcases hg with hg | hg
  · exact va_tabs hg hvm h
  · exact word_at hW (good_of_word hg) h
/-- a list's words: the good ones out of the method's own list, the others by premises of their own -/
theorem vx_hat {args : Array Value} {s : State} {L B : List Cond} (h1 : ∀ w ∈ L.filter goodWord, w.before args s = true) (h2 : ∀ w ∈ L.filter (fun w => !goodWord w), w ∈ B) (h3 : ∀ w ∈ B, w.before args s = true) : ∀ w ∈ L, w.before args s = true := by
  intro w hw
  by_cases g : goodWord w = true
  · exact h1 w (List.mem_filter.mpr ⟨hw, g⟩)
  · refine h3 w (h2 w (List.mem_filter.mpr ⟨hw, ?_⟩))
    show (!goodWord w) = true
    cases hgw : goodWord w
    · rfl
    · exact absurd hgw g
theorem vx_c {args : Array Value} {s : State} {w : Cond} {B : List Cond} (h : w.before args s = true) (t : ∀ w ∈ B, w.before args s = true) : ∀ w' ∈ w :: B, w'.before args s = true := fun w' h' => (List.mem_cons.mp h').elim (fun e => by rw [e]; exact h) (t w')
theorem vx_n {args : Array Value} {s : State} : ∀ w ∈ ([] : List Cond), w.before args s = true := fun _ h => nomatch h
theorem vx_own {args : Array Value} {s : State} {L : List Cond} (h1 : ∀ w ∈ L.filter vx_no, w.before args s = true)
    (hU : (Cond.isRef (.static Bundle.tN "UNASSIGNED_STACK" Bundle.steD)).before args s = true) (hN : (Cond.isRef (.static Bundle.tN "SUPPRESSED_SENTINEL" Bundle.listD)).before args s = true)
    (lU : (Cond.laysStatic Bundle.tN "UNASSIGNED_STACK" Bundle.steD).before args s = true) (lN : (Cond.laysStatic Bundle.tN "SUPPRESSED_SENTINEL" Bundle.listD).before args s = true) : ∀ w ∈ L, w.before args s = true := by
  intro w hw
  by_cases e1 : w = .isRef (.static Bundle.tN "UNASSIGNED_STACK" Bundle.steD)
  · rw [e1]; exact hU
  · by_cases e2 : w = .isRef (.static Bundle.tN "SUPPRESSED_SENTINEL" Bundle.listD)
    · rw [e2]; exact hN
    · by_cases e3 : w = .laysStatic Bundle.tN "UNASSIGNED_STACK" Bundle.steD
      · rw [e3]; exact lU
      · by_cases e4 : w = .laysStatic Bundle.tN "SUPPRESSED_SENTINEL" Bundle.listD
        · rw [e4]; exact lN
        · exact h1 w (List.mem_filter.mpr ⟨hw, by unfold vx_no; rw [decide_eq_true e1, decide_eq_true e2, decide_eq_true e3, decide_eq_true e4]; rfl⟩)
/-- where a static field lies, its class's statics cell in H -/
def vx_L (C n d : String) (A : Nat → Prop) (U : State) (H : Heap) : Prop := ∃ (c : ClassId) (k : Class) (i : Nat) (f : Field) (a : Nat) (cell : Cell), U.vm.findClass C = some c ∧ U.fieldFound? C n d = some (c, k, i, f) ∧ f.isStatic = true ∧ k.statics = some a ∧ H[a]? = some cell ∧ cell.vm.isStatics = true ∧ cell.cls = c ∧ f.slot < cell.slots.size ∧ k.staticTypes[f.slot]? = some f.type ∧ ¬ A a
theorem vx_L.moved {C n d : String} {A : Nat → Prop} {u U : State} {H : Heap} (hvm : u.vm.Alike U.vm) (h : vx_L C n d A u H) : vx_L C n d A U H := by
  obtain ⟨c, k, i, f, a, cell, h1, h2, h3, h4, h5, h6, h7, h8, h9, h10⟩ := h
  obtain ⟨k', hi', he⟩ := State.fieldFound?_setVm hvm h2
  exact ⟨c, k', i, f, a, cell, by rw [hvm.findClass]; exact h1, hi', h3, by rw [he]; exact h4, h5, h6, h7, h8, by rw [he]; exact h9, h10⟩
theorem vx_L.kept {C n d : String} {A : Nat → Prop} {U : State} {H H1 : Heap} (h : vx_L C n d A U H) (hq : ∀ a : Nat, a < H.size → ¬ A a → H1[a]? = H[a]?) : vx_L C n d A U H1 := by
  obtain ⟨c, k, i, f, a, cell, h1, h2, h3, h4, h5, h6, h7, h8, h9, h10⟩ := h
  exact ⟨c, k, i, f, a, cell, h1, h2, h3, h4, by rw [hq a (Array.getElem?_eq_some_iff.mp h5).1 h10]; exact h5, h6, h7, h8, h9, h10⟩
theorem vx_L.narrow {C n d : String} {A B : Nat → Prop} {U : State} {H : Heap} (h : vx_L C n d A U H) (hAB : ∀ q, B q → A q) : vx_L C n d B U H := by
  obtain ⟨c, k, i, f, a, cell, h1, h2, h3, h4, h5, h6, h7, h8, h9, h10⟩ := h
  exact ⟨c, k, i, f, a, cell, h1, h2, h3, h4, h5, h6, h7, h8, h9, fun z => h10 (hAB _ z)⟩
theorem vx_L.word {C n d : String} {A : Nat → Prop} {s : State} {args : Array Value} (h : vx_L C n d A s s.heap) : (Cond.laysStatic C n d).before args s = true := by
  obtain ⟨c, k, i, f, a, cell, h1, h2, h3, h4, h5, h6, h7, h8, h9, -⟩ := h
  show (Cond.laysStatic C n d).holds args s none s [] = true
  exact Cond.laysStatic_of h1 h2 h3 h4 h5 h6 h7 h8 h9
/-- .. and what it holds: null or some reference -/
def vx_Zq (C n d : String) (A : Nat → Prop) (U : State) (H : Heap) : Prop := va_Zq C n d A U H ∧ vx_L C n d A U H
theorem vx_Zq.moved {C n d : String} {A : Nat → Prop} {u U : State} {H : Heap} (hvm : u.vm.Alike U.vm) (h : vx_Zq C n d A u H) : vx_Zq C n d A U H := ⟨va_Zq.moved hvm h.1, vx_L.moved hvm h.2⟩
theorem vx_Zq.kept {C n d : String} {A : Nat → Prop} {U : State} {H H1 : Heap} (h : vx_Zq C n d A U H) (hq : ∀ a : Nat, a < H.size → ¬ A a → H1[a]? = H[a]?) : vx_Zq C n d A U H1 := ⟨va_Zq.kept h.1 hq, vx_L.kept h.2 hq⟩
theorem vx_Zq.narrow {C n d : String} {A B : Nat → Prop} {U : State} {H : Heap} (h : vx_Zq C n d A U H) (hAB : ∀ q, B q → A q) : vx_Zq C n d B U H := ⟨va_Zq.narrow h.1 hAB, vx_L.narrow h.2 hAB⟩
theorem vx_Zqof {args : Array Value} {s : State} {C n d : String} {A : Nat → Prop} (hl : (Cond.laysStatic C n d).before args s = true) (hini : (Cond.initialized C).before args s = true) (h : (Cond.isRef (.static C n d)).before args s = true) (hA : ∀ a : Nat, a < s.heap.size → ¬ A a) : vx_Zq C n d A s s.heap := by
  refine ⟨va_Zqof hl hini h hA, ?_⟩
  obtain ⟨c, k, i, f, a, cell, h1, h2, h3, h4, h5, h6, h7, h8, h9⟩ := Cond.laysStatic_spec hl
  exact ⟨c, k, i, f, a, cell, h1, h2, h3, h4, h5, h6, h7, h8, h9, hA a (Array.getElem?_eq_some_iff.mp h5).1⟩
theorem vx_isRef {C n d : String} {v : Value} {A : Nat → Prop} {s : State} {args : Array Value} (h : va_Z C n d v A s s.heap) (hv : v.isRef = true) : (Cond.isRef (.static C n d)).before args s = true := by
  obtain ⟨cf, kf, fi, f, a, cell, h1, h2, h3, h4, h5, h6, h7, -⟩ := h
  have he : (Term.static C n d).eval args s none [] s = some v := by
    simp [Term.eval, State.fieldNamed?, h1, h2, h4, h5, h6, h7]
  simp only [Cond.before, Cond.holds, Cond.value, he]
  cases v <;> simp_all [Value.isRef]
theorem vx_isRefq {C n d : String} {A : Nat → Prop} {s : State} {args : Array Value} (h : va_Zq C n d A s s.heap) : (Cond.isRef (.static C n d)).before args s = true := by
  rcases h with h | ⟨t, h⟩
  · exact vx_isRef h rfl
  · exact vx_isRef h rfl
/-- the same frame, seen from here: as if the method were called anew in this heap -/
theorem vx_rebase {T : State} (X : Stand p l e R s m args below meth c T locs cells slots) {R' : Room} (hf : R'.frames ≤ R.frames) (hl : R'.locals ≤ R.locals) (hc : cells + R'.cells ≤ R.cells) (hs : slots + R'.slots ≤ R.slots) :
    Stand p l e R' ((T.setVm s.vm).setFrames (.invoking m args :: below)) m args below meth c T [] 0 0 := by
  have htop : (T.setVm s.vm).topJava?.isSome := X.here.top
  have hF : ((T.setVm s.vm).setFrames (.invoking m args :: below)).frames = .invoking m args :: below := State.frames_setFrames _ (State.cur_lt_of_top htop)
  obtain ⟨g₀, hg0⟩ := Option.isSome_iff_exists.mp htop
  obtain ⟨r, hr⟩ := State.topJava?_eq_some.mp hg0
  have hl9 : e.platform.stackLimits (T.setVm s.vm).me = e.platform.stackLimits s.me := X.limits
  have hb9 : (T.setVm s.vm).me.stackBytes = s.me.stackBytes := X.bytes
  refine ⟨X.admits, X.cas, X.clock, hF, ?_, X.hears, X.method, X.code, X.here, X.tail, X.warmed, ?_, ?_, ?_⟩
  · have h := X.room
    have hU : ((T.setVm s.vm).setFrames (.invoking m args :: below)).localsInUse = s.localsInUse := by
      rw [State.localsInUse_invoking hF (meth := meth) (c := c) X.method X.code, State.localsInUse_invoking X.frames X.method X.code]
    simp only [State.hasRoom, Bool.and_eq_true, decide_eq_true_eq] at h ⊢
    obtain ⟨⟨⟨⟨h1, h2, h3, h4, h5, h6⟩, h7⟩, h8⟩, h9⟩ := h
    rw [X.frames, List.length_cons] at h2 h3
    have q1 := X.heapSize
    have q2 := X.used
    simp only [hF, hU, List.length_cons, State.stackLimits_setFrames, State.stackBytes_setFrames, hl9, hb9]
    refine ⟨⟨⟨⟨by omega, by omega, by omega, by omega, by omega, h6⟩, ?_⟩, ?_⟩, X.book⟩
    · show T.heap.size + R'.cells ≤ e.platform.maxCells
      omega
    · show T.slotsUsed + R'.slots ≤ e.platform.maxSlots
      omega
  · rw [State.stackLimits_setFrames]; rfl
  · rw [State.stackBytes_setFrames]; rfl
  · refine ⟨?_, Nat.le_refl _, Nat.le_refl _, ?_, ?_, fun a c9 h9 => ⟨c9, h9, rfl, rfl, fun _ _ => rfl⟩⟩
    · obtain ⟨t, ht, -⟩ := State.frames_cons hr
      show T.setVm s.vm = { ((T.setVm s.vm).setFrames (.invoking m args :: below)).setFrames (T.setVm s.vm).frames with heap := T.heap, slotsUsed := T.slotsUsed }
      rw [State.setFrames_setFrames, State.setFrames_self ht]
      rfl
    · show T.slotsUsed = T.slotsUsed + ((T.heap.toList.drop T.heap.size).map (·.slots.size)).sum
      rw [List.drop_eq_nil_of_le (Nat.le_of_eq Array.length_toList)]
      rfl
    · show ((T.heap.toList.drop T.heap.size).map (·.slots.size)).sum ≤ 0
      rw [List.drop_eq_nil_of_le (Nat.le_of_eq Array.length_toList)]
      exact Nat.le_refl _
/-- 'throw new E()': new; dup; invokespecial; athrow -/
theorem vx_throw0 {cc : ByteArray} {pc : Nat} (hexec : p.tables.exec = Jvm.exec) (hb : c.code = cc) (hl : l.stackTraces = false) {own cls : String} {names : List String} {ik ic mc ms : Nat} {A : Nat → Prop}
    (hown : s.vm.findClass own = some m.cls) (hcls : Bundle.fit cls = true) (hnames : ∀ n ∈ names, Bundle.fit n = true)
    (hk : (Cond.classLink own ik cls).before args s = true) (hini : (Cond.initialized cls).before args s = true) (hat : ∀ w ∈ vx_at0 own ic cls names, w.before args s = true)
    (hgood : ∀ w ∈ Cond.classLink own ik cls :: Cond.initialized cls :: vx_at0 own ic cls names, vx_ot w = true)
    (hU : vx_Zq Bundle.tN "UNASSIGNED_STACK" Bundle.steD A s s.heap) (hN : vx_Zq Bundle.tN "SUPPRESSED_SENTINEL" Bundle.listD A s s.heap) (hS : va_S A s.heap H locs) (hsize : ls.size = c.maxLocals)
    (d0 : decode cc pc = .ok (.new ik, 3)) (d3 : decode cc (pc + 3) = .ok (.dup, 1)) (d4 : decode cc (pc + 4) = .ok (.invokespecial ic, 3)) (d7 : decode cc (pc + 7) = .ok (.athrow, 1))
    (hout : ∀ x ∈ c.exceptionTable.toList, covers x (pc + 7) = false)
    (hRframes : names.length + 3 < R.frames) (hRlocals : (rest.map fun v => v.category).sum + (13 * (names.length + 1) + 42) ≤ R.locals) (hRcells : cells + 1 ≤ R.cells) (hRslots : slots + 6 ≤ R.slots) (hlocks : meth.locks = false)
    (hx : ∀ t : State, s.vm.Alike t.vm → H.size ≤ t.heap.size → (∀ q : Nat, q < H.size → t.heap[q]? = H[q]?) → XC cls s t)
    (hf : ∀ z ∈ locs, free z.base) (hc : cells + 1 ≤ mc) (hs : slots + 6 ≤ ms) :
    W p l e R s m args below meth c H locs cells slots (vx_MQ below Qc XC args s mc ms free) (F0 m pc ls rest) := by
  intro T hT X
  have htr : e.platform.stackTraces = false := (show e.platform.stackTraces = l.stackTraces by rw [X.admits.platform]).trans hl
  have Y := vx_rebase X (R' := { frames := R.frames, locals := R.locals, cells := 1, slots := 6 }) (Nat.le_refl _) (Nat.le_refl _) hRcells hRslots
  obtain ⟨s', hA⟩ : ∃ z, z = (T.setVm s.vm).setFrames (.invoking m args :: below) := ⟨_, rfl⟩
  rw [← hA] at Y
  have hvm : s'.vm = s.vm := by rw [hA]; rfl
  have hhp : s'.heap = H := by rw [hA]; exact hT
  have hW0 : s.WarmedH s'.vm := by rw [hvm]; exact State.WarmedH.refl s
  have hat' : ∀ w ∈ vx_at0 own ic cls names, w.before args s' = true := fun w hw => vx_ot_at hW0 hvm.symm (hgood w (List.mem_cons_of_mem _ (List.mem_cons_of_mem _ hw))) (hat w hw)
  have hk' : (Cond.classLink own ik cls).before args s' = true := vx_ot_at hW0 hvm.symm (hgood _ List.mem_cons_self) hk
  have hini' : (Cond.initialized cls).before args s' = true := vx_ot_at hW0 hvm.symm (hgood _ (List.mem_cons_of_mem _ List.mem_cons_self)) hini
  have hU' : vx_Zq Bundle.tN "UNASSIGNED_STACK" Bundle.steD A s' s'.heap := by rw [hhp]; exact vx_Zq.moved hW0.alike (hU.kept hS.2.1)
  have hN' : vx_Zq Bundle.tN "SUPPRESSED_SENTINEL" Bundle.listD A s' s'.heap := by rw [hhp]; exact vx_Zq.moved hW0.alike (hN.kept hS.2.1)
  have h : ∀ w ∈ Bundle.ownAtoms0 own ic cls names, w.before args s' = true := vx_own hat' (vx_isRefq hU'.1) (vx_isRefq hN'.1) hU'.2.word hN'.2.word
  have hown' : s'.vm.findClass own = some m.cls := by rw [hvm]; exact hown
  have hins : (Cond.instantiable cls 6).before args s' = true := h _ (by simp [Bundle.ownAtoms0])
  obtain ⟨vm₁, cX, kX, hfX, hkX, -, -, X₁, st1⟩ := Y.newCold hexec (own := own) (C := cls) (index := ik) (n := 6) hown' hk' hins hini'
    (g := F0 m pc ls rest) rfl (by rw [hb]; exact d0) (Nat.le_refl _) (Nat.le_refl _)
  generalize hT1 : (T.setVm vm₁).pushCell { cls := cX, slots := kX.instanceTypes.map defaultValue, vm := .none } = T1 at X₁ st1
  have hcat : (Value.ref T.heap.size).category = 1 := rfl
  have hcellA : T1.heap[T.heap.size]? = some (freshCell cX kX) := by rw [← hT1]; exact State.heap_pushCell_size _ _
  have d3' : decode c.code (pc + 3) = .ok (.dup, 1) := by rw [hb]; exact d3
  obtain ⟨U, hsteps, hrun, hend, hW, hsame, ce, hce, hO⟩ := X₁.ctorThrow0 hexec htr (own := own) (cls := cls) (names := names) (ic := ic) hown' hcls hnames h (fun x hx => nomatch hx) hfX hkX hcellA (by rw [hhp, hT]; exact Nat.le_refl _)
    (g := { method := m, pc := pc + 4, locals := ls, stack := .ref T.heap.size :: .ref T.heap.size :: rest, locked := none }) rfl hsize rfl rfl (rest := rest) rfl
    (by rw [hb]; exact d4) (by rw [hb]; exact d7) hout hRframes (by simp only [List.map_cons, List.sum_cons, hcat]; omega) hlocks
  obtain ⟨f1, f2⟩ := vx_frame hsame
  rw [hhp] at f1 f2
  have hWs : s.WarmedH U.vm := State.WarmedH.trans hW0 hW
  have hcl : s.vm.findClass cls = some ce.cls := by
    have h9 := hO.cls
    rw [hvm] at h9
    exact h9
  have hall : s.sameButNew ({ U with vm := s.vm } : State) locs mc ms := by
    subst hA
    obtain ⟨e1, e2⟩ := hsame
    rw [State.setFrames_setFrames] at e1
    have h2 : (T.setVm s.vm).sameButNew ({ U with vm := s.vm } : State) [] (0 + 1) (0 + 6) := ⟨e1, e2⟩
    have h3 := X.same.trans h2
    rw [List.append_nil] at h3
    exact h3.mono hc hs
  refine ⟨U, ?_, .threw T.heap.size, hrun, hend, Or.inr ⟨T.heap.size, rfl, cls, ce, locs, hx U hWs.alike f1 (fun q hq => f2 q hq (fun z hz => nomatch hz)), hce, hO.vm, hcl, hWs, hall, hf⟩⟩
  refine st1 _ ?_
  show Steps p.tables e below (T1.setTop { method := m, pc := pc + 3, locals := ls, stack := .ref T.heap.size :: rest, locked := none }) _
  jvm_step X₁.here [X₁.here.top, hexec, d3', Value.category]
  exact hsteps
/-- 'throw new E("text")': new; dup; ldc; invokespecial; athrow -/
theorem vx_throwS {cc : ByteArray} {pc : Nat} (hexec : p.tables.exec = Jvm.exec) (hb : c.code = cc) (hl : l.stackTraces = false) {own cls text : String} {names : List String} {ik is ic mc ms sa : Nat} {A : Nat → Prop}
    (hown : s.vm.findClass own = some m.cls) (hcls : Bundle.fit cls = true) (hnames : ∀ n ∈ names, Bundle.fit n = true)
    (hk : (Cond.classLink own ik cls).before args s = true) (hini : (Cond.initialized cls).before args s = true) (hstr : vk_R own is text sa s) (hat : ∀ w ∈ vx_atS own ic cls names, w.before args s = true)
    (hgood : ∀ w ∈ Cond.classLink own ik cls :: Cond.initialized cls :: vx_atS own ic cls names, vx_ot w = true)
    (hU : vx_Zq Bundle.tN "UNASSIGNED_STACK" Bundle.steD A s s.heap) (hN : vx_Zq Bundle.tN "SUPPRESSED_SENTINEL" Bundle.listD A s s.heap) (hS : va_S A s.heap H locs) (hsize : ls.size = c.maxLocals)
    (d0 : decode cc pc = .ok (.new ik, 3)) (d3 : decode cc (pc + 3) = .ok (.dup, 1)) (d4 : decode cc (pc + 4) = .ok (.ldc is, 2)) (d6 : decode cc (pc + 6) = .ok (.invokespecial ic, 3)) (d9 : decode cc (pc + 9) = .ok (.athrow, 1))
    (hout : ∀ x ∈ c.exceptionTable.toList, covers x (pc + 9) = false)
    (hRframes : names.length + 3 < R.frames) (hRlocals : (rest.map fun v => v.category).sum + (13 * (names.length + 1) + 43) ≤ R.locals) (hRcells : cells + 1 ≤ R.cells) (hRslots : slots + 6 ≤ R.slots) (hlocks : meth.locks = false)
    (hx : ∀ t : State, s.vm.Alike t.vm → H.size ≤ t.heap.size → (∀ q : Nat, q < H.size → t.heap[q]? = H[q]?) → XC cls s t)
    (hf : ∀ z ∈ locs, free z.base) (hc : cells + 1 ≤ mc) (hs : slots + 6 ≤ ms) :
    W p l e R s m args below meth c H locs cells slots (vx_MQ below Qc XC args s mc ms free) (F0 m pc ls rest) := by
  intro T hT X
  have htr : e.platform.stackTraces = false := (show e.platform.stackTraces = l.stackTraces by rw [X.admits.platform]).trans hl
  have Y := vx_rebase X (R' := { frames := R.frames, locals := R.locals, cells := 1, slots := 6 }) (Nat.le_refl _) (Nat.le_refl _) hRcells hRslots
  obtain ⟨s', hA⟩ : ∃ z, z = (T.setVm s.vm).setFrames (.invoking m args :: below) := ⟨_, rfl⟩
  rw [← hA] at Y
  have hvm : s'.vm = s.vm := by rw [hA]; rfl
  have hhp : s'.heap = H := by rw [hA]; exact hT
  have hW0 : s.WarmedH s'.vm := by rw [hvm]; exact State.WarmedH.refl s
  have hat' : ∀ w ∈ vx_atS own ic cls names, w.before args s' = true := fun w hw => vx_ot_at hW0 hvm.symm (hgood w (List.mem_cons_of_mem _ (List.mem_cons_of_mem _ hw))) (hat w hw)
  have hk' : (Cond.classLink own ik cls).before args s' = true := vx_ot_at hW0 hvm.symm (hgood _ List.mem_cons_self) hk
  have hini' : (Cond.initialized cls).before args s' = true := vx_ot_at hW0 hvm.symm (hgood _ (List.mem_cons_of_mem _ List.mem_cons_self)) hini
  have hU' : vx_Zq Bundle.tN "UNASSIGNED_STACK" Bundle.steD A s' s'.heap := by rw [hhp]; exact vx_Zq.moved hW0.alike (hU.kept hS.2.1)
  have hN' : vx_Zq Bundle.tN "SUPPRESSED_SENTINEL" Bundle.listD A s' s'.heap := by rw [hhp]; exact vx_Zq.moved hW0.alike (hN.kept hS.2.1)
  have h : ∀ w ∈ Bundle.ownAtoms own ic cls names, w.before args s' = true := vx_own hat' (vx_isRefq hU'.1) (vx_isRefq hN'.1) hU'.2.word hN'.2.word
  have hown' : s'.vm.findClass own = some m.cls := by rw [hvm]; exact hown
  have hins : (Cond.instantiable cls 6).before args s' = true := h _ (by simp [Bundle.ownAtoms])
  obtain ⟨vm₁, cX, kX, hfX, hkX, -, -, X₁, st1⟩ := Y.newCold hexec (own := own) (C := cls) (index := ik) (n := 6) hown' hk' hins hini'
    (g := F0 m pc ls rest) rfl (by rw [hb]; exact d0) (Nat.le_refl _) (Nat.le_refl _)
  generalize hT1 : (T.setVm vm₁).pushCell { cls := cX, slots := kX.instanceTypes.map defaultValue, vm := .none } = T1 at X₁ st1
  have hcat : (Value.ref T.heap.size).category = 1 := rfl
  have hcellA : T1.heap[T.heap.size]? = some (freshCell cX kX) := by rw [← hT1]; exact State.heap_pushCell_size _ _
  have d3' : decode c.code (pc + 3) = .ok (.dup, 1) := by rw [hb]; exact d3
  have d4' : decode c.code (pc + 4) = .ok (.ldc is, 2) := by rw [hb]; exact d4
  have hstr' : vk_R own is text sa s' := vk_R.warm hW0 hstr
  obtain ⟨U, hsteps, hrun, hend, hW, hsame, ce, hce, hO⟩ := X₁.ctorThrowS hexec htr (own := own) (cls := cls) (names := names) (ic := ic) hown' hcls hnames h (fun x hx => nomatch hx) hfX hkX hcellA (by rw [hhp, hT]; exact Nat.le_refl _) (msg := .ref sa) rfl
    (g := { method := m, pc := pc + 6, locals := ls, stack := .ref sa :: .ref T.heap.size :: .ref T.heap.size :: rest, locked := none }) rfl hsize rfl rfl (rest := rest) rfl
    (by rw [hb]; exact d6) (by rw [hb]; exact d9) hout hRframes (by simp only [List.map_cons, List.sum_cons, hcat]; omega) hlocks
  obtain ⟨f1, f2⟩ := vx_frame hsame
  rw [hhp] at f1 f2
  have hWs : s.WarmedH U.vm := State.WarmedH.trans hW0 hW
  have hcl : s.vm.findClass cls = some ce.cls := by
    have h9 := hO.cls
    rw [hvm] at h9
    exact h9
  have hall : s.sameButNew ({ U with vm := s.vm } : State) locs mc ms := by
    subst hA
    obtain ⟨e1, e2⟩ := hsame
    rw [State.setFrames_setFrames] at e1
    have h2 : (T.setVm s.vm).sameButNew ({ U with vm := s.vm } : State) [] (0 + 1) (0 + 6) := ⟨e1, e2⟩
    have h3 := X.same.trans h2
    rw [List.append_nil] at h3
    exact h3.mono hc hs
  refine ⟨U, ?_, .threw T.heap.size, hrun, hend, Or.inr ⟨T.heap.size, rfl, cls, ce, locs, hx U hWs.alike f1 (fun q hq => f2 q hq (fun z hz => nomatch hz)), hce, hO.vm, hcl, hWs, hall, hf⟩⟩
  refine st1 _ ?_
  show Steps p.tables e below (T1.setTop { method := m, pc := pc + 3, locals := ls, stack := .ref T.heap.size :: rest, locked := none }) _
  jvm_step X₁.here [X₁.here.top, hexec, d3', Value.category]
  exact X₁.ldcString hexec (own := own) (text := text) (index := is) (a := sa) hown' hstr'.1 hstr'.2
    (g := { method := m, pc := pc + 4, locals := ls, stack := .ref T.heap.size :: .ref T.heap.size :: rest, locked := none }) rfl d4' _ hsteps
/-- 'throw new E("text")', the text by a wide index -/
theorem vx_throwSW {cc : ByteArray} {pc : Nat} (hexec : p.tables.exec = Jvm.exec) (hb : c.code = cc) (hl : l.stackTraces = false) {own cls text : String} {names : List String} {ik is ic mc ms sa : Nat} {A : Nat → Prop}
    (hown : s.vm.findClass own = some m.cls) (hcls : Bundle.fit cls = true) (hnames : ∀ n ∈ names, Bundle.fit n = true)
    (hk : (Cond.classLink own ik cls).before args s = true) (hini : (Cond.initialized cls).before args s = true) (hstr : vk_R own is text sa s) (hat : ∀ w ∈ vx_atS own ic cls names, w.before args s = true)
    (hgood : ∀ w ∈ Cond.classLink own ik cls :: Cond.initialized cls :: vx_atS own ic cls names, vx_ot w = true)
    (hU : vx_Zq Bundle.tN "UNASSIGNED_STACK" Bundle.steD A s s.heap) (hN : vx_Zq Bundle.tN "SUPPRESSED_SENTINEL" Bundle.listD A s s.heap) (hS : va_S A s.heap H locs) (hsize : ls.size = c.maxLocals)
    (d0 : decode cc pc = .ok (.new ik, 3)) (d3 : decode cc (pc + 3) = .ok (.dup, 1)) (d4 : decode cc (pc + 4) = .ok (.ldc_w is, 3)) (d7 : decode cc (pc + 7) = .ok (.invokespecial ic, 3)) (d10 : decode cc (pc + 10) = .ok (.athrow, 1))
    (hout : ∀ x ∈ c.exceptionTable.toList, covers x (pc + 10) = false)
    (hRframes : names.length + 3 < R.frames) (hRlocals : (rest.map fun v => v.category).sum + (13 * (names.length + 1) + 43) ≤ R.locals) (hRcells : cells + 1 ≤ R.cells) (hRslots : slots + 6 ≤ R.slots) (hlocks : meth.locks = false)
    (hx : ∀ t : State, s.vm.Alike t.vm → H.size ≤ t.heap.size → (∀ q : Nat, q < H.size → t.heap[q]? = H[q]?) → XC cls s t)
    (hf : ∀ z ∈ locs, free z.base) (hc : cells + 1 ≤ mc) (hs : slots + 6 ≤ ms) :
    W p l e R s m args below meth c H locs cells slots (vx_MQ below Qc XC args s mc ms free) (F0 m pc ls rest) := by
  intro T hT X
  have htr : e.platform.stackTraces = false := (show e.platform.stackTraces = l.stackTraces by rw [X.admits.platform]).trans hl
  have Y := vx_rebase X (R' := { frames := R.frames, locals := R.locals, cells := 1, slots := 6 }) (Nat.le_refl _) (Nat.le_refl _) hRcells hRslots
  obtain ⟨s', hA⟩ : ∃ z, z = (T.setVm s.vm).setFrames (.invoking m args :: below) := ⟨_, rfl⟩
  rw [← hA] at Y
  have hvm : s'.vm = s.vm := by rw [hA]; rfl
  have hhp : s'.heap = H := by rw [hA]; exact hT
  have hW0 : s.WarmedH s'.vm := by rw [hvm]; exact State.WarmedH.refl s
  have hat' : ∀ w ∈ vx_atS own ic cls names, w.before args s' = true := fun w hw => vx_ot_at hW0 hvm.symm (hgood w (List.mem_cons_of_mem _ (List.mem_cons_of_mem _ hw))) (hat w hw)
  have hk' : (Cond.classLink own ik cls).before args s' = true := vx_ot_at hW0 hvm.symm (hgood _ List.mem_cons_self) hk
  have hini' : (Cond.initialized cls).before args s' = true := vx_ot_at hW0 hvm.symm (hgood _ (List.mem_cons_of_mem _ List.mem_cons_self)) hini
  have hU' : vx_Zq Bundle.tN "UNASSIGNED_STACK" Bundle.steD A s' s'.heap := by rw [hhp]; exact vx_Zq.moved hW0.alike (hU.kept hS.2.1)
  have hN' : vx_Zq Bundle.tN "SUPPRESSED_SENTINEL" Bundle.listD A s' s'.heap := by rw [hhp]; exact vx_Zq.moved hW0.alike (hN.kept hS.2.1)
  have h : ∀ w ∈ Bundle.ownAtoms own ic cls names, w.before args s' = true := vx_own hat' (vx_isRefq hU'.1) (vx_isRefq hN'.1) hU'.2.word hN'.2.word
  have hown' : s'.vm.findClass own = some m.cls := by rw [hvm]; exact hown
  have hins : (Cond.instantiable cls 6).before args s' = true := h _ (by simp [Bundle.ownAtoms])
  obtain ⟨vm₁, cX, kX, hfX, hkX, -, -, X₁, st1⟩ := Y.newCold hexec (own := own) (C := cls) (index := ik) (n := 6) hown' hk' hins hini'
    (g := F0 m pc ls rest) rfl (by rw [hb]; exact d0) (Nat.le_refl _) (Nat.le_refl _)
  generalize hT1 : (T.setVm vm₁).pushCell { cls := cX, slots := kX.instanceTypes.map defaultValue, vm := .none } = T1 at X₁ st1
  have hcat : (Value.ref T.heap.size).category = 1 := rfl
  have hcellA : T1.heap[T.heap.size]? = some (freshCell cX kX) := by rw [← hT1]; exact State.heap_pushCell_size _ _
  have d3' : decode c.code (pc + 3) = .ok (.dup, 1) := by rw [hb]; exact d3
  have d4' : decode c.code (pc + 4) = .ok (.ldc_w is, 3) := by rw [hb]; exact d4
  have hstr' : vk_R own is text sa s' := vk_R.warm hW0 hstr
  obtain ⟨U, hsteps, hrun, hend, hW, hsame, ce, hce, hO⟩ := X₁.ctorThrowS hexec htr (own := own) (cls := cls) (names := names) (ic := ic) hown' hcls hnames h (fun x hx => nomatch hx) hfX hkX hcellA (by rw [hhp, hT]; exact Nat.le_refl _) (msg := .ref sa) rfl
    (g := { method := m, pc := pc + 7, locals := ls, stack := .ref sa :: .ref T.heap.size :: .ref T.heap.size :: rest, locked := none }) rfl hsize rfl rfl (rest := rest) rfl
    (by rw [hb]; exact d7) (by rw [hb]; exact d10) hout hRframes (by simp only [List.map_cons, List.sum_cons, hcat]; omega) hlocks
  obtain ⟨f1, f2⟩ := vx_frame hsame
  rw [hhp] at f1 f2
  have hWs : s.WarmedH U.vm := State.WarmedH.trans hW0 hW
  have hcl : s.vm.findClass cls = some ce.cls := by
    have h9 := hO.cls
    rw [hvm] at h9
    exact h9
  have hall : s.sameButNew ({ U with vm := s.vm } : State) locs mc ms := by
    subst hA
    obtain ⟨e1, e2⟩ := hsame
    rw [State.setFrames_setFrames] at e1
    have h2 : (T.setVm s.vm).sameButNew ({ U with vm := s.vm } : State) [] (0 + 1) (0 + 6) := ⟨e1, e2⟩
    have h3 := X.same.trans h2
    rw [List.append_nil] at h3
    exact h3.mono hc hs
  refine ⟨U, ?_, .threw T.heap.size, hrun, hend, Or.inr ⟨T.heap.size, rfl, cls, ce, locs, hx U hWs.alike f1 (fun q hq => f2 q hq (fun z hz => nomatch hz)), hce, hO.vm, hcl, hWs, hall, hf⟩⟩
  refine st1 _ ?_
  show Steps p.tables e below (T1.setTop { method := m, pc := pc + 3, locals := ls, stack := .ref T.heap.size :: rest, locked := none }) _
  jvm_step X₁.here [X₁.here.top, hexec, d3', Value.category]
  exact X₁.ldcStringW hexec (own := own) (text := text) (index := is) (a := sa) hown' hstr'.1 hstr'.2
    (g := { method := m, pc := pc + 4, locals := ls, stack := .ref T.heap.size :: .ref T.heap.size :: rest, locked := none }) rfl d4' _ hsteps
end Ends
section Bodies
variable {l : Launch}
theorem vx_ofW {y : MethodName} {ws ws' : List Cond} {rm : Room} {Pc : Array Value → State → Prop} {Qc : Array Value → State → Outcome → State → Prop} {XC : String → State → State → Prop} {mc ms : Nat} {free : Addr → Prop} {cc : ByteArray} {maxL : Nat} {ret : Option FieldType}
    (hy : plainName y.cls = true) (hw : ws = Cond.code y cc maxL ret :: ws')
    (body : ∀ p e s m args below meth c s₁, BodyLoose p l y (headSpec ws rm) cc maxL ret e s m args below meth c s₁ → c.maxLocals = maxL → (∀ x ∈ c.exceptionTable.toList, False) → Pc args s →
      W p l e (headSpec ws rm).room s m args below meth c s.heap [] 0 0 (vx_MQ below Qc XC args s mc ms free) (entryFrame m args maxL)) : vx_Met l y ws rm Pc Qc XC mc ms free := by
  refine MetFree.of_bodyS (code := cc) (maxLocals := maxL) (ret := ret) hy ?_ ?_
  · intro args s m h hn
    obtain ⟨meth, c, h1, h2, h3, h4, h5, h6, -, -⟩ := Cond.code_spec hn (atoms_spec (ws := ws) h _ (by rw [hw]; exact List.mem_cons_self))
    exact ⟨meth, c, h1, h2, h3, h4, h5, h6⟩
  · intro p e s m args below meth c s₁ B hml hP _
    have hh0 : s₁.heap = s.heap := by rw [B.state]; rfl
    have ht : ∀ x ∈ c.exceptionTable.toList, False := by
      obtain ⟨meth9, c9, h1, h2, -, -, -, -, h7, -⟩ := Cond.code_spec B.named (atoms_spec (ws := ws) B.pre _ (by rw [hw]; exact List.mem_cons_self))
      cases Option.some.inj (h1.symm.trans B.method)
      cases Option.some.inj (h2.symm.trans (Stand.of_body B).code)
      intro x hx
      rw [Array.isEmpty_iff.mp h7] at hx
      cases hx
    obtain ⟨t, a1, o, b1, b2, b3⟩ := body p e s m args below meth c s₁ B hml ht hP s₁ hh0 (Stand.of_body B)
    exact ⟨t, o, a1, b1, b2, b3⟩
/-- the table of a body with handlers -/
theorem vx_table {p : Program} {x y : MethodName} {S : Spec} {cc bytes : ByteArray} {maxL maxL' : Nat} {ret ret' : Option FieldType} {e : Env} {s s₁ : State} {m : MethodId} {args : Array Value} {below : List Frame} {meth : Method} {c : Code} {hh : List (Nat × Nat × Nat × Nat)}
    (B : BodyLoose p l y S cc maxL ret e s m args below meth c s₁) (h : (Cond.codeWith y bytes maxL' ret' hh).before args s = true) : c.exceptionTable.toList = tableOf hh := by
  obtain ⟨m9, meth9, c9, hn9, h1, h2, -, -, h6, -⟩ := Cond.codeWith_spec h
  cases Option.some.inj (hn9.symm.trans B.named)
  cases Option.some.inj (h1.symm.trans B.method)
  cases Option.some.inj (h2.symm.trans (Stand.of_body B).code)
  rw [← h6, table_eq]
end Bodies
end VXA
/-! ===== END ===== -/
/-! ===== BEGIN a static call of a method with an exception table ===== -/
section VXS
variable {p : Program} {l : Launch} {e : Env} {R : Room} {s : State} {m : MethodId} {args : Array Value} {below : List Frame} {meth : Method} {c : Code} {T : State} {H : Heap} {locs : List Loc} {cells slots : Nat}
abbrev vx_CSW (R : Room) (s : State) (args : Array Value) (own : String) (index : Nat) (y : MethodName) (bytes : ByteArray) (maxL : Nat) (ret : Option FieldType) (hh : List (Nat × Nat × Nat × Nat)) (ws : List Cond) (rm : Room) (mc ms n : Nat) : Prop :=
  (rm.cells = mc ∧ rm.slots = ms ∧ rm.frames + 1 ≤ R.frames ∧ 8 + (maxL + 11) + rm.locals ≤ R.locals ∧ (∀ w ∈ ws, ∀ (a' : Array Value) (U : State), s.WarmedH U.vm → w.before a' U = true) ∧ Cond.codeWith y bytes maxL ret hh ∈ ws) ∧
  (Cond.codeWith y bytes maxL ret hh).before args s = true ∧ (Cond.initialized y.cls).before args s = true ∧ (y.cls ≠ "java/lang/invoke/MethodHandle" ∧ y.cls ≠ "java/lang/invoke/VarHandle") ∧
  (∀ sig, parseMethodDescriptor y.desc = some sig → n = sig.parameters.length) ∧ (Cond.methodLink own index y).before args s = true ∧ (Cond.static y).before args s = true
theorem vx_cwSW {own : String} {index maxL mc ms : Nat} {y : MethodName} {bytes : ByteArray} {ret : Option FieldType} {hh : List (Nat × Nat × Nat × Nat)} {Ts ws ws' : List Cond} {rm : Room} (n : Nat) (ht : ∀ w ∈ Ts, w.before args s = true) (hT : GoodIn Ts (va_wsS own index y ws)) (hw : ws = Cond.codeWith y bytes maxL ret hh :: ws') (hrc : rm.cells = mc) (hrs : rm.slots = ms)
    (hd : y.cls ≠ "java/lang/invoke/MethodHandle" ∧ y.cls ≠ "java/lang/invoke/VarHandle" ∧ (parseMethodDescriptor y.desc).map (fun d => d.parameters.length) = some n) (hR : rm.frames + 1 ≤ R.frames ∧ 8 + (maxL + 11) + rm.locals ≤ R.locals) :
    vx_CSW R s args own index y bytes maxL ret hh ws rm mc ms n := by
  have ok : ∀ w ∈ va_wsS own index y ws, w.before args s = true := fun w h => ht w (hT w h).1
  have hG : GoodIn Ts ws := fun w h => hT w (by unfold va_wsS; exact List.mem_append_right _ h)
  have hc : Cond.codeWith y bytes maxL ret hh ∈ ws := by rw [hw]; exact List.mem_cons_self
  refine ⟨⟨hrc, hrs, hR.1, hR.2, pay_in ht hG, hc⟩, ht _ (hG _ hc).1, ok _ (by simp [va_wsS]), ⟨hd.1, hd.2.1⟩, fun sig h => ?_, ok _ (by simp [va_wsS]), ok _ (by simp [va_wsS])⟩
  have h2 := hd.2.2
  rw [h] at h2
  exact (Option.some.inj h2).symm
theorem vx_callSW (X : Stand p l e R s m args below meth c T locs cells slots) (hexec : p.tables.exec = Jvm.exec) {own : String} {index : Nat} {y : MethodName} {bytes : ByteArray} {maxL : Nat} {ret : Option FieldType} {hh : List (Nat × Nat × Nat × Nat)}
    (hown : s.vm.findClass own = some m.cls) (hlink : (Cond.methodLink own index y).before args s = true) (hstat : (Cond.static y).before args s = true) (hinit : (Cond.initialized y.cls).before args s = true)
    (hcode : (Cond.codeWith y bytes maxL ret hh).before args s = true) (hy : y.cls ≠ "java/lang/invoke/MethodHandle" ∧ y.cls ≠ "java/lang/invoke/VarHandle")
    {W9 : Nat} {Pre : Pt → Array Value → Prop} {Post : Pt → Array Value → Option Value → Pt → Prop} (hK : Back l R p e below s args y 3 W9 Pre Post)
    {g : JFrame} (hg : g.method = m) (hsize : g.locals.size = c.maxLocals) {argsL rest : List Value} (hlen : ∀ sig, parseMethodDescriptor y.desc = some sig → argsL.length = sig.parameters.length)
    (hstack : g.stack = argsL.reverse ++ rest) (hW : 2 * g.monitorRoom + (rest.map fun v => v.category).sum ≤ W9) (hdg : decode c.code g.pc = .ok (.invokestatic index, 3))
    (hpre : ∀ vm₁, s.WarmedH vm₁ → Pre ⟨T.setVm vm₁, locs, cells, slots⟩ argsL.toArray) :
    ∃ (v : Option Value) (vm₁ : Vm) (B : Pt), s.WarmedH vm₁ ∧ Stand p l e R s m args below meth c B.U B.locs B.cells B.slots ∧ Post ⟨T.setVm vm₁, locs, cells, slots⟩ argsL.toArray v B ∧
      ∀ target, Steps p.tables e below (B.U.setTop { g with pc := g.pc + 3, stack := v.toList ++ rest }) target → Steps p.tables e below (T.setTop g) target := by
  obtain ⟨mk, methM, cM, hnamed, hmethM, -, -, -, -, -, -, hsigM⟩ := Cond.codeWith_spec hcode
  have hstatic : methM.isStatic = true := Cond.static_spec hnamed hmethM hstat
  obtain ⟨kP, hkP, -⟩ := className_of_methodNamed hnamed
  have hinitP : kP.init = .initialized := Cond.initialized_spec (findClass_of_methodNamed hnamed) hkP hinit
  obtain ⟨vm₁, X₁, hstep₁⟩ := X.invokestatic hexec hown hlink hnamed hmethM hstatic hkP hinitP hy (g := g) hg (argsL := argsL) (rest := rest) (hlen _ hsigM) hstack hdg
  obtain ⟨v, B, X', hpost, hsteps⟩ := hK m meth c ⟨T.setVm vm₁, locs, cells, slots⟩ { g with stack := rest } (.invokestatic index) mk argsL.toArray X₁ hg hsize hdg hW (X₁.named hnamed) (hpre vm₁ X₁.warmed)
  exact ⟨v, vm₁, B, X₁.warmed, X', hpost, fun target h => hstep₁ _ fun acts => by rw [doInvoke_state]; exact hsteps.trans h⟩
theorem vx_runSW {y : MethodName} {bytes cc : ByteArray} {maxL nL mc ms n index : Nat} {ret : Option FieldType} {hh : List (Nat × Nat × Nat × Nat)} {ws : List Cond} {rm : Room} {Pc : Array Value → State → Prop} {Qc : Array Value → State → Outcome → State → Prop} {free : Addr → Prop} {Ts : List Cond} {own : String} {As rest : List Value} {g : JFrame}
    (S : CallFix p m c cc nL s args Ts own) (hM : Met l y ws rm Pc Qc mc ms free) (cw : vx_CSW R s args own index y bytes maxL ret hh ws rm mc ms n) (hp : PreS s H Pc As)
    (hg : g.method = m) (hn : As.length = n) (hsize : g.locals.size = nL) (hstack : g.stack = As.reverse ++ rest) (hW : 2 * g.monitorRoom + (rest.map fun v => v.category).sum ≤ 8) (hdg : decode cc g.pc = .ok (.invokestatic index, 3)) (hf : cells + mc ≤ R.cells ∧ slots + ms ≤ R.slots) :
    va_Run p l e R s m args below meth c H locs cells slots mc ms g rest (Qc As.toArray) (free) := by
  obtain ⟨⟨hrc, hrs, hfr, hlo, hws, hcw⟩, hcode, hini, hy, hlen, hl, hstt⟩ := cw
  have hK : Back l R p e below s args y 3 8 (PreOf R mc ms Pc) (PostOf Qc mc ms free) := va_backW (hh := hh) (bytes := bytes) (maxL := maxL) (ret := ret) hM hp.1 hrc hrs hfr hlo hws hcw (fun a' U hW => word_at hW (Or.inl (by first | rfl | simp [Cond.onTables, Cond.keeps, Cond.steady])) hini)
  obtain ⟨hx, hb, hml, ho, -⟩ := S
  intro T hT X
  obtain ⟨v, vm₁, ⟨U', l2, c2, s2⟩, hW₁, X', ⟨g', mk, t, L, e1, e2, hq, h1, hL, h2, h3⟩, st⟩ := vx_callSW X hx (hh := hh) (bytes := bytes) (maxL := maxL) (ret := ret) ho hl hstt hini hcode hy hK hg (hsize.trans hml.symm) (argsL := As) (rest := rest) (fun sig h => hn.trans (hlen sig h)) hstack hW (by rw [hb]; exact hdg)
    (fun vm₁ hW₁ => ⟨hf.1, hf.2, hp.2 (T.setVm vm₁) hT hW₁⟩)
  dsimp only [Pt.U, Pt.locs, Pt.cells, Pt.slots] at X' e1 e2 h1 h2 h3 st
  subst h1; subst h2; subst h3
  exact ⟨v, (T.setVm vm₁).calling g' mk As.toArray, t, U', L, hT, X', hL, e1, e2, hq, st⟩
/-- not caught here, past rows that name other classes: it goes on to the caller -/
theorem vx_outP {p : Program} {l : Launch} {e : Env} {R : Room} {s : State} {m : MethodId} {args : Array Value} {below : List Frame} {meth : Method} {c : Code} {H : Heap} {locs : List Loc} {cells slots : Nat} {free : Addr → Prop} {ls : Array Slot} {rest : List Value} {Qc : Array Value → State → Outcome → State → Prop} {XC : String → State → State → Prop}
    {pc : Nat} {own E : String} {ce : Cell} {q : Addr} {mc ms : Nat} (hown : s.vm.findClass own = some m.cls) (hlocks : meth.locks = false)
    (hpass : ∀ z ∈ c.exceptionTable.toList, covers z pc = false ∨ (z.catchType ≠ 0 ∧ ∃ nm : String, (Cond.classLink own z.catchType nm).before args s = true ∧ va_Nc E nm s)) (hcell : H[q]? = some ce) (hv : ce.vm = .none) (hcl : s.vm.findClass E = some ce.cls)
    (hx : ∀ t : State, t.heap = H → s.vm.Alike t.vm → XC E s t) (hf : ∀ z ∈ locs, free z.base) (hc : cells ≤ mc) (hs : slots ≤ ms) :
    vx_W p l e R s m args below meth c H locs cells slots (vx_MQ below Qc XC args s mc ms free) (F0 m pc ls rest) q := by
  intro T hT X
  have hpl : e.platform.magicAccessors = ({} : Platform).magicAccessors := by rw [X.admits.platform]
  obtain ⟨vm', hW', X', st⟩ := X.outThrough hlocks q (g := F0 m pc ls rest) rfl rfl rfl (cell := ce) (by rw [hT]; exact hcell) (by rw [hv]; rfl)
    (by obtain ⟨k9, h9, -⟩ := Vm.findClass_spec hcl; exact ⟨k9, h9⟩) (fun z hz => by
      rcases hpass z hz with h | ⟨hz0, nm, hl1, hn1⟩
      · exact Or.inl h
      · obtain ⟨c6, hc6, hcl6⟩ := Cond.classLink_spec hown hl1 e.platform hpl
        obtain ⟨a8, b8, h1, h2, h3⟩ := hn1
        cases Option.some.inj (h1.symm.trans hcl)
        cases Option.some.inj (h2.symm.trans hc6)
        exact Or.inr ⟨hz0, _, hcl6, h3⟩)
  obtain ⟨g₀, hfr⟩ := X'.frames_eq
  have hcell9 : ((T.setVm vm').setFrames (.throwing q :: below)).heap[q]? = some ce := by
    show T.heap[q]? = some ce
    rw [hT]; exact hcell
  have hend : Ended ((T.setVm vm').setFrames (.throwing q :: below)) below (.threw q) := State.frames_setFrames _ (State.cur_lt_of_frames hfr)
  refine ⟨(T.setVm vm').setFrames (.throwing q :: below), ?_, .threw q, X'.here.running, hend, Or.inr ⟨q, rfl, E, ce, locs, hx _ hT (X'.ends _).1.alike, hcell9, hv, hcl, (X'.ends _).1, (X'.ends _).2.mono hc hs, hf⟩⟩
  rw [X.pushThrowing_eq]
  exact st
/-- a thing of a world lies in the heap -/
theorem vx_lt {D : va_G} {cl : List vw_C} {ws : va_W} {H1 : Heap} (h : va_P D cl ws H1) {k : Nat} {q : Nat × va_E} (hk : ws[k]? = some q) : q.1 < H1.size := (h k q hk).lt
end VXS
/-! ===== END ===== -/
/-! ===== BEGIN methods with a table of their own: called by a name, returning or throwing ===== -/
section VXH
/-! vx_backW, vx_callVX, vx_callSX, vx_callVW, vx_runVW, vx_runVX, vx_runSX, vx_ofWH follow the same proofs as their sisters above (Free/Laws.lean, Shelf42/LK1.lean); vx_outP calls Shelf42/NT130.lean (outThrough). -/
section
variable {l : Launch} {R : Room} {p : Program} {e : Env} {below : List Frame} {s : State} {sargs : Array Value} {y : MethodName} {len W9 : Nat}
theorem vx_backW {ws : List Cond} {rm : Room} {Pc : Array Value → State → Prop} {Qc : Array Value → State → Outcome → State → Prop} {XC : String → State → State → Prop} {mc ms : Nat} {free : Addr → Prop} {bytes : ByteArray} {maxL : Nat} {ret : Option FieldType} {hh : List (Nat × Nat × Nat × Nat)}
    (hM : vx_Met l y ws rm Pc Qc XC mc ms free) (hblind : FrameBlind Pc) (hrc : rm.cells = mc) (hrs : rm.slots = ms)
    (hframes : rm.frames + 1 ≤ R.frames) (hlocals : W9 + (maxL + 11) + rm.locals ≤ R.locals)
    (hws : ∀ w ∈ ws, ∀ a' U, s.WarmedH U.vm → w.before a' U = true) (hcode : Cond.codeWith y bytes maxL ret hh ∈ ws) (hinit : ∀ a' U, s.WarmedH U.vm → (Cond.initialized y.cls).before a' U = true) :
    vx_Back l R p e below s sargs y len W9 (PreOf R mc ms Pc) (PostOf Qc mc ms free) (vx_Post XC mc ms free) := by
  intro m meth c A g ig mk a X hg hsize hdg hW hn hp
  have h1 : (headSpec ws rm).pre.before a A.U = true := atoms_intro fun w hw => hws w hw _ _ X.warmed
  have h2 : (Cond.codeWith y bytes maxL ret hh).before a A.U = true := hws _ hcode _ _ X.warmed
  have h3 : (Cond.initialized y.cls).before a A.U = true := hinit _ _ X.warmed
  have h4 : A.cells + (headSpec ws rm).room.cells ≤ R.cells := by rw [show (headSpec ws rm).room.cells = mc from hrc]; exact hp.1
  have h5 : A.slots + (headSpec ws rm).room.slots ≤ R.slots := by rw [show (headSpec ws rm).room.slots = ms from hrs]; exact hp.2.1
  have hPc : Pc a (A.U.calling g mk a) := hblind _ _ _ _ hp.2.2
  obtain ⟨U, Ls, c0, s0⟩ := A
  dsimp only [Pt.U, Pt.locs, Pt.cells, Pt.slots] at h1 h2 h3 h4 h5 X hn hPc ⊢
  obtain ⟨m9, methY, cY, hn9, hmY, hcY, -, hlY, -⟩ := Cond.codeWith_spec h2
  cases Option.some.inj (hn9.symm.trans hn)
  obtain ⟨kY, hkY, -⟩ := className_of_methodNamed hn
  have hinitY : kY.init = .initialized := Cond.initialized_spec (findClass_of_methodNamed hn) hkY h3
  have h : At U g.method c below := by rw [hg]; exact X.here
  have hlocals9 : W9 + (maxL + 11) + (headSpec ws rm).room.locals ≤ R.locals := hlocals
  have happ : (headSpec ws rm).appliesLoose y e.platform (U.calling g mk a) = true :=
    Spec.appliesLoose_calling (g := g) h hdg hn hkY hinitY
      (X.room_calling (g := g) (R' := (headSpec ws rm).room) hsize hmY hcY hframes (by rw [hlY]; omega) h4 h5) h1
  obtain ⟨mid, hmid⟩ := h.above
  have hfr : (U.setTop g).frames = (.java g :: mid) ++ below := by rw [State.frames_setTop' g h.top, hmid]; rfl
  obtain ⟨o, s₂, hsteps, -, hend, hq⟩ := Steps.callFree hM p X.admits X.cas X.clock (acts := []) hfr happ hPc trivial
  have hq' : vx_Q Qc XC mc ms free a (U.calling g mk a) o s₂ := hq
  rw [State.frames_setTop' g h.top] at hend
  obtain ⟨g₀, hg0⟩ := Option.isSome_iff_exists.mp h.top
  obtain ⟨r, hr⟩ := State.topJava?_eq_some.mp hg0
  have hr' : (({ U with heap := s₂.heap, slotsUsed := s₂.slotsUsed } : State).setVm s₂.vm).frames = .java g₀ :: r := hr
  rcases hq' with ⟨hqc, L, hfe, hL⟩ | ⟨q, rfl, E, ce, L, hx, hce, hcv, hcl, hW₂, hsm, hL⟩
  · obtain ⟨⟨v, rfl⟩, hW₂, e2, q2, q3, q4, q5, q6⟩ := id hfe
    have e3 : s₂ = ({ (U.calling g mk a).setFrames s₂.frames with heap := s₂.heap, slotsUsed := s₂.slotsUsed } : State).setVm s₂.vm := by
      have : s₂ = ({ s₂ with vm := (U.calling g mk a).vm } : State).setVm s₂.vm := rfl
      rw [e2] at this
      exact this
    obtain ⟨c₂, i₂, len₂, hc₂, hd₂, hf₂⟩ := hend
    have hW' : U.WarmedH s₂.vm := hW₂
    have hcc : c₂ = c := by
      have h1 : s₂.code? g.method = U.code? g.method := by
        rw [State.code?_eq, State.code?_eq, hW'.alike.method?]
      exact Option.some.inj (hc₂.symm.trans (h1.trans h.code))
    subst hcc
    have hlen : len₂ = len := by rw [hdg] at hd₂; cases hd₂; rfl
    subst hlen
    have hs₂ : s₂ = (({ U with heap := s₂.heap, slotsUsed := s₂.slotsUsed } : State).setVm s₂.vm).setTop { g with pc := g.pc + len₂, stack := v.toList ++ g.stack } := by
      refine e3.trans ?_
      rw [hf₂, State.calling_eq h.top, State.setFrames_setFrames, State.setTop_of_frames _ hr', hr]
      rfl
    have hsame : U.sameButNew ({ U with heap := s₂.heap, slotsUsed := s₂.slotsUsed } : State) L mc ms := by
      refine ⟨?_, q2, q3, q4, q5, q6⟩
      obtain ⟨t, ht, -⟩ := State.frames_cons hr
      show ({ U with heap := s₂.heap, slotsUsed := s₂.slotsUsed } : State) = { U.setFrames U.frames with heap := s₂.heap, slotsUsed := s₂.slotsUsed }
      rw [State.setFrames_self ht]
    subst hg
    refine Or.inl ⟨v, ⟨(({ U with heap := s₂.heap, slotsUsed := s₂.slotsUsed } : State).setVm s₂.vm), Ls ++ L, c0 + mc, s0 + ms⟩,
      ⟨X.admits, X.cas, X.clock, X.frames, X.room, X.hears, X.method, X.code, (X.here.setHeapUsed s₂.heap s₂.slotsUsed).setVm hW'.alike, X.tail, State.WarmedH.trans X.warmed hW', X.limits, X.bytes, X.same.trans (hsame.setVm s.vm)⟩,
      ⟨g, mk, s₂, L, rfl, rfl, hqc, rfl, hL, rfl, rfl⟩, ?_⟩
    show Steps p.tables e below _ ((({ U with heap := s₂.heap, slotsUsed := s₂.slotsUsed } : State).setVm s₂.vm).setTop { g with pc := g.pc + len₂, stack := v.toList ++ g.stack })
    rw [← hs₂]
    exact hsteps
  · obtain ⟨e2, q2, q3, q4, q5, q6⟩ := id hsm
    have e3 : s₂ = ({ (U.calling g mk a).setFrames s₂.frames with heap := s₂.heap, slotsUsed := s₂.slotsUsed } : State).setVm s₂.vm := by
      have : s₂ = ({ s₂ with vm := (U.calling g mk a).vm } : State).setVm s₂.vm := rfl
      rw [e2] at this
      exact this
    have hf₂ : s₂.frames = .throwing q :: .java g :: U.frames.tail := hend
    have hW' : U.WarmedH s₂.vm := hW₂
    have hs₂ : s₂ = ((({ U with heap := s₂.heap, slotsUsed := s₂.slotsUsed } : State).setVm s₂.vm).setTop g).pushFrame (.throwing q) := by
      refine e3.trans ?_
      rw [hf₂, State.calling_eq h.top, State.setFrames_setFrames, State.pushFrame, State.frames_setTop _ hr', State.setTop_of_frames _ hr', State.setFrames_setFrames, hr]
      rfl
    have hsame : U.sameButNew ({ U with heap := s₂.heap, slotsUsed := s₂.slotsUsed } : State) L mc ms := by
      refine ⟨?_, q2, q3, q4, q5, q6⟩
      obtain ⟨t, ht, -⟩ := State.frames_cons hr
      show ({ U with heap := s₂.heap, slotsUsed := s₂.slotsUsed } : State) = { U.setFrames U.frames with heap := s₂.heap, slotsUsed := s₂.slotsUsed }
      rw [State.setFrames_self ht]
    subst hg
    refine Or.inr ⟨q, ⟨(({ U with heap := s₂.heap, slotsUsed := s₂.slotsUsed } : State).setVm s₂.vm), Ls ++ L, c0 + mc, s0 + ms⟩,
      ⟨X.admits, X.cas, X.clock, X.frames, X.room, X.hears, X.method, X.code, (X.here.setHeapUsed s₂.heap s₂.slotsUsed).setVm hW'.alike, X.tail, State.WarmedH.trans X.warmed hW', X.limits, X.bytes, X.same.trans (hsame.setVm s.vm)⟩,
      ⟨g, mk, s₂, L, E, ce, rfl, rfl, hx, hce, hcv, hcl, rfl, hL, rfl, rfl⟩, ?_⟩
    show Steps p.tables e below _ (((({ U with heap := s₂.heap, slotsUsed := s₂.slotsUsed } : State).setVm s₂.vm).setTop g).pushFrame (.throwing q))
    rw [← hs₂]
    exact hsteps
end
variable {p : Program} {l : Launch} {e : Env} {R : Room} {s : State} {m : MethodId} {args : Array Value} {below : List Frame} {meth : Method} {c : Code} {T : State} {H : Heap} {locs : List Loc} {cells slots : Nat}
theorem vx_callVX (X : Stand p l e R s m args below meth c T locs cells slots) (hexec : p.tables.exec = Jvm.exec) {own C : String} {index : Nat} {y : MethodName} {bytes : ByteArray} {maxL : Nat} {ret : Option FieldType} {hh : List (Nat × Nat × Nat × Nat)}
    (hown : s.vm.findClass own = some m.cls) (hlink : (Cond.methodLink own index y).before args s = true) (hinst : (Cond.instanceMethod y).before args s = true) (hsel : (Cond.selects C y y).before args s = true)
    (hcode : (Cond.codeWith y bytes maxL ret hh).before args s = true) (hy : y.cls ≠ "java/lang/invoke/MethodHandle" ∧ y.cls ≠ "java/lang/invoke/VarHandle")
    {W9 : Nat} {Pre : Pt → Array Value → Prop} {Post : Pt → Array Value → Option Value → Pt → Prop} {PostX : Pt → Array Value → Addr → Pt → Prop} (hK : vx_Back l R p e below s args y 3 W9 Pre Post PostX)
    {b : Addr} {cellB : Cell} (hcell : T.heap[b]? = some cellB) (hobj : cellB.vm.isStatics = false) (hcls : s.vm.findClass C = some cellB.cls)
    {g : JFrame} (hg : g.method = m) (hsize : g.locals.size = c.maxLocals) {argsL rest : List Value} (hlen : ∀ sig, parseMethodDescriptor y.desc = some sig → argsL.length = sig.parameters.length)
    (hstack : g.stack = argsL.reverse ++ .ref b :: rest) (hW : 2 * g.monitorRoom + (rest.map fun v => v.category).sum ≤ W9) (hdg : decode c.code g.pc = .ok (.invokevirtual index, 3))
    (hpre : ∀ vm₁, s.WarmedH vm₁ → Pre ⟨T.setVm vm₁, locs, cells, slots⟩ (Value.ref b :: argsL).toArray) :
    (∃ (v : Option Value) (vm₁ : Vm) (B : Pt), s.WarmedH vm₁ ∧ Stand p l e R s m args below meth c B.U B.locs B.cells B.slots ∧ Post ⟨T.setVm vm₁, locs, cells, slots⟩ (Value.ref b :: argsL).toArray v B ∧
      ∀ target, Steps p.tables e below (B.U.setTop { g with pc := g.pc + 3, stack := v.toList ++ rest }) target → Steps p.tables e below (T.setTop g) target) ∨
    (∃ (q : Addr) (vm₁ : Vm) (B : Pt), s.WarmedH vm₁ ∧ Stand p l e R s m args below meth c B.U B.locs B.cells B.slots ∧ PostX ⟨T.setVm vm₁, locs, cells, slots⟩ (Value.ref b :: argsL).toArray q B ∧
      Steps p.tables e below (T.setTop g) ((B.U.setTop { g with stack := rest }).pushFrame (.throwing q))) := by
  obtain ⟨mk, methM, hnamed, hmethM, hstM, habM⟩ := Cond.instanceMethod_spec hinst
  obtain ⟨m8, methM', cM, hn8, hmethM', -, -, -, -, -, -, hsigM⟩ := Cond.codeWith_spec hcode
  cases Option.some.inj (hn8.symm.trans hnamed)
  cases hmethM.symm.trans hmethM'
  obtain ⟨c2, r2, m2, q1, q2, q3, q4, kP, hkP, hkPi⟩ := Cond.selects_spec hsel
  cases hcls.symm.trans q1
  cases (State.methodFound?_of_named hnamed hy).symm.trans q2
  cases hnamed.symm.trans q3
  have hselP : selectMethod e.platform s.vm cellB.cls mk = .method mk := by rw [Launch.admits_selectMethod X.admits]; exact q4
  obtain ⟨vm₁, X₁, hstep₁⟩ := X.invokevirtual hexec hown hlink hnamed hmethM hstM hkP hkPi hy (a := b) (cell := cellB) hcell
    (fun z h => by rw [h] at hobj; cases hobj) hselP hmethM habM hkP hkPi (g := g) hg (argsL := argsL) (rest := rest) (hlen _ hsigM) hstack hdg
  rcases hK m meth c ⟨T.setVm vm₁, locs, cells, slots⟩ { g with stack := rest } (.invokevirtual index) mk (Value.ref b :: argsL).toArray X₁ hg hsize hdg hW (X₁.named hnamed) (hpre vm₁ X₁.warmed) with ⟨v, B, X', hpost, hsteps⟩ | ⟨q, B, X', hpost, hsteps⟩
  · exact Or.inl ⟨v, vm₁, B, X₁.warmed, X', hpost, fun target h => hstep₁ _ fun acts => by rw [doInvoke_state]; exact hsteps.trans h⟩
  · exact Or.inr ⟨q, vm₁, B, X₁.warmed, X', hpost, hstep₁ _ fun acts => by rw [doInvoke_state]; exact hsteps⟩
theorem vx_callSX (X : Stand p l e R s m args below meth c T locs cells slots) (hexec : p.tables.exec = Jvm.exec) {own : String} {index : Nat} {y : MethodName} {bytes : ByteArray} {maxL : Nat} {ret : Option FieldType} {hh : List (Nat × Nat × Nat × Nat)}
    (hown : s.vm.findClass own = some m.cls) (hlink : (Cond.methodLink own index y).before args s = true) (hstat : (Cond.static y).before args s = true) (hinit : (Cond.initialized y.cls).before args s = true)
    (hcode : (Cond.codeWith y bytes maxL ret hh).before args s = true) (hy : y.cls ≠ "java/lang/invoke/MethodHandle" ∧ y.cls ≠ "java/lang/invoke/VarHandle")
    {W9 : Nat} {Pre : Pt → Array Value → Prop} {Post : Pt → Array Value → Option Value → Pt → Prop} {PostX : Pt → Array Value → Addr → Pt → Prop} (hK : vx_Back l R p e below s args y 3 W9 Pre Post PostX)
    {g : JFrame} (hg : g.method = m) (hsize : g.locals.size = c.maxLocals) {argsL rest : List Value} (hlen : ∀ sig, parseMethodDescriptor y.desc = some sig → argsL.length = sig.parameters.length)
    (hstack : g.stack = argsL.reverse ++ rest) (hW : 2 * g.monitorRoom + (rest.map fun v => v.category).sum ≤ W9) (hdg : decode c.code g.pc = .ok (.invokestatic index, 3))
    (hpre : ∀ vm₁, s.WarmedH vm₁ → Pre ⟨T.setVm vm₁, locs, cells, slots⟩ argsL.toArray) :
    (∃ (v : Option Value) (vm₁ : Vm) (B : Pt), s.WarmedH vm₁ ∧ Stand p l e R s m args below meth c B.U B.locs B.cells B.slots ∧ Post ⟨T.setVm vm₁, locs, cells, slots⟩ argsL.toArray v B ∧
      ∀ target, Steps p.tables e below (B.U.setTop { g with pc := g.pc + 3, stack := v.toList ++ rest }) target → Steps p.tables e below (T.setTop g) target) ∨
    (∃ (q : Addr) (vm₁ : Vm) (B : Pt), s.WarmedH vm₁ ∧ Stand p l e R s m args below meth c B.U B.locs B.cells B.slots ∧ PostX ⟨T.setVm vm₁, locs, cells, slots⟩ argsL.toArray q B ∧
      Steps p.tables e below (T.setTop g) ((B.U.setTop { g with stack := rest }).pushFrame (.throwing q))) := by
  obtain ⟨mk, methM, cM, hnamed, hmethM, -, -, -, -, -, -, hsigM⟩ := Cond.codeWith_spec hcode
  have hstatic : methM.isStatic = true := Cond.static_spec hnamed hmethM hstat
  obtain ⟨kP, hkP, -⟩ := className_of_methodNamed hnamed
  have hinitP : kP.init = .initialized := Cond.initialized_spec (findClass_of_methodNamed hnamed) hkP hinit
  obtain ⟨vm₁, X₁, hstep₁⟩ := X.invokestatic hexec hown hlink hnamed hmethM hstatic hkP hinitP hy (g := g) hg (argsL := argsL) (rest := rest) (hlen _ hsigM) hstack hdg
  rcases hK m meth c ⟨T.setVm vm₁, locs, cells, slots⟩ { g with stack := rest } (.invokestatic index) mk argsL.toArray X₁ hg hsize hdg hW (X₁.named hnamed) (hpre vm₁ X₁.warmed) with ⟨v, B, X', hpost, hsteps⟩ | ⟨q, B, X', hpost, hsteps⟩
  · exact Or.inl ⟨v, vm₁, B, X₁.warmed, X', hpost, fun target h => hstep₁ _ fun acts => by rw [doInvoke_state]; exact hsteps.trans h⟩
  · exact Or.inr ⟨q, vm₁, B, X₁.warmed, X', hpost, hstep₁ _ fun acts => by rw [doInvoke_state]; exact hsteps⟩
theorem vx_callVW (X : Stand p l e R s m args below meth c T locs cells slots) (hexec : p.tables.exec = Jvm.exec) {own C : String} {index : Nat} {y : MethodName} {bytes : ByteArray} {maxL : Nat} {ret : Option FieldType} {hh : List (Nat × Nat × Nat × Nat)}
    (hown : s.vm.findClass own = some m.cls) (hlink : (Cond.methodLink own index y).before args s = true) (hinst : (Cond.instanceMethod y).before args s = true) (hsel : (Cond.selects C y y).before args s = true)
    (hcode : (Cond.codeWith y bytes maxL ret hh).before args s = true) (hy : y.cls ≠ "java/lang/invoke/MethodHandle" ∧ y.cls ≠ "java/lang/invoke/VarHandle")
    {W9 : Nat} {Pre : Pt → Array Value → Prop} {Post : Pt → Array Value → Option Value → Pt → Prop} (hK : Back l R p e below s args y 3 W9 Pre Post)
    {b : Addr} {cellB : Cell} (hcell : T.heap[b]? = some cellB) (hobj : cellB.vm.isStatics = false) (hcls : s.vm.findClass C = some cellB.cls)
    {g : JFrame} (hg : g.method = m) (hsize : g.locals.size = c.maxLocals) {argsL rest : List Value} (hlen : ∀ sig, parseMethodDescriptor y.desc = some sig → argsL.length = sig.parameters.length)
    (hstack : g.stack = argsL.reverse ++ .ref b :: rest) (hW : 2 * g.monitorRoom + (rest.map fun v => v.category).sum ≤ W9) (hdg : decode c.code g.pc = .ok (.invokevirtual index, 3))
    (hpre : ∀ vm₁, s.WarmedH vm₁ → Pre ⟨T.setVm vm₁, locs, cells, slots⟩ (Value.ref b :: argsL).toArray) :
    ∃ (v : Option Value) (vm₁ : Vm) (B : Pt), s.WarmedH vm₁ ∧ Stand p l e R s m args below meth c B.U B.locs B.cells B.slots ∧ Post ⟨T.setVm vm₁, locs, cells, slots⟩ (Value.ref b :: argsL).toArray v B ∧
      ∀ target, Steps p.tables e below (B.U.setTop { g with pc := g.pc + 3, stack := v.toList ++ rest }) target → Steps p.tables e below (T.setTop g) target := by
  obtain ⟨mk, methM, hnamed, hmethM, hstM, habM⟩ := Cond.instanceMethod_spec hinst
  obtain ⟨m8, methM', cM, hn8, hmethM', -, -, -, -, -, -, hsigM⟩ := Cond.codeWith_spec hcode
  cases Option.some.inj (hn8.symm.trans hnamed)
  cases hmethM.symm.trans hmethM'
  obtain ⟨c2, r2, m2, q1, q2, q3, q4, kP, hkP, hkPi⟩ := Cond.selects_spec hsel
  cases hcls.symm.trans q1
  cases (State.methodFound?_of_named hnamed hy).symm.trans q2
  cases hnamed.symm.trans q3
  have hselP : selectMethod e.platform s.vm cellB.cls mk = .method mk := by rw [Launch.admits_selectMethod X.admits]; exact q4
  obtain ⟨vm₁, X₁, hstep₁⟩ := X.invokevirtual hexec hown hlink hnamed hmethM hstM hkP hkPi hy (a := b) (cell := cellB) hcell
    (fun z h => by rw [h] at hobj; cases hobj) hselP hmethM habM hkP hkPi (g := g) hg (argsL := argsL) (rest := rest) (hlen _ hsigM) hstack hdg
  obtain ⟨v, B, X', hpost, hsteps⟩ := hK m meth c ⟨T.setVm vm₁, locs, cells, slots⟩ { g with stack := rest } (.invokevirtual index) mk (Value.ref b :: argsL).toArray X₁ hg hsize hdg hW (X₁.named hnamed) (hpre vm₁ X₁.warmed)
  exact ⟨v, vm₁, B, X₁.warmed, X', hpost, fun target h => hstep₁ _ fun acts => by rw [doInvoke_state]; exact hsteps.trans h⟩
abbrev vx_CVW (R : Room) (s : State) (args : Array Value) (own C : String) (index : Nat) (y : MethodName) (bytes : ByteArray) (maxL : Nat) (ret : Option FieldType) (hh : List (Nat × Nat × Nat × Nat)) (ws : List Cond) (rm : Room) (mc ms n : Nat) : Prop :=
  (rm.cells = mc ∧ rm.slots = ms ∧ rm.frames + 1 ≤ R.frames ∧ 8 + (maxL + 11) + rm.locals ≤ R.locals ∧ (∀ w ∈ ws, ∀ (a' : Array Value) (U : State), s.WarmedH U.vm → w.before a' U = true) ∧ Cond.codeWith y bytes maxL ret hh ∈ ws) ∧
  (Cond.codeWith y bytes maxL ret hh).before args s = true ∧ (Cond.initialized y.cls).before args s = true ∧ (y.cls ≠ "java/lang/invoke/MethodHandle" ∧ y.cls ≠ "java/lang/invoke/VarHandle") ∧
  (∀ sig, parseMethodDescriptor y.desc = some sig → n = sig.parameters.length) ∧ (Cond.methodLink own index y).before args s = true ∧ (Cond.instanceMethod y).before args s = true ∧ (Cond.selects C y y).before args s = true
theorem vx_cwVW {own C : String} {index maxL mc ms : Nat} {y : MethodName} {bytes : ByteArray} {ret : Option FieldType} {hh : List (Nat × Nat × Nat × Nat)} {Ts ws ws' : List Cond} {rm : Room} (n : Nat) (ht : ∀ w ∈ Ts, w.before args s = true) (hT : GoodIn Ts (wsV own index C y ws)) (hw : ws = Cond.codeWith y bytes maxL ret hh :: ws') (hrc : rm.cells = mc) (hrs : rm.slots = ms)
    (hd : y.cls = C ∧ y.cls ≠ "java/lang/invoke/MethodHandle" ∧ y.cls ≠ "java/lang/invoke/VarHandle" ∧ (parseMethodDescriptor y.desc).map (fun d => d.parameters.length) = some n) (hR : rm.frames + 1 ≤ R.frames ∧ 8 + (maxL + 11) + rm.locals ≤ R.locals) :
    vx_CVW R s args own C index y bytes maxL ret hh ws rm mc ms n := by
  obtain ⟨hC, hd⟩ := hd
  subst hC
  have ok : ∀ w ∈ wsV own index y.cls y ws, w.before args s = true := fun w h => ht w (hT w h).1
  have hG : GoodIn Ts ws := fun w h => hT w (by unfold wsV; exact List.mem_append_right _ h)
  have hc : Cond.codeWith y bytes maxL ret hh ∈ ws := by rw [hw]; exact List.mem_cons_self
  refine ⟨⟨hrc, hrs, hR.1, hR.2, pay_in ht hG, hc⟩, ht _ (hG _ hc).1, ok _ (by simp [wsV]), ⟨hd.1, hd.2.1⟩, fun sig h => ?_, ok _ (by simp [wsV]), ok _ (by simp [wsV]), ok _ (by simp [wsV])⟩
  have h2 := hd.2.2
  rw [h] at h2
  exact (Option.some.inj h2).symm
theorem vx_runVW {y : MethodName} {bytes cc : ByteArray} {maxL nL mc ms n index : Nat} {ret : Option FieldType} {hh : List (Nat × Nat × Nat × Nat)} {ws : List Cond} {rm : Room} {Pc : Array Value → State → Prop} {Qc : Array Value → State → Outcome → State → Prop} {free : Addr → Prop} {Ts : List Cond} {own C : String} {b : Addr} {As rest : List Value} {g : JFrame}
    (S : CallFix p m c cc nL s args Ts own) (hM : Met l y ws rm Pc Qc mc ms free) (cw : vx_CVW R s args own C index y bytes maxL ret hh ws rm mc ms n) (hp : PreV s H C b Pc As)
    (hg : g.method = m) (hn : As.length = n) (hsize : g.locals.size = nL) (hstack : g.stack = As.reverse ++ .ref b :: rest) (hW : 2 * g.monitorRoom + (rest.map fun v => v.category).sum ≤ 8) (hdg : decode cc g.pc = .ok (.invokevirtual index, 3)) (hf : cells + mc ≤ R.cells ∧ slots + ms ≤ R.slots) :
    va_Run p l e R s m args below meth c H locs cells slots mc ms g rest (Qc (Value.ref b :: As).toArray) free := by
  obtain ⟨⟨hrc, hrs, hfr, hlo, hws, hcw⟩, hcode, hini, hy, hlen, hl, hin, hse⟩ := cw
  have hK : Back l R p e below s args y 3 8 (PreOf R mc ms Pc) (PostOf Qc mc ms free) := va_backW (hh := hh) (bytes := bytes) (maxL := maxL) (ret := ret) hM hp.1 hrc hrs hfr hlo hws hcw (fun a' U hW => word_at hW (Or.inl (by first | rfl | simp [Cond.onTables, Cond.keeps, Cond.steady])) hini)
  obtain ⟨hx, hb, hml, ho, -⟩ := S
  obtain ⟨-, ⟨cellB, hcB, hoB, hclB⟩, hPc⟩ := hp
  intro T hT X
  obtain ⟨v, vm₁, ⟨U', l2, c2, s2⟩, hW₁, X', ⟨g', mk, t, L, e1, e2, hq, h1, hL, h2, h3⟩, st⟩ := vx_callVW X hx (C := C) (hh := hh) (bytes := bytes) (maxL := maxL) (ret := ret) ho hl hin hse hcode hy hK (by rw [hT]; exact hcB) hoB hclB hg (hsize.trans hml.symm) (argsL := As) (rest := rest) (fun sig h => hn.trans (hlen sig h)) hstack hW (by rw [hb]; exact hdg)
    (fun vm₁ hW₁ => ⟨hf.1, hf.2, hPc (T.setVm vm₁) hT hW₁⟩)
  dsimp only [Pt.U, Pt.locs, Pt.cells, Pt.slots] at X' e1 e2 h1 h2 h3 st
  subst h1; subst h2; subst h3
  exact ⟨v, (T.setVm vm₁).calling g' mk (Value.ref b :: As).toArray, t, U', L, hT, X', hL, e1, e2, hq, st⟩
section
variable {y : MethodName} {bytes cc : ByteArray} {maxL nL mc ms n index : Nat} {ret : Option FieldType} {ws : List Cond} {rm : Room} {Pc : Array Value → State → Prop} {Qc : Array Value → State → Outcome → State → Prop} {XC : String → State → State → Prop} {free : Addr → Prop} {Ts : List Cond} {own C : String} {b : Addr} {As rest : List Value} {g : JFrame}
theorem vx_runVX {hh : List (Nat × Nat × Nat × Nat)} (S : CallFix p m c cc nL s args Ts own) (hM : vx_Met l y ws rm Pc Qc XC mc ms free) (cw : vx_CVW R s args own C index y bytes maxL ret hh ws rm mc ms n) (hp : PreV s H C b Pc As)
    (hg : g.method = m) (hn : As.length = n) (hsize : g.locals.size = nL) (hstack : g.stack = As.reverse ++ .ref b :: rest) (hW : 2 * g.monitorRoom + (rest.map fun v => v.category).sum ≤ 8) (hdg : decode cc g.pc = .ok (.invokevirtual index, 3)) (hf : cells + mc ≤ R.cells ∧ slots + ms ≤ R.slots) :
    vx_Run p l e R s m args below meth c H locs cells slots mc ms g rest (Qc (Value.ref b :: As).toArray) XC free := by
  obtain ⟨⟨hrc, hrs, hfr, hlo, hws, hcw⟩, hcode, hini, hy, hlen, hl, hin, hse⟩ := cw
  have hK : vx_Back l R p e below s args y 3 8 (PreOf R mc ms Pc) (PostOf Qc mc ms free) (vx_Post XC mc ms free) := vx_backW (hh := hh) (bytes := bytes) (maxL := maxL) (ret := ret) hM hp.1 hrc hrs hfr hlo hws hcw (fun a' U hW => word_at hW (Or.inl (by first | rfl | simp [Cond.onTables, Cond.keeps, Cond.steady])) hini)
  obtain ⟨hx, hb, hml, ho, -⟩ := S
  obtain ⟨-, ⟨cellB, hcB, hoB, hclB⟩, hPc⟩ := hp
  intro T hT X
  rcases vx_callVX X hx (C := C) (hh := hh) (bytes := bytes) (maxL := maxL) (ret := ret) ho hl hin hse hcode hy hK (by rw [hT]; exact hcB) hoB hclB hg (hsize.trans hml.symm) (argsL := As) (rest := rest) (fun sig h => hn.trans (hlen sig h)) hstack hW (by rw [hb]; exact hdg)
    (fun vm₁ hW₁ => ⟨hf.1, hf.2, hPc (T.setVm vm₁) hT hW₁⟩) with ⟨v, vm₁, ⟨U', l2, c2, s2⟩, hW₁, X', ⟨g', mk, t, L, e1, e2, hq, h1, hL, h2, h3⟩, st⟩ | ⟨q, vm₁, ⟨U', l2, c2, s2⟩, hW₁, X', ⟨g', mk, t, L, E, ce, e1, e2, hq, hce, hcv, hcl, h1, hL, h2, h3⟩, st⟩
  · dsimp only [Pt.U, Pt.locs, Pt.cells, Pt.slots] at X' e1 e2 h1 h2 h3 st
    subst h1; subst h2; subst h3
    exact Or.inl ⟨v, (T.setVm vm₁).calling g' mk (Value.ref b :: As).toArray, t, U', L, hT, X', hL, e1, e2, hq, st⟩
  · dsimp only [Pt.U, Pt.locs, Pt.cells, Pt.slots] at X' e1 e2 h1 h2 h3 st hcl
    subst h1; subst h2; subst h3
    exact Or.inr ⟨q, (T.setVm vm₁).calling g' mk (Value.ref b :: As).toArray, t, U', L, E, ce, hT, X', hL, e1, e2, hq, hce, hcv, vx_cls hW₁ hcl, st⟩
theorem vx_runSX {hh : List (Nat × Nat × Nat × Nat)} (S : CallFix p m c cc nL s args Ts own) (hM : vx_Met l y ws rm Pc Qc XC mc ms free) (cw : vx_CSW R s args own index y bytes maxL ret hh ws rm mc ms n) (hp : PreS s H Pc As)
    (hg : g.method = m) (hn : As.length = n) (hsize : g.locals.size = nL) (hstack : g.stack = As.reverse ++ rest) (hW : 2 * g.monitorRoom + (rest.map fun v => v.category).sum ≤ 8) (hdg : decode cc g.pc = .ok (.invokestatic index, 3)) (hf : cells + mc ≤ R.cells ∧ slots + ms ≤ R.slots) :
    vx_Run p l e R s m args below meth c H locs cells slots mc ms g rest (Qc As.toArray) XC free := by
  obtain ⟨⟨hrc, hrs, hfr, hlo, hws, hcw⟩, hcode, hini, hy, hlen, hl, hstt⟩ := cw
  have hK : vx_Back l R p e below s args y 3 8 (PreOf R mc ms Pc) (PostOf Qc mc ms free) (vx_Post XC mc ms free) := vx_backW (hh := hh) (bytes := bytes) (maxL := maxL) (ret := ret) hM hp.1 hrc hrs hfr hlo hws hcw (fun a' U hW => word_at hW (Or.inl (by first | rfl | simp [Cond.onTables, Cond.keeps, Cond.steady])) hini)
  obtain ⟨hx, hb, hml, ho, -⟩ := S
  intro T hT X
  rcases vx_callSX X hx (hh := hh) (bytes := bytes) (maxL := maxL) (ret := ret) ho hl hstt hini hcode hy hK hg (hsize.trans hml.symm) (argsL := As) (rest := rest) (fun sig h => hn.trans (hlen sig h)) hstack hW (by rw [hb]; exact hdg)
    (fun vm₁ hW₁ => ⟨hf.1, hf.2, hp.2 (T.setVm vm₁) hT hW₁⟩) with ⟨v, vm₁, ⟨U', l2, c2, s2⟩, hW₁, X', ⟨g', mk, t, L, e1, e2, hq, h1, hL, h2, h3⟩, st⟩ | ⟨q, vm₁, ⟨U', l2, c2, s2⟩, hW₁, X', ⟨g', mk, t, L, E, ce, e1, e2, hq, hce, hcv, hcl, h1, hL, h2, h3⟩, st⟩
  · dsimp only [Pt.U, Pt.locs, Pt.cells, Pt.slots] at X' e1 e2 h1 h2 h3 st
    subst h1; subst h2; subst h3
    exact Or.inl ⟨v, (T.setVm vm₁).calling g' mk As.toArray, t, U', L, hT, X', hL, e1, e2, hq, st⟩
  · dsimp only [Pt.U, Pt.locs, Pt.cells, Pt.slots] at X' e1 e2 h1 h2 h3 st hcl
    subst h1; subst h2; subst h3
    exact Or.inr ⟨q, (T.setVm vm₁).calling g' mk As.toArray, t, U', L, E, ce, hT, X', hL, e1, e2, hq, hce, hcv, vx_cls hW₁ hcl, st⟩
end
end VXH
theorem vx_ofWH {l : Launch} {y : MethodName} {ws ws' : List Cond} {rm : Room} {Pc : Array Value → State → Prop} {Qc : Array Value → State → Outcome → State → Prop} {XC : String → State → State → Prop} {mc ms : Nat} {free : Addr → Prop} {cc : ByteArray} {maxL : Nat} {ret : Option FieldType} {hh : List (Nat × Nat × Nat × Nat)}
    (hy : plainName y.cls = true) (hw : ws = Cond.codeWith y cc maxL ret hh :: ws')
    (body : ∀ p e s m args below meth c s₁, BodyLoose p l y (headSpec ws rm) cc maxL ret e s m args below meth c s₁ → c.maxLocals = maxL → Pc args s →
      W p l e (headSpec ws rm).room s m args below meth c s.heap [] 0 0 (vx_MQ below Qc XC args s mc ms free) (entryFrame m args maxL)) : vx_Met l y ws rm Pc Qc XC mc ms free := by
  refine MetFree.of_bodyS (code := cc) (maxLocals := maxL) (ret := ret) hy ?_ ?_
  · intro args s m h hn
    obtain ⟨m9, meth, c, hn9, h1, h2, h3, h4, -, h5, h6, -⟩ := Cond.codeWith_spec (atoms_spec (ws := ws) h _ (by rw [hw]; exact List.mem_cons_self))
    cases hn.symm.trans hn9
    exact ⟨meth, c, h1, h2, h3, h4, h5, h6⟩
  · intro p e s m args below meth c s₁ B hml hP _
    have hh0 : s₁.heap = s.heap := by rw [B.state]; rfl
    obtain ⟨t, a1, o, b1, b2, b3⟩ := body p e s m args below meth c s₁ B hml hP s₁ hh0 (Stand.of_body B)
    exact ⟨t, o, a1, b1, b2, b3⟩
/-! ===== END ===== -/
end
section
def RX0 : String := "TapeHall$Arm"
def TX0 : u_T := fun k => match k with
  | 0 => ("TapeHall$Arm", "isLeft", "Z", true)
  | 1 => ("TapeHall$Arm", "place", "I", false)
  | 2 => ("TapeHall$Arm", "gone", "I", false)
  | 3 => ("TapeHall$Arm", "tape", "I", false)
  | 4 => ("TapeHall$Arm", "reader", "I", false)
  | 5 => ("TapeHall$Arm", "takesAt", "I", false)
  | 6 => ("TapeHall$Arm", "putsAt", "I", false)
  | 7 => ("TapeHall$Arm", "isHomeward", "Z", false)
  | _ => ("TapeHall$Arm", "holds", "Z", false)
def tyX0 : Nat → FieldType := fun k => match k with
  | 0 => .boolean
  | 1 => .int
  | 2 => .int
  | 3 => .int
  | 4 => .int
  | 5 => .int
  | 6 => .int
  | 7 => .boolean
  | _ => .boolean
theorem nmX0 : ∀ a, a < 9 → ∀ b, b < 9 → a ≠ b → (TX0 a).2.1 ≠ (TX0 b).2.1 := by decide +kernel
theorem tyX0_ok : ∀ k, k < 9 → parseFieldDescriptor (TX0 k).2.2.1 = some (tyX0 k) := by decide +kernel
abbrev cX0_init : ByteArray := prog_2_method_1_code
def yX0_init : MethodName := ⟨RX0, "<init>", "(IZ)V"⟩
abbrev cX0_hasJob : ByteArray := prog_2_method_2_code
def yX0_hasJob : MethodName := ⟨RX0, "hasJob", "()Z"⟩
abbrev cX0_startJob : ByteArray := prog_2_method_3_code
def yX0_startJob : MethodName := ⟨RX0, "startJob", "(IIIIZ)V"⟩
abbrev cX0_endJob : ByteArray := prog_2_method_4_code
def yX0_endJob : MethodName := ⟨RX0, "endJob", "()V"⟩
abbrev cX0_nextStop : ByteArray := prog_2_method_5_code
def yX0_nextStop : MethodName := ⟨RX0, "nextStop", "()I"⟩
abbrev cX0_go : ByteArray := prog_2_method_6_code
def yX0_go : MethodName := ⟨RX0, "go", "(I)V"⟩
abbrev cX0_least : ByteArray := prog_2_method_7_code
def yX0_least : MethodName := ⟨RX0, "least", "()I"⟩
abbrev cX0_greatest : ByteArray := prog_2_method_8_code
def yX0_greatest : MethodName := ⟨RX0, "greatest", "()I"⟩
def RX1 : String := "TapeHall$Ask"
def TX1 : u_T := fun k => match k with
  | 0 => ("TapeHall$Ask", "kind", "I", true)
  | 1 => ("TapeHall$Ask", "tape", "I", true)
  | 2 => ("TapeHall$Ask", "a", "I", true)
  | 3 => ("TapeHall$Ask", "b", "I", true)
  | 4 => ("TapeHall$Ask", "madeAt", "I", true)
  | 5 => ("TapeHall$Ask", "from", "I", false)
  | 6 => ("TapeHall$Ask", "to", "I", false)
  | 7 => ("TapeHall$Ask", "state", "I", false)
  | 8 => ("TapeHall$Ask", "endedAt", "I", false)
  | _ => ("TapeHall$Ask", "result", "J", false)
def tyX1 : Nat → FieldType := fun k => match k with
  | 0 => .int
  | 1 => .int
  | 2 => .int
  | 3 => .int
  | 4 => .int
  | 5 => .int
  | 6 => .int
  | 7 => .int
  | 8 => .int
  | _ => .long
theorem nmX1 : ∀ a, a < 10 → ∀ b, b < 10 → a ≠ b → (TX1 a).2.1 ≠ (TX1 b).2.1 := by decide +kernel
theorem tyX1_ok : ∀ k, k < 10 → parseFieldDescriptor (TX1 k).2.2.1 = some (tyX1 k) := by decide +kernel
abbrev cX1_init : ByteArray := prog_3_method_1_code
def yX1_init : MethodName := ⟨RX1, "<init>", "(IIIII)V"⟩
abbrev cX1_reachOver : ByteArray := prog_3_method_2_code
def yX1_reachOver : MethodName := ⟨RX1, "reachOver", "(I)V"⟩
abbrev cX1_isScrub : ByteArray := prog_3_method_3_code
def yX1_isScrub : MethodName := ⟨RX1, "isScrub", "()Z"⟩
abbrev cX1_worthAtOnce : ByteArray := prog_3_method_4_code
def yX1_worthAtOnce : MethodName := ⟨RX1, "worthAtOnce", "()I"⟩
def RX2 : String := "TapeHall$Plan"
def TX2 : u_T := fun k => match k with
  | 0 => ("TapeHall$Plan", "numbers", "[I", true)
  | 1 => ("TapeHall$Plan", "from", "[I", true)
  | 2 => ("TapeHall$Plan", "to", "[I", true)
  | 3 => ("TapeHall$Plan", "costs", "[I", true)
  | 4 => ("TapeHall$Plan", "behind", "[I", true)
  | 5 => ("TapeHall$Plan", "states", "[I", true)
  | 6 => ("TapeHall$Plan", "rest", "[I", true)
  | 7 => ("TapeHall$Plan", "sequence", "[I", true)
  | 8 => ("TapeHall$Plan", "head", "I", false)
  | 9 => ("TapeHall$Plan", "size", "I", false)
  | 10 => ("TapeHall$Plan", "stateCount", "I", false)
  | 11 => ("TapeHall$Plan", "cost", "I", false)
  | 12 => ("TapeHall$Plan", "waits", "I", false)
  | _ => ("TapeHall$Plan", "leastWaits", "I", false)
def tyX2 : Nat → FieldType := fun k => match k with
  | 0 => .array .int
  | 1 => .array .int
  | 2 => .array .int
  | 3 => .array .int
  | 4 => .array .int
  | 5 => .array .int
  | 6 => .array .int
  | 7 => .array .int
  | 8 => .int
  | 9 => .int
  | 10 => .int
  | 11 => .int
  | 12 => .int
  | _ => .int
theorem nmX2 : ∀ a, a < 14 → ∀ b, b < 14 → a ≠ b → (TX2 a).2.1 ≠ (TX2 b).2.1 := by decide +kernel
theorem tyX2_ok : ∀ k, k < 14 → parseFieldDescriptor (TX2 k).2.2.1 = some (tyX2 k) := by decide +kernel
abbrev cX2_init : ByteArray := prog_4_method_1_code
def yX2_init : MethodName := ⟨RX2, "<init>", "()V"⟩
abbrev cX2_start : ByteArray := prog_4_method_2_code
def yX2_start : MethodName := ⟨RX2, "start", "(I)V"⟩
abbrev cX2_isFull : ByteArray := prog_4_method_3_code
def yX2_isFull : MethodName := ⟨RX2, "isFull", "()Z"⟩
abbrev cX2_add : ByteArray := prog_4_method_4_code
def yX2_add : MethodName := ⟨RX2, "add", "(III)V"⟩
abbrev cX2_tabulate : ByteArray := prog_4_method_5_code
def yX2_tabulate : MethodName := ⟨RX2, "tabulate", "()V"⟩
abbrev cX2_canLeave : ByteArray := prog_4_method_6_code
def yX2_canLeave : MethodName := ⟨RX2, "canLeave", "(II)Z"⟩
abbrev cX2_fillState : ByteArray := prog_4_method_7_code
def yX2_fillState : MethodName := ⟨RX2, "fillState", "(III)V"⟩
abbrev cX2_solve : ByteArray := prog_4_method_8_code
def yX2_solve : MethodName := ⟨RX2, "solve", "(Z)V"⟩
abbrev cX2_best : ByteArray := prog_4_method_9_code
def yX2_best : MethodName := ⟨RX2, "best", "(IIZ)I"⟩
abbrev cX2_choose : ByteArray := prog_4_method_10_code
def yX2_choose : MethodName := ⟨RX2, "choose", "()V"⟩
abbrev cX2_leastWaits : ByteArray := prog_4_method_11_code
def yX2_leastWaits : MethodName := ⟨RX2, "leastWaits", "()I"⟩
def RX3 : String := "TapeHall$Reader"
def TX3 : u_T := fun k => match k with
  | 0 => ("TapeHall$Reader", "slot", "I", true)
  | 1 => ("TapeHall$Reader", "work", "[I", true)
  | 2 => ("TapeHall$Reader", "state", "I", false)
  | 3 => ("TapeHall$Reader", "tape", "I", false)
  | 4 => ("TapeHall$Reader", "next", "I", false)
  | 5 => ("TapeHall$Reader", "size", "I", false)
  | 6 => ("TapeHall$Reader", "ticks", "I", false)
  | _ => ("TapeHall$Reader", "way", "I", false)
def tyX3 : Nat → FieldType := fun k => match k with
  | 0 => .int
  | 1 => .array .int
  | 2 => .int
  | 3 => .int
  | 4 => .int
  | 5 => .int
  | 6 => .int
  | _ => .int
theorem nmX3 : ∀ a, a < 8 → ∀ b, b < 8 → a ≠ b → (TX3 a).2.1 ≠ (TX3 b).2.1 := by decide +kernel
theorem tyX3_ok : ∀ k, k < 8 → parseFieldDescriptor (TX3 k).2.2.1 = some (tyX3 k) := by decide +kernel
abbrev cX3_init : ByteArray := prog_5_method_1_code
def yX3_init : MethodName := ⟨RX3, "<init>", "(I)V"⟩
abbrev cX3_workLeft : ByteArray := prog_5_method_2_code
def yX3_workLeft : MethodName := ⟨RX3, "workLeft", "()I"⟩
abbrev cX3_addWork : ByteArray := prog_5_method_3_code
def yX3_addWork : MethodName := ⟨RX3, "addWork", "(I)V"⟩
abbrev cX3_endFirst : ByteArray := prog_5_method_4_code
def yX3_endFirst : MethodName := ⟨RX3, "endFirst", "(I)V"⟩
abbrev cX3_dropWork : ByteArray := prog_5_method_5_code
def yX3_dropWork : MethodName := ⟨RX3, "dropWork", "()V"⟩
def RX4 : String := "TapeHall$Shelf"
def TX4 : u_T := fun k => match k with
  | 0 => ("TapeHall$Shelf", "sizes", "[I", true)
  | 1 => ("TapeHall$Shelf", "counts", "[I", true)
  | 2 => ("TapeHall$Shelf", "starts", "[I", true)
  | 3 => ("TapeHall$Shelf", "rest", "[J", true)
  | 4 => ("TapeHall$Shelf", "size", "I", false)
  | 5 => ("TapeHall$Shelf", "total", "I", false)
  | 6 => ("TapeHall$Shelf", "winding", "J", false)
  | _ => ("TapeHall$Shelf", "isLaid", "Z", false)
def tyX4 : Nat → FieldType := fun k => match k with
  | 0 => .array .int
  | 1 => .array .int
  | 2 => .array .int
  | 3 => .array .long
  | 4 => .int
  | 5 => .int
  | 6 => .long
  | _ => .boolean
theorem nmX4 : ∀ a, a < 8 → ∀ b, b < 8 → a ≠ b → (TX4 a).2.1 ≠ (TX4 b).2.1 := by decide +kernel
theorem tyX4_ok : ∀ k, k < 8 → parseFieldDescriptor (TX4 k).2.2.1 = some (tyX4 k) := by decide +kernel
abbrev cX4_init : ByteArray := prog_6_method_1_code
def yX4_init : MethodName := ⟨RX4, "<init>", "()V"⟩
abbrev cX4_isFull : ByteArray := prog_6_method_2_code
def yX4_isFull : MethodName := ⟨RX4, "isFull", "()Z"⟩
abbrev cX4_add : ByteArray := prog_6_method_3_code
def yX4_add : MethodName := ⟨RX4, "add", "(II)I"⟩
abbrev cX4_empty : ByteArray := prog_6_method_4_code
def yX4_empty : MethodName := ⟨RX4, "empty", "()V"⟩
abbrev cX4_lay : ByteArray := prog_6_method_5_code
def yX4_lay : MethodName := ⟨RX4, "lay", "()V"⟩
abbrev cX4_best : ByteArray := prog_6_method_6_code
def yX4_best : MethodName := ⟨RX4, "best", "(I)J"⟩
abbrev cX4_countsOf : ByteArray := prog_6_method_7_code
def yX4_countsOf : MethodName := ⟨RX4, "countsOf", "(I)I"⟩
def RX5 : String := "TapeHall$Tape"
def TX5 : u_T := fun k => match k with
  | 0 => ("TapeHall$Tape", "home", "I", true)
  | 1 => ("TapeHall$Tape", "kind", "I", true)
  | 2 => ("TapeHall$Tape", "places", "I", true)
  | 3 => ("TapeHall$Tape", "row", "[J", true)
  | 4 => ("TapeHall$Tape", "head", "I", false)
  | 5 => ("TapeHall$Tape", "where", "I", false)
  | 6 => ("TapeHall$Tape", "hasJob", "Z", false)
  | 7 => ("TapeHall$Tape", "calls", "I", false)
  | _ => ("TapeHall$Tape", "credit", "I", false)
def tyX5 : Nat → FieldType := fun k => match k with
  | 0 => .int
  | 1 => .int
  | 2 => .int
  | 3 => .array .long
  | 4 => .int
  | 5 => .int
  | 6 => .boolean
  | 7 => .int
  | _ => .int
theorem nmX5 : ∀ a, a < 9 → ∀ b, b < 9 → a ≠ b → (TX5 a).2.1 ≠ (TX5 b).2.1 := by decide +kernel
theorem tyX5_ok : ∀ k, k < 9 → parseFieldDescriptor (TX5 k).2.2.1 = some (tyX5 k) := by decide +kernel
abbrev cX5_init : ByteArray := prog_7_method_1_code
def yX5_init : MethodName := ⟨RX5, "<init>", "(III[J)V"⟩
abbrev cX5_isFree : ByteArray := prog_7_method_2_code
def yX5_isFree : MethodName := ⟨RX5, "isFree", "()Z"⟩
abbrev cX5_worth : ByteArray := prog_7_method_3_code
def yX5_worth : MethodName := ⟨RX5, "worth", "(II)I"⟩
abbrev cX5_hasNumber : ByteArray := prog_7_method_4_code
def yX5_hasNumber : MethodName := ⟨RX5, "hasNumber", "(I)Z"⟩
abbrev cX5_number : ByteArray := prog_7_method_5_code
def yX5_number : MethodName := ⟨RX5, "number", "(I)J"⟩
abbrev cX5_sum : ByteArray := prog_7_method_6_code
def yX5_sum : MethodName := ⟨RX5, "sum", "(II)J"⟩
abbrev cX5_write : ByteArray := prog_7_method_7_code
def yX5_write : MethodName := ⟨RX5, "write", "(II)V"⟩
def RX6 : String := "TapeHall"
def TX6 : u_T := fun k => match k with
  | 0 => ("TapeHall", "tapes", "[LTapeHall$Tape;", true)
  | 1 => ("TapeHall", "readers", "[LTapeHall$Reader;", true)
  | 2 => ("TapeHall", "asks", "[LTapeHall$Ask;", true)
  | 3 => ("TapeHall", "left", "LTapeHall$Arm;", true)
  | 4 => ("TapeHall", "right", "LTapeHall$Arm;", true)
  | 5 => ("TapeHall", "plan", "LTapeHall$Plan;", true)
  | 6 => ("TapeHall", "shelf", "LTapeHall$Shelf;", true)
  | 7 => ("TapeHall", "tapeCount", "I", false)
  | 8 => ("TapeHall", "readerCount", "I", false)
  | 9 => ("TapeHall", "askCount", "I", false)
  | 10 => ("TapeHall", "now", "I", false)
  | 11 => ("TapeHall", "threshold", "I", false)
  | 12 => ("TapeHall", "bound", "I", false)
  | 13 => ("TapeHall", "planned", "I", false)
  | 14 => ("TapeHall", "callsWaiting", "I", false)
  | 15 => ("TapeHall", "scrubsWaiting", "I", false)
  | 16 => ("TapeHall", "ageSum", "I", false)
  | _ => ("TapeHall", "ageMost", "I", false)
def tyX6 : Nat → FieldType := fun k => match k with
  | 0 => .array (.object "TapeHall$Tape")
  | 1 => .array (.object "TapeHall$Reader")
  | 2 => .array (.object "TapeHall$Ask")
  | 3 => .object "TapeHall$Arm"
  | 4 => .object "TapeHall$Arm"
  | 5 => .object "TapeHall$Plan"
  | 6 => .object "TapeHall$Shelf"
  | 7 => .int
  | 8 => .int
  | 9 => .int
  | 10 => .int
  | 11 => .int
  | 12 => .int
  | 13 => .int
  | 14 => .int
  | 15 => .int
  | 16 => .int
  | _ => .int
theorem nmX6 : ∀ a, a < 18 → ∀ b, b < 18 → a ≠ b → (TX6 a).2.1 ≠ (TX6 b).2.1 := by decide +kernel
theorem tyX6_ok : ∀ k, k < 18 → parseFieldDescriptor (TX6 k).2.2.1 = some (tyX6 k) := by decide +kernel
abbrev cX6_init : ByteArray := prog_1_method_1_code
def yX6_init : MethodName := ⟨RX6, "<init>", "()V"⟩
abbrev cX6_tape : ByteArray := prog_1_method_2_code
def yX6_tape : MethodName := ⟨RX6, "tape", "(III)I"⟩
abbrev cX6_reader : ByteArray := prog_1_method_3_code
def yX6_reader : MethodName := ⟨RX6, "reader", "(I)I"⟩
abbrev cX6_settings : ByteArray := prog_1_method_4_code
def yX6_settings : MethodName := ⟨RX6, "settings", "(II)Z"⟩
abbrev cX6_ask : ByteArray := prog_1_method_5_code
def yX6_ask : MethodName := ⟨RX6, "ask", "(IIII)I"⟩
abbrev cX6_tick : ByteArray := prog_1_method_6_code
def yX6_tick : MethodName := ⟨RX6, "tick", "(I)I"⟩
abbrev cX6_arm : ByteArray := prog_1_method_7_code
def yX6_arm : MethodName := ⟨RX6, "arm", "(II)I"⟩
abbrev cX6_rig : ByteArray := prog_1_method_8_code
def yX6_rig : MethodName := ⟨RX6, "rig", "(II)I"⟩
abbrev cX6_tapeOf : ByteArray := prog_1_method_9_code
def yX6_tapeOf : MethodName := ⟨RX6, "tapeOf", "(II)I"⟩
abbrev cX6_cell : ByteArray := prog_1_method_10_code
def yX6_cell : MethodName := ⟨RX6, "cell", "(II)J"⟩
abbrev cX6_askOf : ByteArray := prog_1_method_11_code
def yX6_askOf : MethodName := ⟨RX6, "askOf", "(II)J"⟩
abbrev cX6_order : ByteArray := prog_1_method_12_code
def yX6_order : MethodName := ⟨RX6, "order", "(II)I"⟩
abbrev cX6_told : ByteArray := prog_1_method_13_code
def yX6_told : MethodName := ⟨RX6, "told", "(II)I"⟩
abbrev cX6_breaks : ByteArray := prog_1_method_14_code
def yX6_breaks : MethodName := ⟨RX6, "breaks", "(I)Z"⟩
abbrev cX6_mends : ByteArray := prog_1_method_15_code
def yX6_mends : MethodName := ⟨RX6, "mends", "(I)Z"⟩
abbrev cX6_copy : ByteArray := prog_1_method_16_code
def yX6_copy : MethodName := ⟨RX6, "copy", "(IIIII)I"⟩
abbrev cX6_item : ByteArray := prog_1_method_17_code
def yX6_item : MethodName := ⟨RX6, "item", "(II)I"⟩
abbrev cX6_laid : ByteArray := prog_1_method_18_code
def yX6_laid : MethodName := ⟨RX6, "laid", "()J"⟩
abbrev cX6_begins : ByteArray := prog_1_method_19_code
def yX6_begins : MethodName := ⟨RX6, "begins", "(I)I"⟩
abbrev cX6_clear : ByteArray := prog_1_method_20_code
def yX6_clear : MethodName := ⟨RX6, "clear", "()I"⟩
abbrev cX6_count : ByteArray := prog_1_method_21_code
def yX6_count : MethodName := ⟨RX6, "count", "(I)I"⟩
abbrev cX6_within : ByteArray := prog_1_method_22_code
def yX6_within : MethodName := ⟨RX6, "within", "(II)Z"⟩
abbrev cX6_at : ByteArray := prog_1_method_23_code
def yX6_at : MethodName := ⟨RX6, "at", "([II)I"⟩
abbrev cX6_at_ : ByteArray := prog_1_method_24_code
def yX6_at_ : MethodName := ⟨RX6, "at", "([JI)J"⟩
abbrev cX6_put : ByteArray := prog_1_method_25_code
def yX6_put : MethodName := ⟨RX6, "put", "([III)V"⟩
abbrev cX6_tapeAt : ByteArray := prog_1_method_26_code
def yX6_tapeAt : MethodName := ⟨RX6, "tapeAt", "(I)LTapeHall$Tape;"⟩
abbrev cX6_readerAt : ByteArray := prog_1_method_27_code
def yX6_readerAt : MethodName := ⟨RX6, "readerAt", "(I)LTapeHall$Reader;"⟩
abbrev cX6_askAt : ByteArray := prog_1_method_28_code
def yX6_askAt : MethodName := ⟨RX6, "askAt", "(I)LTapeHall$Ask;"⟩
abbrev cX6_isHome : ByteArray := prog_1_method_29_code
def yX6_isHome : MethodName := ⟨RX6, "isHome", "(I)Z"⟩
abbrev cX6_isReaderSlot : ByteArray := prog_1_method_30_code
def yX6_isReaderSlot : MethodName := ⟨RX6, "isReaderSlot", "(I)Z"⟩
abbrev cX6_isAsk : ByteArray := prog_1_method_31_code
def yX6_isAsk : MethodName := ⟨RX6, "isAsk", "(IIII)Z"⟩
abbrev cX6_asksThatAre : ByteArray := prog_1_method_32_code
def yX6_asksThatAre : MethodName := ⟨RX6, "asksThatAre", "(I)I"⟩
abbrev cX6_waitingOf : ByteArray := prog_1_method_33_code
def yX6_waitingOf : MethodName := ⟨RX6, "waitingOf", "(I)I"⟩
abbrev cX6_changeWaiting : ByteArray := prog_1_method_34_code
def yX6_changeWaiting : MethodName := ⟨RX6, "changeWaiting", "(LTapeHall$Ask;I)V"⟩
abbrev cX6_wayTo : ByteArray := prog_1_method_35_code
def yX6_wayTo : MethodName := ⟨RX6, "wayTo", "(III)I"⟩
abbrev cX6_wayBehind : ByteArray := prog_1_method_36_code
def yX6_wayBehind : MethodName := ⟨RX6, "wayBehind", "(IIII)I"⟩
abbrev cX6_costOf : ByteArray := prog_1_method_37_code
def yX6_costOf : MethodName := ⟨RX6, "costOf", "(IIII)I"⟩
abbrev cX6_makePlan : ByteArray := prog_1_method_38_code
def yX6_makePlan : MethodName := ⟨RX6, "makePlan", "(I)Z"⟩
abbrev cX6_moveArm : ByteArray := prog_1_method_39_code
def yX6_moveArm : MethodName := ⟨RX6, "moveArm", "(LTapeHall$Arm;LTapeHall$Arm;)V"⟩
abbrev cX6_take : ByteArray := prog_1_method_40_code
def yX6_take : MethodName := ⟨RX6, "take", "(LTapeHall$Arm;LTapeHall$Tape;LTapeHall$Reader;)V"⟩
abbrev cX6_startWork : ByteArray := prog_1_method_41_code
def yX6_startWork : MethodName := ⟨RX6, "startWork", "(LTapeHall$Tape;LTapeHall$Reader;)V"⟩
abbrev cX6_workIn : ByteArray := prog_1_method_42_code
def yX6_workIn : MethodName := ⟨RX6, "workIn", "(LTapeHall$Reader;)I"⟩
abbrev cX6_endAsk : ByteArray := prog_1_method_43_code
def yX6_endAsk : MethodName := ⟨RX6, "endAsk", "(LTapeHall$Ask;LTapeHall$Tape;)V"⟩
abbrev cX6_findJob : ByteArray := prog_1_method_44_code
def yX6_findJob : MethodName := ⟨RX6, "findJob", "(LTapeHall$Arm;LTapeHall$Arm;)V"⟩
abbrev cX6_clearReader : ByteArray := prog_1_method_45_code
def yX6_clearReader : MethodName := ⟨RX6, "clearReader", "(LTapeHall$Arm;LTapeHall$Arm;)Z"⟩
abbrev cX6_bringChosen : ByteArray := prog_1_method_46_code
def yX6_bringChosen : MethodName := ⟨RX6, "bringChosen", "(LTapeHall$Arm;LTapeHall$Arm;)V"⟩
abbrev cX6_may : ByteArray := prog_1_method_47_code
def yX6_may : MethodName := ⟨RX6, "may", "(LTapeHall$Arm;LTapeHall$Arm;II)Z"⟩
abbrev cX6_firstEmpty : ByteArray := prog_1_method_48_code
def yX6_firstEmpty : MethodName := ⟨RX6, "firstEmpty", "()I"⟩
abbrev cX6_chosenFor : ByteArray := prog_1_method_49_code
def yX6_chosenFor : MethodName := ⟨RX6, "chosenFor", "(I)I"⟩
abbrev cX6_isFree : ByteArray := prog_1_method_50_code
def yX6_isFree : MethodName := ⟨RX6, "isFree", "(I)Z"⟩
abbrev cX6_overdueTape : ByteArray := prog_1_method_51_code
def yX6_overdueTape : MethodName := ⟨RX6, "overdueTape", "()I"⟩
abbrev cX6_worthiestTape : ByteArray := prog_1_method_52_code
def yX6_worthiestTape : MethodName := ⟨RX6, "worthiestTape", "(I)I"⟩
abbrev cX6_scrubTape : ByteArray := prog_1_method_53_code
def yX6_scrubTape : MethodName := ⟨RX6, "scrubTape", "()I"⟩
def RX7 : String := "TapeHallModel"
def TX7 : u_T := fun k => match k with
  | 0 => ("TapeHallModel", "thrown", "I", false)
  | 1 => ("TapeHallModel", "tapes", "I", false)
  | 2 => ("TapeHallModel", "home", "[I", true)
  | 3 => ("TapeHallModel", "kind", "[I", true)
  | 4 => ("TapeHallModel", "places", "[I", true)
  | 5 => ("TapeHallModel", "head", "[I", true)
  | 6 => ("TapeHallModel", "where", "[I", true)
  | 7 => ("TapeHallModel", "cells", "[J", true)
  | 8 => ("TapeHallModel", "asks", "I", false)
  | 9 => ("TapeHallModel", "now", "I", false)
  | 10 => ("TapeHallModel", "threshold", "I", false)
  | 11 => ("TapeHallModel", "bound", "I", false)
  | 12 => ("TapeHallModel", "askKind", "[I", true)
  | 13 => ("TapeHallModel", "askTape", "[I", true)
  | 14 => ("TapeHallModel", "askA", "[I", true)
  | 15 => ("TapeHallModel", "askB", "[I", true)
  | 16 => ("TapeHallModel", "askTick", "[I", true)
  | 17 => ("TapeHallModel", "askState", "[I", true)
  | 18 => ("TapeHallModel", "askDone", "[I", true)
  | 19 => ("TapeHallModel", "askResult", "[J", true)
  | 20 => ("TapeHallModel", "wayBehind", "I", false)
  | 21 => ("TapeHallModel", "some", "[I", true)
  | 22 => ("TapeHallModel", "someMany", "I", false)
  | 23 => ("TapeHallModel", "tried", "[I", true)
  | 24 => ("TapeHallModel", "best", "[I", true)
  | 25 => ("TapeHallModel", "bestCost", "I", false)
  | 26 => ("TapeHallModel", "readers", "I", false)
  | 27 => ("TapeHallModel", "slot", "[I", true)
  | 28 => ("TapeHallModel", "state", "[I", true)
  | 29 => ("TapeHallModel", "readerTape", "[I", true)
  | 30 => ("TapeHallModel", "work", "[I", true)
  | 31 => ("TapeHallModel", "workMany", "[I", true)
  | 32 => ("TapeHallModel", "workDone", "[I", true)
  | 33 => ("TapeHallModel", "readerWay", "[I", true)
  | 34 => ("TapeHallModel", "armPlace", "[I", true)
  | 35 => ("TapeHallModel", "armTape", "[I", true)
  | 36 => ("TapeHallModel", "armHas", "[Z", true)
  | 37 => ("TapeHallModel", "armFrom", "[I", true)
  | 38 => ("TapeHallModel", "armTo", "[I", true)
  | 39 => ("TapeHallModel", "armReader", "[I", true)
  | 40 => ("TapeHallModel", "armBrings", "[Z", true)
  | 41 => ("TapeHallModel", "gone", "I", false)
  | 42 => ("TapeHallModel", "items", "I", false)
  | 43 => ("TapeHallModel", "size", "[I", true)
  | 44 => ("TapeHallModel", "often", "[I", true)
  | 45 => ("TapeHallModel", "laidNow", "[I", true)
  | 46 => ("TapeHallModel", "laidBest", "[I", true)
  | _ => ("TapeHallModel", "leastWinding", "J", false)
def tyX7 : Nat → FieldType := fun k => match k with
  | 0 => .int
  | 1 => .int
  | 2 => .array .int
  | 3 => .array .int
  | 4 => .array .int
  | 5 => .array .int
  | 6 => .array .int
  | 7 => .array .long
  | 8 => .int
  | 9 => .int
  | 10 => .int
  | 11 => .int
  | 12 => .array .int
  | 13 => .array .int
  | 14 => .array .int
  | 15 => .array .int
  | 16 => .array .int
  | 17 => .array .int
  | 18 => .array .int
  | 19 => .array .long
  | 20 => .int
  | 21 => .array .int
  | 22 => .int
  | 23 => .array .int
  | 24 => .array .int
  | 25 => .int
  | 26 => .int
  | 27 => .array .int
  | 28 => .array .int
  | 29 => .array .int
  | 30 => .array .int
  | 31 => .array .int
  | 32 => .array .int
  | 33 => .array .int
  | 34 => .array .int
  | 35 => .array .int
  | 36 => .array .boolean
  | 37 => .array .int
  | 38 => .array .int
  | 39 => .array .int
  | 40 => .array .boolean
  | 41 => .int
  | 42 => .int
  | 43 => .array .int
  | 44 => .array .int
  | 45 => .array .int
  | 46 => .array .int
  | _ => .long
theorem nmX7 : ∀ a, a < 48 → ∀ b, b < 48 → a ≠ b → (TX7 a).2.1 ≠ (TX7 b).2.1 := by decide +kernel
theorem tyX7_ok : ∀ k, k < 48 → parseFieldDescriptor (TX7 k).2.2.1 = some (tyX7 k) := by decide +kernel
abbrev cX7_init : ByteArray := prog_9_method_1_code
def yX7_init : MethodName := ⟨RX7, "<init>", "()V"⟩
abbrev cX7_thrown : ByteArray := prog_9_method_2_code
def yX7_thrown : MethodName := ⟨RX7, "thrown", "()I"⟩
abbrev cX7_within : ByteArray := prog_9_method_3_code
def yX7_within : MethodName := ⟨RX7, "within", "(III)Z"⟩
abbrev cX7_tape : ByteArray := prog_9_method_4_code
def yX7_tape : MethodName := ⟨RX7, "tape", "(III)I"⟩
abbrev cX7_isTape : ByteArray := prog_9_method_5_code
def yX7_isTape : MethodName := ⟨RX7, "isTape", "(I)Z"⟩
abbrev cX7_cell : ByteArray := prog_9_method_6_code
def yX7_cell : MethodName := ⟨RX7, "cell", "(II)J"⟩
abbrev cX7_cut : ByteArray := prog_9_method_7_code
def yX7_cut : MethodName := ⟨RX7, "cut", "(IJ)J"⟩
abbrev cX7_settings : ByteArray := prog_9_method_8_code
def yX7_settings : MethodName := ⟨RX7, "settings", "(II)Z"⟩
abbrev cX7_ask : ByteArray := prog_9_method_9_code
def yX7_ask : MethodName := ⟨RX7, "ask", "(IIII)I"⟩
abbrev cX7_fromOf : ByteArray := prog_9_method_10_code
def yX7_fromOf : MethodName := ⟨RX7, "fromOf", "(I)I"⟩
abbrev cX7_toOf : ByteArray := prog_9_method_11_code
def yX7_toOf : MethodName := ⟨RX7, "toOf", "(I)I"⟩
abbrev cX7_costOf : ByteArray := prog_9_method_12_code
def yX7_costOf : MethodName := ⟨RX7, "costOf", "(III)I"⟩
abbrev cX7_gathers : ByteArray := prog_9_method_13_code
def yX7_gathers : MethodName := ⟨RX7, "gathers", "(I)V"⟩
abbrev cX7_tries : ByteArray := prog_9_method_14_code
def yX7_tries : MethodName := ⟨RX7, "tries", "(IIIIIIZ)V"⟩
abbrev cX7_orders : ByteArray := prog_9_method_15_code
def yX7_orders : MethodName := ⟨RX7, "orders", "(IZ)V"⟩
abbrev cX7_order : ByteArray := prog_9_method_16_code
def yX7_order : MethodName := ⟨RX7, "order", "(II)I"⟩
abbrev cX7_told : ByteArray := prog_9_method_17_code
def yX7_told : MethodName := ⟨RX7, "told", "(II)I"⟩
abbrev cX7_reader : ByteArray := prog_9_method_18_code
def yX7_reader : MethodName := ⟨RX7, "reader", "(I)I"⟩
abbrev cX7_isReader : ByteArray := prog_9_method_19_code
def yX7_isReader : MethodName := ⟨RX7, "isReader", "(I)Z"⟩
abbrev cX7_breaks : ByteArray := prog_9_method_20_code
def yX7_breaks : MethodName := ⟨RX7, "breaks", "(I)Z"⟩
abbrev cX7_mends : ByteArray := prog_9_method_21_code
def yX7_mends : MethodName := ⟨RX7, "mends", "(I)Z"⟩
abbrev cX7_begins : ByteArray := prog_9_method_22_code
def yX7_begins : MethodName := ⟨RX7, "begins", "(II)V"⟩
abbrev cX7_results : ByteArray := prog_9_method_23_code
def yX7_results : MethodName := ⟨RX7, "results", "(I)J"⟩
abbrev cX7_works : ByteArray := prog_9_method_24_code
def yX7_works : MethodName := ⟨RX7, "works", "(I)I"⟩
abbrev cX7_hasJob : ByteArray := prog_9_method_25_code
def yX7_hasJob : MethodName := ⟨RX7, "hasJob", "(I)Z"⟩
abbrev cX7_moves : ByteArray := prog_9_method_26_code
def yX7_moves : MethodName := ⟨RX7, "moves", "(I)V"⟩
abbrev cX7_may : ByteArray := prog_9_method_27_code
def yX7_may : MethodName := ⟨RX7, "may", "(III)Z"⟩
abbrev cX7_takesJob : ByteArray := prog_9_method_28_code
def yX7_takesJob : MethodName := ⟨RX7, "takesJob", "(IIIIIZ)V"⟩
abbrev cX7_asksForJob : ByteArray := prog_9_method_29_code
def yX7_asksForJob : MethodName := ⟨RX7, "asksForJob", "(I)V"⟩
abbrev cX7_isAtHome : ByteArray := prog_9_method_30_code
def yX7_isAtHome : MethodName := ⟨RX7, "isAtHome", "(I)Z"⟩
abbrev cX7_worth : ByteArray := prog_9_method_31_code
def yX7_worth : MethodName := ⟨RX7, "worth", "(II)I"⟩
abbrev cX7_chosen : ByteArray := prog_9_method_32_code
def yX7_chosen : MethodName := ⟨RX7, "chosen", "(I)I"⟩
abbrev cX7_tick : ByteArray := prog_9_method_33_code
def yX7_tick : MethodName := ⟨RX7, "tick", "(I)I"⟩
abbrev cX7_arm : ByteArray := prog_9_method_34_code
def yX7_arm : MethodName := ⟨RX7, "arm", "(II)I"⟩
abbrev cX7_rig : ByteArray := prog_9_method_35_code
def yX7_rig : MethodName := ⟨RX7, "rig", "(II)I"⟩
abbrev cX7_waiting : ByteArray := prog_9_method_36_code
def yX7_waiting : MethodName := ⟨RX7, "waiting", "(I)I"⟩
abbrev cX7_tapeOf : ByteArray := prog_9_method_37_code
def yX7_tapeOf : MethodName := ⟨RX7, "tapeOf", "(II)I"⟩
abbrev cX7_askOf : ByteArray := prog_9_method_38_code
def yX7_askOf : MethodName := ⟨RX7, "askOf", "(II)J"⟩
abbrev cX7_copy : ByteArray := prog_9_method_39_code
def yX7_copy : MethodName := ⟨RX7, "copy", "(IIIII)I"⟩
abbrev cX7_count : ByteArray := prog_9_method_40_code
def yX7_count : MethodName := ⟨RX7, "count", "(I)I"⟩
abbrev cX7_inState : ByteArray := prog_9_method_41_code
def yX7_inState : MethodName := ⟨RX7, "inState", "(I)I"⟩
abbrev cX7_ages : ByteArray := prog_9_method_42_code
def yX7_ages : MethodName := ⟨RX7, "ages", "(Z)I"⟩
abbrev cX7_item : ByteArray := prog_9_method_43_code
def yX7_item : MethodName := ⟨RX7, "item", "(II)I"⟩
abbrev cX7_lays : ByteArray := prog_9_method_44_code
def yX7_lays : MethodName := ⟨RX7, "lays", "(IIIJ)V"⟩
abbrev cX7_lays_ : ByteArray := prog_9_method_45_code
def yX7_lays_ : MethodName := ⟨RX7, "lays", "()V"⟩
abbrev cX7_laid : ByteArray := prog_9_method_46_code
def yX7_laid : MethodName := ⟨RX7, "laid", "()J"⟩
abbrev cX7_begins_ : ByteArray := prog_9_method_47_code
def yX7_begins_ : MethodName := ⟨RX7, "begins", "(I)I"⟩
abbrev cX7_clear : ByteArray := prog_9_method_48_code
def yX7_clear : MethodName := ⟨RX7, "clear", "()I"⟩
def RJx145de : String := "java/io/Serializable"
def TJx145de : u_T := fun k => match k with
  | _ => ("", "", "", false)
def tyJx145de : Nat → FieldType := fun k => match k with
  | _ => .int
theorem nmJx145de : ∀ a, a < 0 → ∀ b, b < 0 → a ≠ b → (TJx145de a).2.1 ≠ (TJx145de b).2.1 := by decide +kernel
theorem tyJx145de_ok : ∀ k, k < 0 → parseFieldDescriptor (TJx145de k).2.2.1 = some (tyJx145de k) := by decide +kernel
def RJ6 : String := "java/lang/Integer"
def TJ6 : u_T := fun k => match k with
  | _ => ("", "", "", false)
def tyJ6 : Nat → FieldType := fun k => match k with
  | _ => .int
theorem nmJ6 : ∀ a, a < 0 → ∀ b, b < 0 → a ≠ b → (TJ6 a).2.1 ≠ (TJ6 b).2.1 := by decide +kernel
theorem tyJ6_ok : ∀ k, k < 0 → parseFieldDescriptor (TJ6 k).2.2.1 = some (tyJ6 k) := by decide +kernel
abbrev cJ6_bitCount_0f7a4 : ByteArray := prog_12_method_49_code
def yJ6_bitCount_0f7a4 : MethodName := ⟨RJ6, "bitCount", "(I)I"⟩
def RJ9 : String := "java/lang/Math"
def TJ9 : u_T := fun k => match k with
  | _ => ("", "", "", false)
def tyJ9 : Nat → FieldType := fun k => match k with
  | _ => .int
theorem nmJ9 : ∀ a, a < 0 → ∀ b, b < 0 → a ≠ b → (TJ9 a).2.1 ≠ (TJ9 b).2.1 := by decide +kernel
theorem tyJ9_ok : ∀ k, k < 0 → parseFieldDescriptor (TJ9 k).2.2.1 = some (tyJ9 k) := by decide +kernel
abbrev cJ9_abs_0f7a4 : ByteArray := prog_13_method_59_code
def yJ9_abs_0f7a4 : MethodName := ⟨RJ9, "abs", "(I)I"⟩
abbrev cJ9_max_7cf53 : ByteArray := prog_13_method_65_code
def yJ9_max_7cf53 : MethodName := ⟨RJ9, "max", "(II)I"⟩
abbrev cJ9_min_7cf53 : ByteArray := prog_13_method_69_code
def yJ9_min_7cf53 : MethodName := ⟨RJ9, "min", "(II)I"⟩
abbrev cJ9_min_f86c9 : ByteArray := prog_13_method_70_code
def yJ9_min_f86c9 : MethodName := ⟨RJ9, "min", "(JJ)J"⟩
def RJ0 : String := "java/lang/String"
def TJ0 : u_T := fun k => match k with
  | _ => ("", "", "", false)
def tyJ0 : Nat → FieldType := fun k => match k with
  | _ => .int
theorem nmJ0 : ∀ a, a < 0 → ∀ b, b < 0 → a ≠ b → (TJ0 a).2.1 ≠ (TJ0 b).2.1 := by decide +kernel
theorem tyJ0_ok : ∀ k, k < 0 → parseFieldDescriptor (TJ0 k).2.2.1 = some (tyJ0 k) := by decide +kernel
def RJ10 : String := "java/lang/System"
def TJ10 : u_T := fun k => match k with
  | _ => ("", "", "", false)
def tyJ10 : Nat → FieldType := fun k => match k with
  | _ => .int
theorem nmJ10 : ∀ a, a < 0 → ∀ b, b < 0 → a ≠ b → (TJ10 a).2.1 ≠ (TJ10 b).2.1 := by decide +kernel
theorem tyJ10_ok : ∀ k, k < 0 → parseFieldDescriptor (TJ10 k).2.2.1 = some (tyJ10 k) := by decide +kernel
def RL : String := "TapeHallLaw"
abbrev cL_cell : ByteArray := method_3_code
def yL_cell : MethodName := ⟨RL, "cell", "(LTapeHall;II[J)I"⟩
abbrev cL_law : ByteArray := code
def yL_law : MethodName := ⟨RL, "law", "([I)Z"⟩
abbrev vwCl : List vw_C := [(RX0, TX0, 9), (RX1, TX1, 10), (RX2, TX2, 14), (RX3, TX3, 8), (RX4, TX4, 8), (RX5, TX5, 9), (RX6, TX6, 18), (RX7, TX7, 48)]
end
section
/-! A typed memory of my own (numbers stand for cells), and how the machine's heap holds it -/
section ZMEM
abbrev HP : Type := (Nat → Nat → Bool) × (Nat → Nat → Nat) × (Nat → Nat → Nat → Int32) × (Nat → Nat → Nat → Int64) × (Nat → Nat → Nat → Option Nat)
def mA (h : HP) (k j : Nat) : Bool := h.1 k j
def mL (h : HP) (k j : Nat) : Nat := h.2.1 k j
def mI (h : HP) (k i j : Nat) : Int32 := h.2.2.1 k i j
def mJ (h : HP) (k i j : Nat) : Int64 := h.2.2.2.1 k i j
def mP (h : HP) (k i j : Nat) : Option Nat := h.2.2.2.2 k i j
def wI (h : HP) (k i j : Nat) (x : Int32) : HP := (h.1, h.2.1, (fun a b c => if a = k ∧ b = i ∧ c = j then x else h.2.2.1 a b c), h.2.2.2.1, h.2.2.2.2)
def wJ (h : HP) (k i j : Nat) (x : Int64) : HP := (h.1, h.2.1, h.2.2.1, (fun a b c => if a = k ∧ b = i ∧ c = j then x else h.2.2.2.1 a b c), h.2.2.2.2)
def wP (h : HP) (k i j : Nat) (x : Option Nat) : HP := (h.1, h.2.1, h.2.2.1, h.2.2.2.1, (fun a b c => if a = k ∧ b = i ∧ c = j then x else h.2.2.2.2 a b c))
def wN (h : HP) (k j n : Nat) : HP := ((fun a c => if a = k ∧ c = j then true else h.1 a c), (fun a c => if a = k ∧ c = j then n else h.2.1 a c), (fun a b c => if a = k ∧ c = j then 0 else h.2.2.1 a b c), (fun a b c => if a = k ∧ c = j then 0 else h.2.2.2.1 a b c), (fun a b c => if a = k ∧ c = j then none else h.2.2.2.2 a b c))
def wR (h : HP) (k j : Nat) (f : Nat → Int64) : HP := (h.1, h.2.1, h.2.2.1, (fun a b c => if a = k ∧ c = j then f b else h.2.2.2.1 a b c), h.2.2.2.2)
theorem mA_wI (h : HP) (k i j : Nat) (x : Int32) (a c : Nat) : mA (wI h k i j x) a c = mA h a c := rfl
theorem mA_wJ (h : HP) (k i j : Nat) (x : Int64) (a c : Nat) : mA (wJ h k i j x) a c = mA h a c := rfl
theorem mA_wP (h : HP) (k i j : Nat) (x : Option Nat) (a c : Nat) : mA (wP h k i j x) a c = mA h a c := rfl
theorem mA_wR (h : HP) (k j : Nat) (f : Nat → Int64) (a c : Nat) : mA (wR h k j f) a c = mA h a c := rfl
theorem mA_wN (h : HP) (k j n : Nat) (a c : Nat) : mA (wN h k j n) a c = if a = k ∧ c = j then true else mA h a c := rfl
theorem mL_wI (h : HP) (k i j : Nat) (x : Int32) (a c : Nat) : mL (wI h k i j x) a c = mL h a c := rfl
theorem mL_wJ (h : HP) (k i j : Nat) (x : Int64) (a c : Nat) : mL (wJ h k i j x) a c = mL h a c := rfl
theorem mL_wP (h : HP) (k i j : Nat) (x : Option Nat) (a c : Nat) : mL (wP h k i j x) a c = mL h a c := rfl
theorem mL_wR (h : HP) (k j : Nat) (f : Nat → Int64) (a c : Nat) : mL (wR h k j f) a c = mL h a c := rfl
theorem mL_wN (h : HP) (k j n : Nat) (a c : Nat) : mL (wN h k j n) a c = if a = k ∧ c = j then n else mL h a c := rfl
theorem mI_wI (h : HP) (k i j : Nat) (x : Int32) (a b c : Nat) : mI (wI h k i j x) a b c = if a = k ∧ b = i ∧ c = j then x else mI h a b c := rfl
theorem mI_wJ (h : HP) (k i j : Nat) (x : Int64) (a b c : Nat) : mI (wJ h k i j x) a b c = mI h a b c := rfl
theorem mI_wP (h : HP) (k i j : Nat) (x : Option Nat) (a b c : Nat) : mI (wP h k i j x) a b c = mI h a b c := rfl
theorem mI_wR (h : HP) (k j : Nat) (f : Nat → Int64) (a b c : Nat) : mI (wR h k j f) a b c = mI h a b c := rfl
theorem mI_wN (h : HP) (k j n : Nat) (a b c : Nat) : mI (wN h k j n) a b c = if a = k ∧ c = j then 0 else mI h a b c := rfl
theorem mJ_wI (h : HP) (k i j : Nat) (x : Int32) (a b c : Nat) : mJ (wI h k i j x) a b c = mJ h a b c := rfl
theorem mJ_wJ (h : HP) (k i j : Nat) (x : Int64) (a b c : Nat) : mJ (wJ h k i j x) a b c = if a = k ∧ b = i ∧ c = j then x else mJ h a b c := rfl
theorem mJ_wP (h : HP) (k i j : Nat) (x : Option Nat) (a b c : Nat) : mJ (wP h k i j x) a b c = mJ h a b c := rfl
theorem mJ_wR (h : HP) (k j : Nat) (f : Nat → Int64) (a b c : Nat) : mJ (wR h k j f) a b c = if a = k ∧ c = j then f b else mJ h a b c := rfl
theorem mJ_wN (h : HP) (k j n : Nat) (a b c : Nat) : mJ (wN h k j n) a b c = if a = k ∧ c = j then 0 else mJ h a b c := rfl
theorem mP_wI (h : HP) (k i j : Nat) (x : Int32) (a b c : Nat) : mP (wI h k i j x) a b c = mP h a b c := rfl
theorem mP_wJ (h : HP) (k i j : Nat) (x : Int64) (a b c : Nat) : mP (wJ h k i j x) a b c = mP h a b c := rfl
theorem mP_wP (h : HP) (k i j : Nat) (x : Option Nat) (a b c : Nat) : mP (wP h k i j x) a b c = if a = k ∧ b = i ∧ c = j then x else mP h a b c := rfl
theorem mP_wR (h : HP) (k j : Nat) (f : Nat → Int64) (a b c : Nat) : mP (wR h k j f) a b c = mP h a b c := rfl
theorem mP_wN (h : HP) (k j n : Nat) (a b c : Nat) : mP (wN h k j n) a b c = if a = k ∧ c = j then none else mP h a b c := rfl
/-- a number's kind and its place among those of the kind -/
def kd (a : Nat) : Nat := a % 128
def ix (a : Nat) : Nat := a / 128
def ob (k j : Nat) : Nat := 128 * j + k
theorem kd_ob {k : Nat} (j : Nat) (h : k < 128) : kd (ob k j) = k := by unfold kd ob; omega
theorem ix_ob {k : Nat} (j : Nat) (h : k < 128) : ix (ob k j) = j := by unfold ix ob; omega
theorem ob_kd (a : Nat) : ob (kd a) (ix a) = a := by unfold kd ix ob; omega
theorem kd_lt (a : Nat) : kd a < 128 := by unfold kd; omega
theorem kx_ne {a b : Nat} (h : a ≠ b) : ¬ (kd a = kd b ∧ ix a = ix b) := fun q => h (by rw [← ob_kd a, ← ob_kd b, q.1, q.2])
/-- types of fields (kinds below 8) and of elements (kinds from 8 on) -/
def tyK (k i : Nat) : FieldType := match k with
  | 0 => tyX0 i
  | 1 => tyX1 i
  | 2 => tyX2 i
  | 3 => tyX3 i
  | 4 => tyX4 i
  | 5 => tyX5 i
  | 6 => tyX6 i
  | 7 => tyX7 i
  | k => if k < 80 then .int else if k < 88 then .boolean else if k < 96 then .long else if k = 96 then .object RX5 else if k = 97 then .object RX3 else if k = 98 then .object RX1 else .int
def nf (k : Nat) : Nat := match k with
  | 0 => 9
  | 1 => 10
  | 2 => 14
  | 3 => 8
  | 4 => 8
  | 5 => 9
  | 6 => 18
  | 7 => 48
  | _ => 0
theorem tyK_i {k : Nat} (i : Nat) (h : 8 ≤ k ∧ k < 80 ∨ k = 127) : tyK k i = .int := by
  unfold tyK
  split <;> first | omega | skip
  rcases h with h | rfl
  · rw [if_pos h.2]
  · rfl
theorem tyK_z {k : Nat} (i : Nat) (h : 80 ≤ k ∧ k < 88) : tyK k i = .boolean := by
  unfold tyK
  split <;> first | omega | skip
  rw [if_neg (by omega), if_pos h.2]
theorem tyK_l {k : Nat} (i : Nat) (h : 88 ≤ k ∧ k < 96) : tyK k i = .long := by
  unfold tyK
  split <;> first | omega | skip
  rw [if_neg (by omega), if_neg (by omega), if_pos h.2]
theorem tyK_j {k : Nat} (i j : Nat) (h : 8 ≤ k) : tyK k i = tyK k j := by
  unfold tyK
  split <;> first | omega | rfl
/-- what a field or an element holds -/
def mV (h : HP) (k i j : Nat) : Value := match tyK k i with
  | .long => .long (mJ h k i j)
  | .object _ => va_rf (mP h k i j)
  | .array _ => va_rf (mP h k i j)
  | _ => .int (mI h k i j)
theorem mV_i (h : HP) {k : Nat} (i j : Nat) (hk : 8 ≤ k ∧ k < 80 ∨ k = 127) : mV h k i j = .int (mI h k i j) := by unfold mV; rw [tyK_i i hk]
theorem mV_z (h : HP) {k : Nat} (i j : Nat) (hk : 80 ≤ k ∧ k < 88) : mV h k i j = .int (mI h k i j) := by unfold mV; rw [tyK_z i hk]
theorem mV_l (h : HP) {k : Nat} (i j : Nat) (hk : 88 ≤ k ∧ k < 96) : mV h k i j = .long (mJ h k i j) := by unfold mV; rw [tyK_l i hk]
theorem mV_p (h : HP) {k : Nat} (i j : Nat) (hk : k = 96 ∨ k = 97 ∨ k = 98) : mV h k i j = va_rf (mP h k i j) := by rcases hk with rfl | rfl | rfl <;> rfl
theorem mV_eq {h h' : HP} {k i j : Nat} (e1 : mI h' k i j = mI h k i j) (e2 : mJ h' k i j = mJ h k i j) (e3 : mP h' k i j = mP h k i j) : mV h' k i j = mV h k i j := by unfold mV; rw [e1, e2, e3]
/-- values of mine beside the machine's -/
def VR (Rl : Nat → Nat → Prop) (u v : Value) : Prop := match u with
  | .ref i => ∃ a, v = .ref a ∧ Rl i a
  | u => v = u
def VL (Rl : Nat → Nat → Prop) : List Value → List Value → Prop
  | [], [] => True
  | u :: us, v :: vs => VR Rl u v ∧ VL Rl us vs
  | _, _ => False
theorem VR.mono {Rl Rl' : Nat → Nat → Prop} (hm : ∀ i a, Rl i a → Rl' i a) {u v : Value} (h : VR Rl u v) : VR Rl' u v := by
  cases u with
  | ref i =>
    obtain ⟨a, h1, h2⟩ := h
    exact ⟨a, h1, hm _ _ h2⟩
  | _ => exact h
theorem VL.mono {Rl Rl' : Nat → Nat → Prop} (hm : ∀ i a, Rl i a → Rl' i a) : ∀ {us vs : List Value}, VL Rl us vs → VL Rl' us vs
  | [], [], _ => trivial
  | _ :: _, _ :: _, h => ⟨h.1.mono hm, VL.mono hm h.2⟩
theorem VL.app {Rl : Nat → Nat → Prop} : ∀ {us vs us' vs' : List Value}, VL Rl us vs → VL Rl us' vs' → VL Rl (us ++ us') (vs ++ vs')
  | [], [], _, _, _, h => h
  | _ :: _, _ :: _, _, _, h, h' => ⟨h.1, VL.app h.2 h'⟩
theorem VL.len {Rl : Nat → Nat → Prop} : ∀ {us vs : List Value}, VL Rl us vs → vs.length = us.length
  | [], [], _ => rfl
  | _ :: _, _ :: _, h => by simp only [List.length_cons]; rw [VL.len h.2]
theorem VL.rev {Rl : Nat → Nat → Prop} : ∀ {us vs : List Value}, VL Rl us vs → VL Rl us.reverse vs.reverse
  | [], [], _ => trivial
  | u :: us, v :: vs, h => by
    rw [List.reverse_cons, List.reverse_cons]
    exact (VL.rev h.2).app ⟨h.1, trivial⟩
theorem VL.take {Rl : Nat → Nat → Prop} : ∀ (n : Nat) {us vs : List Value}, VL Rl us vs → VL Rl (us.take n) (vs.take n)
  | 0, _, _, _ => by simp only [List.take_zero]; exact trivial
  | _ + 1, [], [], _ => trivial
  | n + 1, _ :: _, _ :: _, h => ⟨h.1, VL.take n h.2⟩
theorem VL.drop {Rl : Nat → Nat → Prop} : ∀ (n : Nat) {us vs : List Value}, VL Rl us vs → VL Rl (us.drop n) (vs.drop n)
  | 0, _, _, h => by simp only [List.drop_zero]; exact h
  | _ + 1, [], [], _ => trivial
  | n + 1, _ :: _, _ :: _, h => VL.drop n h.2
theorem VR.cat {Rl : Nat → Nat → Prop} {u v : Value} (h : VR Rl u v) : v.category = u.category := by
  cases u with
  | ref i =>
    obtain ⟨a, h1, h2⟩ := h
    rw [h1]
    rfl
  | _ => rw [show v = _ from h]
theorem VL.nil' {Rl : Nat → Nat → Prop} {vs : List Value} (h : VL Rl [] vs) : vs = [] := by
  cases vs with
  | nil => rfl
  | cons _ _ => exact h.elim
theorem VL.cons' {Rl : Nat → Nat → Prop} {u : Value} {us vs : List Value} (h : VL Rl (u :: us) vs) : ∃ v vs', vs = v :: vs' ∧ VR Rl u v ∧ VL Rl us vs' := by
  cases vs with
  | nil => exact h.elim
  | cons v vs' => exact ⟨v, vs', rfl, h.1, h.2⟩
theorem VL.int' {Rl : Nat → Nat → Prop} {x : Int32} {us vs : List Value} (h : VL Rl (.int x :: us) vs) : ∃ vs', vs = .int x :: vs' ∧ VL Rl us vs' := by
  obtain ⟨v, vs', rfl, h1, h2⟩ := h.cons'
  exact ⟨vs', by rw [show v = _ from h1], h2⟩
theorem VL.long' {Rl : Nat → Nat → Prop} {x : Int64} {us vs : List Value} (h : VL Rl (.long x :: us) vs) : ∃ vs', vs = .long x :: vs' ∧ VL Rl us vs' := by
  obtain ⟨v, vs', rfl, h1, h2⟩ := h.cons'
  exact ⟨vs', by rw [show v = _ from h1], h2⟩
theorem VL.null' {Rl : Nat → Nat → Prop} {us vs : List Value} (h : VL Rl (.null :: us) vs) : ∃ vs', vs = .null :: vs' ∧ VL Rl us vs' := by
  obtain ⟨v, vs', rfl, h1, h2⟩ := h.cons'
  exact ⟨vs', by rw [show v = _ from h1], h2⟩
theorem VL.ref' {Rl : Nat → Nat → Prop} {i : Nat} {us vs : List Value} (h : VL Rl (.ref i :: us) vs) : ∃ a vs', vs = .ref a :: vs' ∧ Rl i a ∧ VL Rl us vs' := by
  obtain ⟨v, vs', rfl, ⟨a, h1, h3⟩, h2⟩ := h.cons'
  exact ⟨a, vs', by rw [h1], h3, h2⟩
def isR (v : Value) : Prop := match v with
  | .ref _ => True
  | .null => True
  | _ => False
theorem isR_rf (o : Option Nat) : isR (va_rf o) = True := by cases o <;> rfl
theorem VR.rf {Rl : Nat → Nat → Prop} {o : Option Nat} {v : Value} (h : VR Rl (va_rf o) v) : (o = none ∧ v = .null) ∨ ∃ i a, o = some i ∧ v = .ref a ∧ Rl i a := by
  cases o with
  | none => exact Or.inl ⟨rfl, h⟩
  | some i =>
    obtain ⟨a, h1, h2⟩ := h
    exact Or.inr ⟨i, a, rfl, h1, h2⟩
theorem VR.isR {Rl : Nat → Nat → Prop} {u v : Value} (h : VR Rl u v) (hu : isR u) : (u = .null ∧ v = .null) ∨ ∃ i a, u = .ref i ∧ v = .ref a ∧ Rl i a := by
  cases u with
  | null => exact Or.inl ⟨rfl, h⟩
  | ref i =>
    obtain ⟨a, h1, h2⟩ := h
    exact Or.inr ⟨i, a, rfl, h1, h2⟩
  | _ => exact hu.elim
/-- locals: by their places; jk stands where nothing is said -/
def jk : Value := .float 0
def isJ (v : Value) : Bool := match v with
  | .float _ => true
  | _ => false
def nth : List Value → Nat → Value
  | [], _ => jk
  | a :: _, 0 => a
  | _ :: l, n + 1 => nth l n
theorem nth_get : ∀ {l : List Value} {n : Nat}, isJ (nth l n) = false → l[n]? = some (nth l n)
  | [], _, h => by cases h
  | _ :: _, 0, _ => rfl
  | _ :: l, n + 1, h => by
    rw [List.getElem?_cons_succ]
    exact nth_get (l := l) h
def unl (v : Value) : Value := match v with
  | .long _ => jk
  | .double _ => jk
  | v => v
theorem unl_i (x : Int32) : unl (.int x) = .int x := rfl
theorem unl_l (x : Int64) : unl (.long x) = jk := rfl
theorem unl_r (x : Nat) : unl (.ref x) = .ref x := rfl
theorem unl_n : unl .null = .null := rfl
theorem unl_j : unl jk = jk := rfl
theorem unl_rf (o : Option Nat) : unl (va_rf o) = va_rf o := by cases o <;> rfl
theorem unl_c {v : Value} (h : isJ (unl v) = false) : unl v = v ∧ v.category = 1 := by
  cases v <;> first | exact ⟨rfl, rfl⟩ | cases h
def lset : List Value → Nat → Value → List Value
  | [], _, _ => []
  | _ :: l, 0, v => v :: l
  | a :: l, 1, v => unl a :: lset l 0 v
  | a :: l, i + 2, v => a :: lset l (i + 1) v
theorem lset_get : ∀ {l : List Value} {i k : Nat} {v w : Value}, (lset l i v)[k]? = some w → isJ w = false → (k = i ∧ w = v) ∨ (k ≠ i ∧ l[k]? = some w ∧ (k + 1 = i → w.category = 1))
  | [], _, _, _, _, h, _ => by simp [lset] at h
  | a :: l, 0, k, v, w, h, _ => by
    cases k with
    | zero =>
      simp only [lset, List.getElem?_cons_zero, Option.some.injEq] at h
      exact Or.inl ⟨rfl, h.symm⟩
    | succ k =>
      simp only [lset, List.getElem?_cons_succ] at h
      exact Or.inr ⟨by omega, by rw [List.getElem?_cons_succ]; exact h, fun q => by omega⟩
  | a :: l, 1, k, v, w, h, hj => by
    cases k with
    | zero =>
      simp only [lset, List.getElem?_cons_zero, Option.some.injEq] at h
      subst h
      obtain ⟨h1, h2⟩ := unl_c hj
      exact Or.inr ⟨by omega, by rw [List.getElem?_cons_zero, h1], fun _ => by rw [h1]; exact h2⟩
    | succ k =>
      simp only [lset, List.getElem?_cons_succ] at h
      rcases lset_get h hj with ⟨h1, h2⟩ | ⟨h1, h2, h3⟩
      · exact Or.inl ⟨by omega, h2⟩
      · exact Or.inr ⟨by omega, by rw [List.getElem?_cons_succ]; exact h2, fun q => by omega⟩
  | a :: l, i + 2, k, v, w, h, hj => by
    cases k with
    | zero =>
      simp only [lset, List.getElem?_cons_zero, Option.some.injEq] at h
      exact Or.inr ⟨by omega, by rw [List.getElem?_cons_zero, h], fun q => by omega⟩
    | succ k =>
      simp only [lset, List.getElem?_cons_succ] at h
      rcases lset_get h hj with ⟨h1, h2⟩ | ⟨h1, h2, h3⟩
      · exact Or.inl ⟨by omega, h2⟩
      · exact Or.inr ⟨by omega, by rw [List.getElem?_cons_succ]; exact h2, fun q => h3 (by omega)⟩
def lset2 (l : List Value) (i : Nat) (v : Value) : List Value := (lset l i v).set (i + 1) jk
theorem lset2_get {l : List Value} {i k : Nat} {v w : Value} (h : (lset2 l i v)[k]? = some w) (hj : isJ w = false) : (k = i ∧ w = v) ∨ (k ≠ i ∧ k ≠ i + 1 ∧ l[k]? = some w ∧ (k + 1 = i → w.category = 1)) := by
  unfold lset2 at h
  by_cases hk : k = i + 1
  · subst hk
    rw [List.getElem?_set] at h
    simp only [if_true] at h
    split at h
    · cases h; cases hj
    · cases h
  · rw [List.getElem?_set_ne (fun q => hk q.symm)] at h
    rcases lset_get h hj with h1 | ⟨h1, h2, h3⟩
    · exact Or.inl h1
    · exact Or.inr ⟨h1, hk, h2, h3⟩
def LL (Rl : Nat → Nat → Prop) (ls : List Value) (lsC : Array Slot) (nL : Nat) : Prop := lsC.size = nL ∧ lv_wf lsC ∧ ∀ (i : Nat) (v : Value), ls[i]? = some v → isJ v = false → ∃ v', lsC[i]? = some (.val v') ∧ VR Rl v v'
theorem LL.mono {Rl Rl' : Nat → Nat → Prop} (hm : ∀ i a, Rl i a → Rl' i a) {ls : List Value} {lsC : Array Slot} {nL : Nat} (h : LL Rl ls lsC nL) : LL Rl' ls lsC nL :=
  ⟨h.1, h.2.1, fun i v h1 h2 => by obtain ⟨v', h3, h4⟩ := h.2.2 i v h1 h2; exact ⟨v', h3, h4.mono hm⟩⟩
/-- all that the machine's locals hold -/
def allL (lsC : Array Slot) (nL : Nat) : List (Nat × Value) := (List.range nL).filterMap fun i => match lsC[i]? with
  | some (Slot.val v) => some (i, v)
  | _ => none
theorem allL_mem {lsC : Array Slot} {nL i : Nat} {v : Value} : (i, v) ∈ allL lsC nL ↔ i < nL ∧ lsC[i]? = some (.val v) := by
  unfold allL
  rw [List.mem_filterMap]
  constructor
  · rintro ⟨k, hk, h⟩
    rw [List.mem_range] at hk
    split at h
    · rename_i w hw
      cases h
      exact ⟨hk, hw⟩
    · cases h
  · rintro ⟨h1, h2⟩
    exact ⟨i, List.mem_range.mpr h1, by rw [h2]⟩
theorem LL.all {Rl : Nat → Nat → Prop} {ls : List Value} {lsC : Array Slot} {nL : Nat} (h : LL Rl ls lsC nL) : lv_has lsC nL (allL lsC nL) :=
  ⟨h.1, h.2.1, fun q hq => (allL_mem.mp hq).2⟩
theorem LL.lt {Rl : Nat → Nat → Prop} {ls : List Value} {lsC : Array Slot} {nL i : Nat} {z : Slot} (h : LL Rl ls lsC nL) (hz : lsC[i]? = some z) : i < nL := by
  rw [← h.1]
  exact (Array.getElem?_eq_some_iff.mp hz).1
theorem LL.st1 {Rl : Nat → Nat → Prop} {ls : List Value} {lsC ls' : Array Slot} {nL i : Nat} {v v' : Value} (h : LL Rl ls lsC nL) (hv : VR Rl v v')
    (h' : lv_has ls' nL ((i, v') :: (allL lsC nL).filter (fun q => !(q.1 == i) && !(q.1 + 1 == i && q.2.category == 2)))) : LL Rl (lset ls i v) ls' nL := by
  refine ⟨h'.1, h'.2.1, fun k w hk hj => ?_⟩
  rcases lset_get hk hj with ⟨rfl, rfl⟩ | ⟨h1, h2, h3⟩
  · exact ⟨v', h'.2.2 (k, v') List.mem_cons_self, hv⟩
  · obtain ⟨w', h4, h5⟩ := h.2.2 k w h2 hj
    refine ⟨w', h'.2.2 (k, w') (List.mem_cons_of_mem _ (List.mem_filter.mpr ⟨allL_mem.mpr ⟨h.lt h4, h4⟩, ?_⟩)), h5⟩
    have h6 := h5.cat
    by_cases hki : k + 1 = i
    · have := h3 hki
      rw [this] at h6
      simp [h1, h6]
    · simp [h1, hki]
theorem LL.st2 {Rl : Nat → Nat → Prop} {ls : List Value} {lsC ls' : Array Slot} {nL i : Nat} {v v' : Value} (h : LL Rl ls lsC nL) (hv : VR Rl v v')
    (h' : lv_has ls' nL ((i, v') :: (allL lsC nL).filter (fun q => !(q.1 == i) && (!(q.1 == i + 1) && !(q.1 + 1 == i && q.2.category == 2))))) : LL Rl (lset2 ls i v) ls' nL := by
  refine ⟨h'.1, h'.2.1, fun k w hk hj => ?_⟩
  rcases lset2_get hk hj with ⟨rfl, rfl⟩ | ⟨h1, h2, h2', h3⟩
  · exact ⟨v', h'.2.2 (k, v') List.mem_cons_self, hv⟩
  · obtain ⟨w', h4, h5⟩ := h.2.2 k w h2' hj
    refine ⟨w', h'.2.2 (k, w') (List.mem_cons_of_mem _ (List.mem_filter.mpr ⟨allL_mem.mpr ⟨h.lt h4, h4⟩, ?_⟩)), h5⟩
    have h6 := h5.cat
    by_cases hki : k + 1 = i
    · have := h3 hki
      rw [this] at h6
      simp [h1, h2, h6]
    · simp [h1, h2, hki]
/-- classes: by kinds; array classes: by kinds -/
abbrev DD : Type := (Nat → ClassId) × (Nat → Nat → Nat) × (Nat → ClassId)
def CRel (D : DD) (Rl : Nat → Nat → Prop) (s : State) (h : HP) (k j a : Nat) (H : Heap) : Prop :=
  if k < 8 then ∃ V : Nat → Value, t_OB a (D.1 k) (nf k) (D.2.1 k) H V ∧ ∀ i, i < nf k → VR Rl (mV h k i j) (V i)
  else if k = 127 then va_X a (mL h k j) (fun i => mI h k i j) s H
  else ∃ V : Nat → Value, H[a]? = some (arrV (D.2.2 k) (mL h k j) V) ∧ ∀ i, i < mL h k j → VR Rl (mV h k i j) (V i)
theorem CRel.lt {D : DD} {Rl : Nat → Nat → Prop} {s : State} {h : HP} {k j a : Nat} {H : Heap} (hc : CRel D Rl s h k j a H) : a < H.size := by
  unfold CRel at hc
  split at hc
  · obtain ⟨V, ⟨cell, h1, -⟩, -⟩ := hc
    exact (Array.getElem?_eq_some_iff.mp h1).1
  · split at hc
    · obtain ⟨scr, h1, -⟩ := hc
      exact (Array.getElem?_eq_some_iff.mp h1).1
    · obtain ⟨V, h1, -⟩ := hc
      exact (Array.getElem?_eq_some_iff.mp h1).1
theorem CRel.kept {D : DD} {Rl Rl' : Nat → Nat → Prop} {s s' : State} {h h' : HP} {k j a : Nat} {H H1 : Heap} (hc : CRel D Rl s h k j a H) (hvm : s.vm.Alike s'.vm) (hm : ∀ i a, Rl i a → Rl' i a) (hq : H1[a]? = H[a]?)
    (e0 : mL h' k j = mL h k j) (e1 : ∀ i, mI h' k i j = mI h k i j) (e2 : ∀ i, mJ h' k i j = mJ h k i j) (e3 : ∀ i, mP h' k i j = mP h k i j) : CRel D Rl' s' h' k j a H1 := by
  unfold CRel at hc ⊢
  split at hc
  · rename_i hk
    rw [if_pos hk]
    obtain ⟨V, h1, h2⟩ := hc
    exact ⟨V, h1.kept hq, fun i hi => by rw [mV_eq (e1 i) (e2 i) (e3 i)]; exact (h2 i hi).mono hm⟩
  · rename_i hk
    rw [if_neg hk]
    split at hc
    · rename_i hk2
      rw [if_pos hk2, e0, show (fun i => mI h' k i j) = (fun i => mI h k i j) from funext e1]
      exact (hc.kept hq).moved hvm
    · rename_i hk2
      rw [if_neg hk2, e0]
      obtain ⟨V, h1, h2⟩ := hc
      exact ⟨V, hq.trans h1, fun i hi => by rw [mV_eq (e1 i) (e2 i) (e3 i)]; exact (h2 i hi).mono hm⟩
def HR (D : DD) (Rl : Nat → Nat → Prop) (base : Nat) (s : State) (h : HP) (H : Heap) : Prop :=
  (∀ i a a', Rl i a → Rl i a' → a = a') ∧ (∀ i i' a, Rl i a → Rl i' a → i = i') ∧ ∀ i a, Rl i a → mA h (kd i) (ix i) = true ∧ (kd i ≠ 127 → base ≤ a) ∧ CRel D Rl s h (kd i) (ix i) a H
theorem HR.moved {D : DD} {Rl : Nat → Nat → Prop} {base : Nat} {s s' : State} {h : HP} {H : Heap} (hvm : s.vm.Alike s'.vm) (hr : HR D Rl base s h H) : HR D Rl base s' h H :=
  ⟨hr.1, hr.2.1, fun i a q => ⟨(hr.2.2 i a q).1, (hr.2.2 i a q).2.1, (hr.2.2 i a q).2.2.kept hvm (fun _ _ z => z) rfl rfl (fun _ => rfl) (fun _ => rfl) (fun _ => rfl)⟩⟩
/-- a cell is written -/
theorem HR.wr {D : DD} {Rl : Nat → Nat → Prop} {base : Nat} {s : State} {h h' : HP} {H H1 : Heap} (hr : HR D Rl base s h H) {id a : Nat} (hid : Rl id a) (oq : ∀ q, q ≠ a → H1[q]? = H[q]?)
    (hA : ∀ k j, mA h' k j = mA h k j) (hs : ∀ k j, ¬ (k = kd id ∧ j = ix id) → mL h' k j = mL h k j ∧ ∀ i, mI h' k i j = mI h k i j ∧ mJ h' k i j = mJ h k i j ∧ mP h' k i j = mP h k i j)
    (hc : CRel D Rl s h' (kd id) (ix id) a H1) : HR D Rl base s h' H1 := by
  refine ⟨hr.1, hr.2.1, fun i b hb => ?_⟩
  obtain ⟨h1, h2, h3⟩ := hr.2.2 i b hb
  refine ⟨by rw [hA]; exact h1, h2, ?_⟩
  by_cases hi : i = id
  · subst hi
    rw [hr.1 i b a hb hid]
    exact hc
  · have hba : b ≠ a := fun q => hi (hr.2.1 i id a (q ▸ hb) hid)
    obtain ⟨g0, g1⟩ := hs (kd i) (ix i) (kx_ne hi)
    exact h3.kept (Vm.Alike.refl _) (fun _ _ z => z) (oq b hba) g0 (fun x => (g1 x).1) (fun x => (g1 x).2.1) (fun x => (g1 x).2.2)
/-- a cell is made -/
theorem HR.al {D : DD} {Rl : Nat → Nat → Prop} {base : Nat} {s : State} {h h' : HP} {H H1 : Heap} (hr : HR D Rl base s h H) {k j : Nat} (hk : k < 128) (hk2 : k ≠ 127) (hf : mA h k j = false) (hb : base ≤ H.size) (oq : ∀ q, q < H.size → H1[q]? = H[q]?)
    (hA : ∀ a c, mA h' a c = if a = k ∧ c = j then true else mA h a c) (hs : ∀ a c, ¬ (a = k ∧ c = j) → mL h' a c = mL h a c ∧ ∀ i, mI h' a i c = mI h a i c ∧ mJ h' a i c = mJ h a i c ∧ mP h' a i c = mP h a i c)
    (hc : CRel D (fun i a => Rl i a ∨ (i = ob k j ∧ a = H.size)) s h' k j H.size H1) : HR D (fun i a => Rl i a ∨ (i = ob k j ∧ a = H.size)) base s h' H1 := by
  have key : ∀ a, ¬ Rl (ob k j) a := fun a q => by
    have h1 := (hr.2.2 _ a q).1
    rw [kd_ob j hk, ix_ob j hk, hf] at h1
    cases h1
  have lt : ∀ i a, Rl i a → a < H.size := fun i a q => (hr.2.2 i a q).2.2.lt
  refine ⟨fun i a a' p q => ?_, fun i i' a p q => ?_, fun i a p => ?_⟩
  · rcases p with p | ⟨rfl, rfl⟩ <;> rcases q with q | ⟨q1, rfl⟩
    · exact hr.1 i a a' p q
    · rw [q1] at p; exact (key _ p).elim
    · exact (key _ q).elim
    · rfl
  · rcases p with p | ⟨rfl, rfl⟩ <;> rcases q with q | ⟨rfl, q2⟩
    · exact hr.2.1 i i' a p q
    · have := lt _ _ p; omega
    · have := lt _ _ q; omega
    · rfl
  · rcases p with p | ⟨rfl, rfl⟩
    · obtain ⟨h1, h2, h3⟩ := hr.2.2 i a p
      have hne : ¬ (kd i = k ∧ ix i = j) := fun q => by
        rw [q.1, q.2, hf] at h1
        cases h1
      obtain ⟨g0, g1⟩ := hs (kd i) (ix i) hne
      exact ⟨by rw [hA, if_neg hne]; exact h1, h2, h3.kept (Vm.Alike.refl _) (fun _ _ z => Or.inl z) (oq a (lt _ _ p)) g0 (fun x => (g1 x).1) (fun x => (g1 x).2.1) (fun x => (g1 x).2.2)⟩
    · rw [kd_ob j hk, ix_ob j hk]
      exact ⟨by rw [hA, if_pos ⟨rfl, rfl⟩], fun _ => hb, hc⟩
end ZMEM
end
section
/-! Instructions as steps of a calculation over the typed memory, and that the machine goes along -/
def TB : List Cond := lw_tbl.filter goodWord
def TN : List (String × Nat × MethodName) := [(RX6, 41, yX2_init), (RX6, 48, yX4_init), (RX2, 49, yX6_put), (RX2, 61, yX6_at), (RX2, 65, yX6_wayBehind), (RX2, 69, yX6_costOf), (RX3, 31, yX6_put), (RX4, 33, yX6_put), (RX4, 56, yX6_at_), (RX4, 60, yX6_at), (RX5, 44, yX6_at_)]
theorem TB_mem {w : Cond} (i : Nat) (h : lw_tbl[i]? = some w) (hg : goodWord w = true) : w ∈ TB := List.mem_filter.mpr ⟨List.mem_of_getElem? h, hg⟩
theorem TB_good {ws : List Cond} (h : ∀ w ∈ ws, w ∈ TB) : GoodIn TB ws := fun w hw => ⟨h w hw, good_of_word (List.mem_filter.mp (h w hw)).2⟩
def KK (D : DD) (U : State) : Prop := va_K (D.1, D.2.1) vwCl [] U ∧ (∀ k, 8 ≤ k → ArrOfT U (D.2.2 k) (tyK k 0) ∧ va_RA U (D.2.2 k) (tyK k 0)) ∧ (∀ q ∈ TN, va_Nw (.methodLinkNest q.1 q.2.1 q.2.2 "TapeHall") U) ∧ ∀ C ∈ [RX5, RX3, RX1], va_AO C U
theorem KK.moved {D : DD} {s U : State} (hW : s.WarmedH U.vm) (h : KK D s) : KK D U :=
  ⟨va_K.moved hW.alike h.1, fun k hk => ⟨arrOfT_moved hW.alike (h.2.1 k hk).1, (h.2.1 k hk).2.moved hW.alike⟩, fun q hq => va_Nw.warmM hW (h.2.2.1 q hq), fun C hC => (h.2.2.2 C hC).moved hW.alike⟩
theorem KK.same {D : DD} {u U : State} (hv : u.vm = U.vm) (h : KK D u) : KK D U :=
  ⟨va_K.moved (by rw [hv]; exact Vm.Alike.refl _) h.1, fun k hk => ⟨arrOfT_moved (by rw [hv]; exact Vm.Alike.refl _) (h.2.1 k hk).1, (h.2.1 k hk).2.moved (by rw [hv]; exact Vm.Alike.refl _)⟩, fun q hq => va_Nw.same rfl hv (h.2.2.1 q hq), fun C hC => (h.2.2.2 C hC).moved (by rw [hv]; exact Vm.Alike.refl _)⟩
abbrev KT : Type := List Value → List Value → HP → Nat → Nat → Prop
def AL (h : HP) (k a : Nat) : Prop := kd a = k ∧ mA h k (ix a) = true
def isAI (k : Nat) : Prop := 8 ≤ k ∧ k < 80
def orf (v : Value) : Option Nat := match v with
  | .ref b => some b
  | _ => none
theorem orf_r (b : Nat) : orf (.ref b) = some b := rfl
theorem orf_n : orf .null = none := rfl
theorem orf_rf (o : Option Nat) : orf (va_rf o) = o := by cases o <;> rfl
def rmk (d mc ms : Nat) : Room := { frames := d, cells := mc, slots := ms, locals := 40 * d }
abbrev wsm (y : MethodName) (cb : ByteArray) (mx : Nat) (ret : Option FieldType) : List Cond := .code y cb mx ret :: TB
def PcR (D : DD) (base : Nat) (Rl : Nat → Nat → Prop) (asC : List Value) (h : HP) : Array Value → State → Prop := fun v U => v = asC.toArray ∧ base ≤ U.heap.size ∧ KK D U ∧ HR D Rl base U h U.heap
def QcR (D : DD) (base : Nat) (Rl : Nat → Nat → Prop) (Qp : List Value → HP → Prop) : Array Value → State → Outcome → State → Prop := fun _ st o t =>
  (∃ (Rl' : Nat → Nat → Prop) (r : List Value) (rC : Option Value) (h' : HP), (∀ i a, Rl i a → Rl' i a) ∧ o = .returned rC ∧ VL Rl' r rC.toList ∧ HR D Rl' base t h' t.heap ∧ Qp r h') ∧ va_F (fun q => base ≤ q) st t
/-- a method called with these values of mine in this memory comes to an end with Qp -/
def Cn (l : Launch) (D : DD) (d : Nat) (y : MethodName) (cb : ByteArray) (mx : Nat) (ret : Option FieldType) (mc ms : Nat) (as : List Value) (h : HP) (Qp : List Value → HP → Prop) : Prop :=
  ∀ (base : Nat) (Rl : Nat → Nat → Prop) (asC : List Value), VL Rl as asC → Met l y (wsm y cb mx ret) (rmk d mc ms) (PcR D base Rl asC h) (QcR D base Rl Qp) mc ms (fun q => base ≤ q)
theorem PcR.blind {D : DD} {base : Nat} {Rl : Nat → Nat → Prop} {asC : List Value} {h : HP} : FrameBlind (PcR D base Rl asC h) := by
  rintro a U g mk ⟨h1, h2, h3, h4⟩
  exact ⟨h1, h2, h3.same (u := U) (U := U.calling g mk a) rfl, h4.moved (s := U) (s' := U.calling g mk a) (Vm.Alike.refl U.vm)⟩
def Wm (p : Program) (l : Launch) (e : Env) (R : Room) (s : State) (m : MethodId) (args : Array Value) (below : List Frame) (meth : Method) (c : Code) (Q : State → Prop) (D : DD) (base nL : Nat) (Rl0 : Nat → Nat → Prop) (pc : Nat) : KT := fun ls st h n1 n2 =>
  n1 ≤ R.cells → n2 ≤ R.slots → ∀ (Rl : Nat → Nat → Prop) (H : Heap) (locs : List Loc) (lsC : Array Slot) (stC : List Value), (∀ i a, Rl0 i a → Rl i a) → HR D Rl base s h H → VL Rl st stC → LL Rl ls lsC nL → va_S (fun q => base ≤ q) s.heap H locs →
    W p l e R s m args below meth c H locs n1 n2 Q (F0 m pc lsC stC)
def Sd (p : Program) (l : Launch) (e : Env) (R : Room) (s : State) (m : MethodId) (args : Array Value) (below : List Frame) (meth : Method) (c : Code) (Q : State → Prop) (D : DD) (base nL : Nat) (Rl0 : Nat → Nat → Prop) (pc : Nat) (K : KT) : Prop :=
  ∀ ls st h n1 n2, K ls st h n1 n2 → Wm p l e R s m args below meth c Q D base nL Rl0 pc ls st h n1 n2
def CX (p : Program) (R : Room) (s : State) (m : MethodId) (args : Array Value) (c : Code) (D : DD) (base nL : Nat) (cc : ByteArray) (own : String) (d : Nat) : Prop :=
  p.tables.exec = Jvm.exec ∧ c.code = cc ∧ c.maxLocals = nL ∧ s.vm.findClass own = some m.cls ∧ (∀ w ∈ TB, w.before args s = true) ∧ KK D s ∧ base ≤ s.heap.size ∧ d + 1 ≤ R.frames ∧ 40 * d + 40 ≤ R.locals
section ZOPS
variable {p : Program} {l : Launch} {e : Env} {R : Room} {s : State} {m : MethodId} {args : Array Value} {below : List Frame} {meth : Method} {c : Code} {Q : State → Prop} {D : DD} {base nL : Nat} {Rl0 : Nat → Nat → Prop} {cc : ByteArray} {own : String} {d pc : Nat} {K : KT}
theorem s_J (X : Nat → KT) (hX : ∀ pc ls st h n1 n2, X pc ls st h n1 n2 → Wm p l e R s m args below meth c Q D base nL Rl0 pc ls st h n1 n2) (pc : Nat) : Sd p l e R s m args below meth c Q D base nL Rl0 pc (X pc) := hX pc
/-! constants -/
def o_ic (v : Int32) (K : KT) : KT := fun ls st h n1 n2 => K ls (.int v :: st) h n1 n2
def o_lc (v : Int64) (K : KT) : KT := fun ls st h n1 n2 => K ls (.long v :: st) h n1 n2
def o_null (K : KT) : KT := fun ls st h n1 n2 => K ls (.null :: st) h n1 n2
theorem s_iconst (C : CX p R s m args c D base nL cc own d) {n : Int} {v : Int32} (hd : decode cc pc = .ok (.iconst n, 1)) (hv : Int32.ofInt n = v) (hk : Sd p l e R s m args below meth c Q D base nL Rl0 (pc + 1) K) : Sd p l e R s m args below meth c Q D base nL Rl0 pc (o_ic v K) :=
  fun ls st h n1 n2 ho z1 z2 Rl H locs lsC stC hm hr hv' hl hS => lv_iconst C.1 C.2.1 hd hv (hk _ _ _ _ _ ho z1 z2 Rl H locs lsC _ hm hr ⟨rfl, hv'⟩ hl hS)
theorem s_bipush (C : CX p R s m args c D base nL cc own d) {n : Int} {v : Int32} (hd : decode cc pc = .ok (.bipush n, 2)) (hv : (Int8.ofInt n).toInt32 = v) (hk : Sd p l e R s m args below meth c Q D base nL Rl0 (pc + 2) K) : Sd p l e R s m args below meth c Q D base nL Rl0 pc (o_ic v K) :=
  fun ls st h n1 n2 ho z1 z2 Rl H locs lsC stC hm hr hv' hl hS => lv_bipush C.1 C.2.1 hd hv (hk _ _ _ _ _ ho z1 z2 Rl H locs lsC _ hm hr ⟨rfl, hv'⟩ hl hS)
theorem s_sipush (C : CX p R s m args c D base nL cc own d) {n : Int} {v : Int32} (hd : decode cc pc = .ok (.sipush n, 3)) (hv : (Int16.ofInt n).toInt32 = v) (hk : Sd p l e R s m args below meth c Q D base nL Rl0 (pc + 3) K) : Sd p l e R s m args below meth c Q D base nL Rl0 pc (o_ic v K) :=
  fun ls st h n1 n2 ho z1 z2 Rl H locs lsC stC hm hr hv' hl hS => lv_sipush C.1 C.2.1 hd hv (hk _ _ _ _ _ ho z1 z2 Rl H locs lsC _ hm hr ⟨rfl, hv'⟩ hl hS)
theorem s_ldc (C : CX p R s m args c D base nL cc own d) {ci : Nat} {v : Int32} (hw : Cond.constant own ci v ∈ TB) (hd : decode cc pc = .ok (.ldc ci, 2)) (hk : Sd p l e R s m args below meth c Q D base nL Rl0 (pc + 2) K) : Sd p l e R s m args below meth c Q D base nL Rl0 pc (o_ic v K) :=
  fun ls st h n1 n2 ho z1 z2 Rl H locs lsC stC hm hr hv' hl hS => lv_ldc C.1 C.2.1 C.2.2.2.1 (C.2.2.2.2.1 _ hw) hd (hk _ _ _ _ _ ho z1 z2 Rl H locs lsC _ hm hr ⟨rfl, hv'⟩ hl hS)
theorem s_ldcw (C : CX p R s m args c D base nL cc own d) {ci : Nat} {v : Int32} (hw : Cond.constant own ci v ∈ TB) (hd : decode cc pc = .ok (.ldc_w ci, 3)) (hk : Sd p l e R s m args below meth c Q D base nL Rl0 (pc + 3) K) : Sd p l e R s m args below meth c Q D base nL Rl0 pc (o_ic v K) :=
  fun ls st h n1 n2 ho z1 z2 Rl H locs lsC stC hm hr hv' hl hS => lv_ldcw C.1 C.2.1 C.2.2.2.1 (C.2.2.2.2.1 _ hw) hd (hk _ _ _ _ _ ho z1 z2 Rl H locs lsC _ hm hr ⟨rfl, hv'⟩ hl hS)
theorem s_ldc2 (C : CX p R s m args c D base nL cc own d) {ci : Nat} {v : Int64} (hw : Cond.constantLong own ci v ∈ TB) (hd : decode cc pc = .ok (.ldc2_w ci, 3)) (hk : Sd p l e R s m args below meth c Q D base nL Rl0 (pc + 3) K) : Sd p l e R s m args below meth c Q D base nL Rl0 pc (o_lc v K) :=
  fun ls st h n1 n2 ho z1 z2 Rl H locs lsC stC hm hr hv' hl hS => lv_ldc2 C.1 C.2.1 C.2.2.2.1 (C.2.2.2.2.1 _ hw) hd (hk _ _ _ _ _ ho z1 z2 Rl H locs lsC _ hm hr ⟨rfl, hv'⟩ hl hS)
theorem s_lconst (C : CX p R s m args c D base nL cc own d) {n : Fin 2} {v : Int64} (hd : decode cc pc = .ok (.lconst n, 1)) (hv : Int64.ofNat (n : Nat) = v) (hk : Sd p l e R s m args below meth c Q D base nL Rl0 (pc + 1) K) : Sd p l e R s m args below meth c Q D base nL Rl0 pc (o_lc v K) :=
  fun ls st h n1 n2 ho z1 z2 Rl H locs lsC stC hm hr hv' hl hS => lv_lconst C.1 C.2.1 hd hv (hk _ _ _ _ _ ho z1 z2 Rl H locs lsC _ hm hr ⟨rfl, hv'⟩ hl hS)
theorem s_null (C : CX p R s m args c D base nL cc own d) (hd : decode cc pc = .ok (.aconst_null, 1)) (hk : Sd p l e R s m args below meth c Q D base nL Rl0 (pc + 1) K) : Sd p l e R s m args below meth c Q D base nL Rl0 pc (o_null K) :=
  fun ls st h n1 n2 ho z1 z2 Rl H locs lsC stC hm hr hv' hl hS => lv_null C.1 C.2.1 hd (hk _ _ _ _ _ ho z1 z2 Rl H locs lsC _ hm hr ⟨rfl, hv'⟩ hl hS)
/-! locals -/
def o_il (i : Nat) (K : KT) : KT := fun ls st h n1 n2 => match nth ls i with
  | .int x => K ls (.int x :: st) h n1 n2
  | _ => False
def o_ll (i : Nat) (K : KT) : KT := fun ls st h n1 n2 => match nth ls i with
  | .long x => K ls (.long x :: st) h n1 n2
  | _ => False
def o_al (i : Nat) (K : KT) : KT := fun ls st h n1 n2 => isR (nth ls i) ∧ K ls (nth ls i :: st) h n1 n2
theorem LL.at {Rl : Nat → Nat → Prop} {ls : List Value} {lsC : Array Slot} {i : Nat} {v : Value} (h : LL Rl ls lsC nL) (hn : nth ls i = v) (hj : isJ v = false) : ∃ v', lsC[i]? = some (.val v') ∧ VR Rl v v' :=
  h.2.2 i v (by rw [← hn]; exact nth_get (by rw [hn]; exact hj)) hj
theorem s_iload (C : CX p R s m args c D base nL cc own d) {i : Nat} (hd : decode cc pc = .ok (.iload i, 2)) (hk : Sd p l e R s m args below meth c Q D base nL Rl0 (pc + 2) K) : Sd p l e R s m args below meth c Q D base nL Rl0 pc (o_il i K) := by
  intro ls st h n1 n2 ho z1 z2 Rl H locs lsC stC hm hr hv hl hS
  unfold o_il at ho
  split at ho
  · rename_i x hx
    obtain ⟨v', h1, rfl⟩ := hl.at hx rfl
    exact lv_iload C.1 C.2.1 hd h1 (hk _ _ _ _ _ ho z1 z2 Rl H locs lsC _ hm hr ⟨rfl, hv⟩ hl hS)
  · exact ho.elim
theorem s_iload_n (C : CX p R s m args c D base nL cc own d) {k : Fin 4} {i : Nat} (hd : decode cc pc = .ok (.iload_n k, 1)) (hi : (k : Nat) = i) (hk : Sd p l e R s m args below meth c Q D base nL Rl0 (pc + 1) K) : Sd p l e R s m args below meth c Q D base nL Rl0 pc (o_il i K) := by
  intro ls st h n1 n2 ho z1 z2 Rl H locs lsC stC hm hr hv hl hS
  unfold o_il at ho
  split at ho
  · rename_i x hx
    obtain ⟨v', h1, rfl⟩ := hl.at hx rfl
    exact lv_iload_n C.1 C.2.1 hd hi h1 (hk _ _ _ _ _ ho z1 z2 Rl H locs lsC _ hm hr ⟨rfl, hv⟩ hl hS)
  · exact ho.elim
theorem s_lload (C : CX p R s m args c D base nL cc own d) {i : Nat} (hd : decode cc pc = .ok (.lload i, 2)) (hk : Sd p l e R s m args below meth c Q D base nL Rl0 (pc + 2) K) : Sd p l e R s m args below meth c Q D base nL Rl0 pc (o_ll i K) := by
  intro ls st h n1 n2 ho z1 z2 Rl H locs lsC stC hm hr hv hl hS
  unfold o_ll at ho
  split at ho
  · rename_i x hx
    obtain ⟨v', h1, rfl⟩ := hl.at hx rfl
    exact lv_lload C.1 C.2.1 hd h1 (hk _ _ _ _ _ ho z1 z2 Rl H locs lsC _ hm hr ⟨rfl, hv⟩ hl hS)
  · exact ho.elim
theorem s_lload_n (C : CX p R s m args c D base nL cc own d) {k : Fin 4} {i : Nat} (hd : decode cc pc = .ok (.lload_n k, 1)) (hi : (k : Nat) = i) (hk : Sd p l e R s m args below meth c Q D base nL Rl0 (pc + 1) K) : Sd p l e R s m args below meth c Q D base nL Rl0 pc (o_ll i K) := by
  intro ls st h n1 n2 ho z1 z2 Rl H locs lsC stC hm hr hv hl hS
  unfold o_ll at ho
  split at ho
  · rename_i x hx
    obtain ⟨v', h1, rfl⟩ := hl.at hx rfl
    exact lv_lload_n C.1 C.2.1 hd hi h1 (hk _ _ _ _ _ ho z1 z2 Rl H locs lsC _ hm hr ⟨rfl, hv⟩ hl hS)
  · exact ho.elim
theorem s_aload (C : CX p R s m args c D base nL cc own d) {i : Nat} (hd : decode cc pc = .ok (.aload i, 2)) (hk : Sd p l e R s m args below meth c Q D base nL Rl0 (pc + 2) K) : Sd p l e R s m args below meth c Q D base nL Rl0 pc (o_al i K) := by
  intro ls st h n1 n2 ⟨hR, ho⟩ z1 z2 Rl H locs lsC stC hm hr hv hl hS
  obtain ⟨v', h1, h2⟩ := hl.at rfl (by cases hq : nth ls i <;> rw [hq] at hR <;> first | rfl | exact hR.elim)
  rcases h2.isR hR with ⟨e1, rfl⟩ | ⟨j, a, e1, rfl, h3⟩
  · exact lv_aloadN C.1 C.2.1 hd h1 (hk _ _ _ _ _ ho z1 z2 Rl H locs lsC _ hm hr ⟨h2, hv⟩ hl hS)
  · exact lv_aload C.1 C.2.1 hd h1 (hk _ _ _ _ _ ho z1 z2 Rl H locs lsC _ hm hr ⟨h2, hv⟩ hl hS)
theorem s_aload_n (C : CX p R s m args c D base nL cc own d) {k : Fin 4} {i : Nat} (hd : decode cc pc = .ok (.aload_n k, 1)) (hi : (k : Nat) = i) (hk : Sd p l e R s m args below meth c Q D base nL Rl0 (pc + 1) K) : Sd p l e R s m args below meth c Q D base nL Rl0 pc (o_al i K) := by
  intro ls st h n1 n2 ⟨hR, ho⟩ z1 z2 Rl H locs lsC stC hm hr hv hl hS
  obtain ⟨v', h1, h2⟩ := hl.at rfl (by cases hq : nth ls i <;> rw [hq] at hR <;> first | rfl | exact hR.elim)
  rcases h2.isR hR with ⟨e1, rfl⟩ | ⟨j, a, e1, rfl, h3⟩
  · exact lv_aload_nN C.1 C.2.1 hd hi h1 (hk _ _ _ _ _ ho z1 z2 Rl H locs lsC _ hm hr ⟨h2, hv⟩ hl hS)
  · exact lv_aload_n C.1 C.2.1 hd hi h1 (hk _ _ _ _ _ ho z1 z2 Rl H locs lsC _ hm hr ⟨h2, hv⟩ hl hS)
def o_is (i : Nat) (K : KT) : KT := fun ls st h n1 n2 => match st with
  | .int x :: st' => K (lset ls i (.int x)) st' h n1 n2
  | _ => False
def o_ls (i : Nat) (K : KT) : KT := fun ls st h n1 n2 => match st with
  | .long x :: st' => K (lset2 ls i (.long x)) st' h n1 n2
  | _ => False
def o_as (i : Nat) (K : KT) : KT := fun ls st h n1 n2 => match st with
  | v :: st' => isR v ∧ K (lset ls i v) st' h n1 n2
  | _ => False
def o_inc (i : Nat) (k : Int32) (K : KT) : KT := fun ls st h n1 n2 => match nth ls i with
  | .int x => K (lset ls i (.int (x + k))) st h n1 n2
  | _ => False
theorem s_istore (C : CX p R s m args c D base nL cc own d) {i : Nat} (hd : decode cc pc = .ok (.istore i, 2)) (hi : i < nL) (hk : Sd p l e R s m args below meth c Q D base nL Rl0 (pc + 2) K) : Sd p l e R s m args below meth c Q D base nL Rl0 pc (o_is i K) := by
  intro ls st h n1 n2 ho z1 z2 Rl H locs lsC stC hm hr hv hl hS
  unfold o_is at ho
  split at ho
  · obtain ⟨vs, rfl, hv1⟩ := hv.int'
    exact lv_istore C.1 C.2.1 hd hl.all hi rfl (fun ls' h' => hk _ _ _ _ _ ho z1 z2 Rl H locs ls' _ hm hr hv1 (hl.st1 (v := .int _) rfl h') hS)
  · exact ho.elim
theorem s_istore_n (C : CX p R s m args c D base nL cc own d) {k : Fin 4} {i : Nat} (hd : decode cc pc = .ok (.istore_n k, 1)) (hik : (k : Nat) = i) (hi : i < nL) (hk : Sd p l e R s m args below meth c Q D base nL Rl0 (pc + 1) K) : Sd p l e R s m args below meth c Q D base nL Rl0 pc (o_is i K) := by
  intro ls st h n1 n2 ho z1 z2 Rl H locs lsC stC hm hr hv hl hS
  unfold o_is at ho
  split at ho
  · obtain ⟨vs, rfl, hv1⟩ := hv.int'
    exact lv_istore_n C.1 C.2.1 hd hik hl.all hi rfl (fun ls' h' => hk _ _ _ _ _ ho z1 z2 Rl H locs ls' _ hm hr hv1 (hl.st1 (v := .int _) rfl h') hS)
  · exact ho.elim
theorem s_lstore (C : CX p R s m args c D base nL cc own d) {i : Nat} (hd : decode cc pc = .ok (.lstore i, 2)) (hi : i + 1 < nL) (hk : Sd p l e R s m args below meth c Q D base nL Rl0 (pc + 2) K) : Sd p l e R s m args below meth c Q D base nL Rl0 pc (o_ls i K) := by
  intro ls st h n1 n2 ho z1 z2 Rl H locs lsC stC hm hr hv hl hS
  unfold o_ls at ho
  split at ho
  · obtain ⟨vs, rfl, hv1⟩ := hv.long'
    exact lv_lstore C.1 C.2.1 hd hl.all hi rfl (fun ls' h' => hk _ _ _ _ _ ho z1 z2 Rl H locs ls' _ hm hr hv1 (hl.st2 (v := .long _) rfl h') hS)
  · exact ho.elim
theorem s_lstore_n (C : CX p R s m args c D base nL cc own d) {k : Fin 4} {i : Nat} (hd : decode cc pc = .ok (.lstore_n k, 1)) (hik : (k : Nat) = i) (hi : i + 1 < nL) (hk : Sd p l e R s m args below meth c Q D base nL Rl0 (pc + 1) K) : Sd p l e R s m args below meth c Q D base nL Rl0 pc (o_ls i K) := by
  intro ls st h n1 n2 ho z1 z2 Rl H locs lsC stC hm hr hv hl hS
  unfold o_ls at ho
  split at ho
  · obtain ⟨vs, rfl, hv1⟩ := hv.long'
    exact lv_lstore_n C.1 C.2.1 hd hik hl.all hi rfl (fun ls' h' => hk _ _ _ _ _ ho z1 z2 Rl H locs ls' _ hm hr hv1 (hl.st2 (v := .long _) rfl h') hS)
  · exact ho.elim
theorem s_astore (C : CX p R s m args c D base nL cc own d) {i : Nat} (hd : decode cc pc = .ok (.astore i, 2)) (hi : i < nL) (hk : Sd p l e R s m args below meth c Q D base nL Rl0 (pc + 2) K) : Sd p l e R s m args below meth c Q D base nL Rl0 pc (o_as i K) := by
  intro ls st h n1 n2 ho z1 z2 Rl H locs lsC stC hm hr hv hl hS
  unfold o_as at ho
  split at ho
  · obtain ⟨hR, ho⟩ := ho
    obtain ⟨v', vs, rfl, h2, hv1⟩ := hv.cons'
    rcases h2.isR hR with ⟨e1, rfl⟩ | ⟨j, a, e1, rfl, h3⟩
    · exact lv_astoreN C.1 C.2.1 hd hl.all hi rfl (fun ls' h' => hk _ _ _ _ _ ho z1 z2 Rl H locs ls' _ hm hr hv1 (hl.st1 h2 h') hS)
    · exact lv_astore C.1 C.2.1 hd hl.all hi rfl (fun ls' h' => hk _ _ _ _ _ ho z1 z2 Rl H locs ls' _ hm hr hv1 (hl.st1 h2 h') hS)
  · exact ho.elim
theorem s_astore_n (C : CX p R s m args c D base nL cc own d) {k : Fin 4} {i : Nat} (hd : decode cc pc = .ok (.astore_n k, 1)) (hik : (k : Nat) = i) (hi : i < nL) (hk : Sd p l e R s m args below meth c Q D base nL Rl0 (pc + 1) K) : Sd p l e R s m args below meth c Q D base nL Rl0 pc (o_as i K) := by
  intro ls st h n1 n2 ho z1 z2 Rl H locs lsC stC hm hr hv hl hS
  unfold o_as at ho
  split at ho
  · obtain ⟨hR, ho⟩ := ho
    obtain ⟨v', vs, rfl, h2, hv1⟩ := hv.cons'
    rcases h2.isR hR with ⟨e1, rfl⟩ | ⟨j, a, e1, rfl, h3⟩
    · exact lv_astore_nN C.1 C.2.1 hd hik hl.all hi rfl (fun ls' h' => hk _ _ _ _ _ ho z1 z2 Rl H locs ls' _ hm hr hv1 (hl.st1 h2 h') hS)
    · exact lv_astore_n C.1 C.2.1 hd hik hl.all hi rfl (fun ls' h' => hk _ _ _ _ _ ho z1 z2 Rl H locs ls' _ hm hr hv1 (hl.st1 h2 h') hS)
  · exact ho.elim
theorem s_iinc (C : CX p R s m args c D base nL cc own d) {i : Nat} {n : Int} {k : Int32} (hd : decode cc pc = .ok (.iinc i n, 3)) (hn : Int32.ofInt n = k) (hi : i < nL) (hk : Sd p l e R s m args below meth c Q D base nL Rl0 (pc + 3) K) : Sd p l e R s m args below meth c Q D base nL Rl0 pc (o_inc i k K) := by
  intro ls st h n1 n2 ho z1 z2 Rl H locs lsC stC hm hr hv hl hS
  unfold o_inc at ho
  split at ho
  · rename_i x hx
    obtain ⟨v', h1, rfl⟩ := hl.at hx rfl
    subst hn
    obtain ⟨k', hk'⟩ := List.getElem?_of_mem (allL_mem.mpr ⟨hi, h1⟩)
    exact lv_iinc C.1 C.2.1 hd hl.all hk' rfl hi rfl (fun ls' h' => hk _ _ _ _ _ ho z1 z2 Rl H locs ls' _ hm hr hv (hl.st1 (v := .int _) rfl h') hS)
  · exact ho.elim
/-! arithmetic -/
def o_ii (f : Int32 → Int32 → Int32) (K : KT) : KT := fun ls st h n1 n2 => match st with
  | .int y :: .int x :: st' => K ls (.int (f x y) :: st') h n1 n2
  | _ => False
def o_iid (f : Int32 → Int32 → Int32) (K : KT) : KT := fun ls st h n1 n2 => match st with
  | .int y :: .int x :: st' => ¬ y = 0 ∧ K ls (.int (f x y) :: st') h n1 n2
  | _ => False
def o_i (f : Int32 → Int32) (K : KT) : KT := fun ls st h n1 n2 => match st with
  | .int x :: st' => K ls (.int (f x) :: st') h n1 n2
  | _ => False
def o_jj (f : Int64 → Int64 → Int64) (K : KT) : KT := fun ls st h n1 n2 => match st with
  | .long y :: .long x :: st' => K ls (.long (f x y) :: st') h n1 n2
  | _ => False
def o_jjd (f : Int64 → Int64 → Int64) (K : KT) : KT := fun ls st h n1 n2 => match st with
  | .long y :: .long x :: st' => ¬ y = 0 ∧ K ls (.long (f x y) :: st') h n1 n2
  | _ => False
def o_i2l (K : KT) : KT := fun ls st h n1 n2 => match st with
  | .int x :: st' => K ls (.long x.toInt64 :: st') h n1 n2
  | _ => False
def o_l2i (K : KT) : KT := fun ls st h n1 n2 => match st with
  | .long x :: st' => K ls (.int x.toInt32 :: st') h n1 n2
  | _ => False
def o_lcmp (K : KT) : KT := fun ls st h n1 n2 => match st with
  | .long y :: .long x :: st' => K ls (.int (lg_cmp x y) :: st') h n1 n2
  | _ => False
theorem s_iadd (C : CX p R s m args c D base nL cc own d) (hd : decode cc pc = .ok (.iadd, 1)) (hk : Sd p l e R s m args below meth c Q D base nL Rl0 (pc + 1) K) : Sd p l e R s m args below meth c Q D base nL Rl0 pc (o_ii (fun x y => x + y) K) := by
  intro ls st h n1 n2 ho z1 z2 Rl H locs lsC stC hm hr hv hl hS
  unfold o_ii at ho
  split at ho
  · obtain ⟨vs, rfl, hv1⟩ := hv.int'
    obtain ⟨vs, rfl, hv2⟩ := hv1.int'
    exact lv_iadd C.1 C.2.1 hd (hk _ _ _ _ _ ho z1 z2 Rl H locs lsC _ hm hr ⟨rfl, hv2⟩ hl hS)
  · exact ho.elim
theorem s_isub (C : CX p R s m args c D base nL cc own d) (hd : decode cc pc = .ok (.isub, 1)) (hk : Sd p l e R s m args below meth c Q D base nL Rl0 (pc + 1) K) : Sd p l e R s m args below meth c Q D base nL Rl0 pc (o_ii (fun x y => x - y) K) := by
  intro ls st h n1 n2 ho z1 z2 Rl H locs lsC stC hm hr hv hl hS
  unfold o_ii at ho
  split at ho
  · obtain ⟨vs, rfl, hv1⟩ := hv.int'
    obtain ⟨vs, rfl, hv2⟩ := hv1.int'
    exact lv_isub C.1 C.2.1 hd (hk _ _ _ _ _ ho z1 z2 Rl H locs lsC _ hm hr ⟨rfl, hv2⟩ hl hS)
  · exact ho.elim
theorem s_imul (C : CX p R s m args c D base nL cc own d) (hd : decode cc pc = .ok (.imul, 1)) (hk : Sd p l e R s m args below meth c Q D base nL Rl0 (pc + 1) K) : Sd p l e R s m args below meth c Q D base nL Rl0 pc (o_ii (fun x y => x * y) K) := by
  intro ls st h n1 n2 ho z1 z2 Rl H locs lsC stC hm hr hv hl hS
  unfold o_ii at ho
  split at ho
  · obtain ⟨vs, rfl, hv1⟩ := hv.int'
    obtain ⟨vs, rfl, hv2⟩ := hv1.int'
    exact lv_imul C.1 C.2.1 hd (hk _ _ _ _ _ ho z1 z2 Rl H locs lsC _ hm hr ⟨rfl, hv2⟩ hl hS)
  · exact ho.elim
theorem s_iand (C : CX p R s m args c D base nL cc own d) (hd : decode cc pc = .ok (.iand, 1)) (hk : Sd p l e R s m args below meth c Q D base nL Rl0 (pc + 1) K) : Sd p l e R s m args below meth c Q D base nL Rl0 pc (o_ii (fun x y => x &&& y) K) := by
  intro ls st h n1 n2 ho z1 z2 Rl H locs lsC stC hm hr hv hl hS
  unfold o_ii at ho
  split at ho
  · obtain ⟨vs, rfl, hv1⟩ := hv.int'
    obtain ⟨vs, rfl, hv2⟩ := hv1.int'
    exact lv_iand C.1 C.2.1 hd (hk _ _ _ _ _ ho z1 z2 Rl H locs lsC _ hm hr ⟨rfl, hv2⟩ hl hS)
  · exact ho.elim
theorem s_ior (C : CX p R s m args c D base nL cc own d) (hd : decode cc pc = .ok (.ior, 1)) (hk : Sd p l e R s m args below meth c Q D base nL Rl0 (pc + 1) K) : Sd p l e R s m args below meth c Q D base nL Rl0 pc (o_ii (fun x y => x ||| y) K) := by
  intro ls st h n1 n2 ho z1 z2 Rl H locs lsC stC hm hr hv hl hS
  unfold o_ii at ho
  split at ho
  · obtain ⟨vs, rfl, hv1⟩ := hv.int'
    obtain ⟨vs, rfl, hv2⟩ := hv1.int'
    exact lv_ior C.1 C.2.1 hd (hk _ _ _ _ _ ho z1 z2 Rl H locs lsC _ hm hr ⟨rfl, hv2⟩ hl hS)
  · exact ho.elim
theorem s_ishl (C : CX p R s m args c D base nL cc own d) (hd : decode cc pc = .ok (.ishl, 1)) (hk : Sd p l e R s m args below meth c Q D base nL Rl0 (pc + 1) K) : Sd p l e R s m args below meth c Q D base nL Rl0 pc (o_ii (fun x y => x <<< (y &&& 31)) K) := by
  intro ls st h n1 n2 ho z1 z2 Rl H locs lsC stC hm hr hv hl hS
  unfold o_ii at ho
  split at ho
  · obtain ⟨vs, rfl, hv1⟩ := hv.int'
    obtain ⟨vs, rfl, hv2⟩ := hv1.int'
    exact lv_ishl C.1 C.2.1 hd (hk _ _ _ _ _ ho z1 z2 Rl H locs lsC _ hm hr ⟨rfl, hv2⟩ hl hS)
  · exact ho.elim
theorem s_ishr (C : CX p R s m args c D base nL cc own d) (hd : decode cc pc = .ok (.ishr, 1)) (hk : Sd p l e R s m args below meth c Q D base nL Rl0 (pc + 1) K) : Sd p l e R s m args below meth c Q D base nL Rl0 pc (o_ii (fun x y => x >>> (y &&& 31)) K) := by
  intro ls st h n1 n2 ho z1 z2 Rl H locs lsC stC hm hr hv hl hS
  unfold o_ii at ho
  split at ho
  · obtain ⟨vs, rfl, hv1⟩ := hv.int'
    obtain ⟨vs, rfl, hv2⟩ := hv1.int'
    exact lv_ishr C.1 C.2.1 hd (hk _ _ _ _ _ ho z1 z2 Rl H locs lsC _ hm hr ⟨rfl, hv2⟩ hl hS)
  · exact ho.elim
theorem s_iushr (C : CX p R s m args c D base nL cc own d) (hd : decode cc pc = .ok (.iushr, 1)) (hk : Sd p l e R s m args below meth c Q D base nL Rl0 (pc + 1) K) : Sd p l e R s m args below meth c Q D base nL Rl0 pc (o_ii (fun x y => (x.toUInt32 >>> (y.toUInt32 &&& Int32.toUInt32 31)).toInt32) K) := by
  intro ls st h n1 n2 ho z1 z2 Rl H locs lsC stC hm hr hv hl hS
  unfold o_ii at ho
  split at ho
  · obtain ⟨vs, rfl, hv1⟩ := hv.int'
    obtain ⟨vs, rfl, hv2⟩ := hv1.int'
    exact lv_iushr C.1 C.2.1 hd rfl (hk _ _ _ _ _ ho z1 z2 Rl H locs lsC _ hm hr ⟨rfl, hv2⟩ hl hS)
  · exact ho.elim
theorem s_idiv (C : CX p R s m args c D base nL cc own d) (hd : decode cc pc = .ok (.idiv, 1)) (hk : Sd p l e R s m args below meth c Q D base nL Rl0 (pc + 1) K) : Sd p l e R s m args below meth c Q D base nL Rl0 pc (o_iid (fun x y => x / y) K) := by
  intro ls st h n1 n2 ho z1 z2 Rl H locs lsC stC hm hr hv hl hS
  unfold o_iid at ho
  split at ho
  · obtain ⟨hne, ho⟩ := ho
    obtain ⟨vs, rfl, hv1⟩ := hv.int'
    obtain ⟨vs, rfl, hv2⟩ := hv1.int'
    exact lv_idiv C.1 C.2.1 hd hne (hk _ _ _ _ _ ho z1 z2 Rl H locs lsC _ hm hr ⟨rfl, hv2⟩ hl hS)
  · exact ho.elim
theorem s_irem (C : CX p R s m args c D base nL cc own d) (hd : decode cc pc = .ok (.irem, 1)) (hk : Sd p l e R s m args below meth c Q D base nL Rl0 (pc + 1) K) : Sd p l e R s m args below meth c Q D base nL Rl0 pc (o_iid (fun x y => x - x / y * y) K) := by
  intro ls st h n1 n2 ho z1 z2 Rl H locs lsC stC hm hr hv hl hS
  unfold o_iid at ho
  split at ho
  · obtain ⟨hne, ho⟩ := ho
    obtain ⟨vs, rfl, hv1⟩ := hv.int'
    obtain ⟨vs, rfl, hv2⟩ := hv1.int'
    exact lv_irem C.1 C.2.1 hd hne (hk _ _ _ _ _ ho z1 z2 Rl H locs lsC _ hm hr ⟨rfl, hv2⟩ hl hS)
  · exact ho.elim
theorem s_ineg (C : CX p R s m args c D base nL cc own d) (hd : decode cc pc = .ok (.ineg, 1)) (hk : Sd p l e R s m args below meth c Q D base nL Rl0 (pc + 1) K) : Sd p l e R s m args below meth c Q D base nL Rl0 pc (o_i (fun x => -x) K) := by
  intro ls st h n1 n2 ho z1 z2 Rl H locs lsC stC hm hr hv hl hS
  unfold o_i at ho
  split at ho
  · obtain ⟨vs, rfl, hv1⟩ := hv.int'
    exact lv_ineg C.1 C.2.1 hd (hk _ _ _ _ _ ho z1 z2 Rl H locs lsC _ hm hr ⟨rfl, hv1⟩ hl hS)
  · exact ho.elim
theorem s_i2b (C : CX p R s m args c D base nL cc own d) (hd : decode cc pc = .ok (.i2b, 1)) (hk : Sd p l e R s m args below meth c Q D base nL Rl0 (pc + 1) K) : Sd p l e R s m args below meth c Q D base nL Rl0 pc (o_i (fun x => x.toInt8.toInt32) K) := by
  intro ls st h n1 n2 ho z1 z2 Rl H locs lsC stC hm hr hv hl hS
  unfold o_i at ho
  split at ho
  · obtain ⟨vs, rfl, hv1⟩ := hv.int'
    exact lv_i2b C.1 C.2.1 hd rfl (hk _ _ _ _ _ ho z1 z2 Rl H locs lsC _ hm hr ⟨rfl, hv1⟩ hl hS)
  · exact ho.elim
theorem s_i2s (C : CX p R s m args c D base nL cc own d) (hd : decode cc pc = .ok (.i2s, 1)) (hk : Sd p l e R s m args below meth c Q D base nL Rl0 (pc + 1) K) : Sd p l e R s m args below meth c Q D base nL Rl0 pc (o_i (fun x => x.toInt16.toInt32) K) := by
  intro ls st h n1 n2 ho z1 z2 Rl H locs lsC stC hm hr hv hl hS
  unfold o_i at ho
  split at ho
  · obtain ⟨vs, rfl, hv1⟩ := hv.int'
    exact lv_i2s C.1 C.2.1 hd rfl (hk _ _ _ _ _ ho z1 z2 Rl H locs lsC _ hm hr ⟨rfl, hv1⟩ hl hS)
  · exact ho.elim
theorem s_ladd (C : CX p R s m args c D base nL cc own d) (hd : decode cc pc = .ok (.ladd, 1)) (hk : Sd p l e R s m args below meth c Q D base nL Rl0 (pc + 1) K) : Sd p l e R s m args below meth c Q D base nL Rl0 pc (o_jj (fun x y => x + y) K) := by
  intro ls st h n1 n2 ho z1 z2 Rl H locs lsC stC hm hr hv hl hS
  unfold o_jj at ho
  split at ho
  · obtain ⟨vs, rfl, hv1⟩ := hv.long'
    obtain ⟨vs, rfl, hv2⟩ := hv1.long'
    exact lv_ladd C.1 C.2.1 hd (hk _ _ _ _ _ ho z1 z2 Rl H locs lsC _ hm hr ⟨rfl, hv2⟩ hl hS)
  · exact ho.elim
theorem s_lsub (C : CX p R s m args c D base nL cc own d) (hd : decode cc pc = .ok (.lsub, 1)) (hk : Sd p l e R s m args below meth c Q D base nL Rl0 (pc + 1) K) : Sd p l e R s m args below meth c Q D base nL Rl0 pc (o_jj (fun x y => x - y) K) := by
  intro ls st h n1 n2 ho z1 z2 Rl H locs lsC stC hm hr hv hl hS
  unfold o_jj at ho
  split at ho
  · obtain ⟨vs, rfl, hv1⟩ := hv.long'
    obtain ⟨vs, rfl, hv2⟩ := hv1.long'
    exact lv_lsub C.1 C.2.1 hd (hk _ _ _ _ _ ho z1 z2 Rl H locs lsC _ hm hr ⟨rfl, hv2⟩ hl hS)
  · exact ho.elim
theorem s_lmul (C : CX p R s m args c D base nL cc own d) (hd : decode cc pc = .ok (.lmul, 1)) (hk : Sd p l e R s m args below meth c Q D base nL Rl0 (pc + 1) K) : Sd p l e R s m args below meth c Q D base nL Rl0 pc (o_jj (fun x y => x * y) K) := by
  intro ls st h n1 n2 ho z1 z2 Rl H locs lsC stC hm hr hv hl hS
  unfold o_jj at ho
  split at ho
  · obtain ⟨vs, rfl, hv1⟩ := hv.long'
    obtain ⟨vs, rfl, hv2⟩ := hv1.long'
    exact lv_lmul C.1 C.2.1 hd (hk _ _ _ _ _ ho z1 z2 Rl H locs lsC _ hm hr ⟨rfl, hv2⟩ hl hS)
  · exact ho.elim
theorem s_ldiv (C : CX p R s m args c D base nL cc own d) (hd : decode cc pc = .ok (.ldiv, 1)) (hk : Sd p l e R s m args below meth c Q D base nL Rl0 (pc + 1) K) : Sd p l e R s m args below meth c Q D base nL Rl0 pc (o_jjd (fun x y => x / y) K) := by
  intro ls st h n1 n2 ho z1 z2 Rl H locs lsC stC hm hr hv hl hS
  unfold o_jjd at ho
  split at ho
  · obtain ⟨hne, ho⟩ := ho
    obtain ⟨vs, rfl, hv1⟩ := hv.long'
    obtain ⟨vs, rfl, hv2⟩ := hv1.long'
    exact lv_ldiv C.1 C.2.1 hd hne (hk _ _ _ _ _ ho z1 z2 Rl H locs lsC _ hm hr ⟨rfl, hv2⟩ hl hS)
  · exact ho.elim
theorem s_lrem (C : CX p R s m args c D base nL cc own d) (hd : decode cc pc = .ok (.lrem, 1)) (hk : Sd p l e R s m args below meth c Q D base nL Rl0 (pc + 1) K) : Sd p l e R s m args below meth c Q D base nL Rl0 pc (o_jjd (fun x y => x - x / y * y) K) := by
  intro ls st h n1 n2 ho z1 z2 Rl H locs lsC stC hm hr hv hl hS
  unfold o_jjd at ho
  split at ho
  · obtain ⟨hne, ho⟩ := ho
    obtain ⟨vs, rfl, hv1⟩ := hv.long'
    obtain ⟨vs, rfl, hv2⟩ := hv1.long'
    exact lv_lrem C.1 C.2.1 hd hne (hk _ _ _ _ _ ho z1 z2 Rl H locs lsC _ hm hr ⟨rfl, hv2⟩ hl hS)
  · exact ho.elim
theorem s_i2l (C : CX p R s m args c D base nL cc own d) (hd : decode cc pc = .ok (.i2l, 1)) (hk : Sd p l e R s m args below meth c Q D base nL Rl0 (pc + 1) K) : Sd p l e R s m args below meth c Q D base nL Rl0 pc (o_i2l K) := by
  intro ls st h n1 n2 ho z1 z2 Rl H locs lsC stC hm hr hv hl hS
  unfold o_i2l at ho
  split at ho
  · obtain ⟨vs, rfl, hv1⟩ := hv.int'
    exact lv_i2l C.1 C.2.1 hd rfl (hk _ _ _ _ _ ho z1 z2 Rl H locs lsC _ hm hr ⟨rfl, hv1⟩ hl hS)
  · exact ho.elim
theorem s_l2i (C : CX p R s m args c D base nL cc own d) (hd : decode cc pc = .ok (.l2i, 1)) (hk : Sd p l e R s m args below meth c Q D base nL Rl0 (pc + 1) K) : Sd p l e R s m args below meth c Q D base nL Rl0 pc (o_l2i K) := by
  intro ls st h n1 n2 ho z1 z2 Rl H locs lsC stC hm hr hv hl hS
  unfold o_l2i at ho
  split at ho
  · obtain ⟨vs, rfl, hv1⟩ := hv.long'
    exact lv_l2i C.1 C.2.1 hd rfl (hk _ _ _ _ _ ho z1 z2 Rl H locs lsC _ hm hr ⟨rfl, hv1⟩ hl hS)
  · exact ho.elim
theorem s_lcmp (C : CX p R s m args c D base nL cc own d) (hd : decode cc pc = .ok (.lcmp, 1)) (hk : Sd p l e R s m args below meth c Q D base nL Rl0 (pc + 1) K) : Sd p l e R s m args below meth c Q D base nL Rl0 pc (o_lcmp K) := by
  intro ls st h n1 n2 ho z1 z2 Rl H locs lsC stC hm hr hv hl hS
  unfold o_lcmp at ho
  split at ho
  · obtain ⟨vs, rfl, hv1⟩ := hv.long'
    obtain ⟨vs, rfl, hv2⟩ := hv1.long'
    exact W.lcmp C.1 C.2.1 hd (hk _ _ _ _ _ ho z1 z2 Rl H locs lsC _ hm hr ⟨rfl, hv2⟩ hl hS)
  · exact ho.elim
/-! the stack -/
def o_dup (K : KT) : KT := fun ls st h n1 n2 => match st with
  | v :: st' => v.category = 1 ∧ K ls (v :: v :: st') h n1 n2
  | _ => False
def o_pop (K : KT) : KT := fun ls st h n1 n2 => match st with
  | v :: st' => v.category = 1 ∧ K ls st' h n1 n2
  | _ => False
def o_dupx (K : KT) : KT := fun ls st h n1 n2 => match st with
  | v :: w :: st' => v.category = 1 ∧ w.category = 1 ∧ K ls (v :: w :: v :: st') h n1 n2
  | _ => False
def o_dup2 (K : KT) : KT := fun ls st h n1 n2 => match st with
  | v :: w :: st' => v.category = 1 ∧ w.category = 1 ∧ K ls (v :: w :: v :: w :: st') h n1 n2
  | _ => False
theorem cat_i (x : Int32) : (Value.int x).category = 1 := rfl
theorem cat_l (x : Int64) : (Value.long x).category = 2 := rfl
theorem cat_r (x : Nat) : (Value.ref x).category = 1 := rfl
theorem cat_n : Value.null.category = 1 := rfl
theorem cat_rf (o : Option Nat) : (va_rf o).category = 1 := by cases o <;> rfl
theorem s_dup (C : CX p R s m args c D base nL cc own d) (hd : decode cc pc = .ok (.dup, 1)) (hk : Sd p l e R s m args below meth c Q D base nL Rl0 (pc + 1) K) : Sd p l e R s m args below meth c Q D base nL Rl0 pc (o_dup K) := by
  intro ls st h n1 n2 ho z1 z2 Rl H locs lsC stC hm hr hv hl hS
  unfold o_dup at ho
  split at ho
  · obtain ⟨hc, ho⟩ := ho
    obtain ⟨v', vs, rfl, h2, hv1⟩ := hv.cons'
    exact lv_dup C.1 C.2.1 hd (h2.cat.trans hc) (hk _ _ _ _ _ ho z1 z2 Rl H locs lsC _ hm hr ⟨h2, h2, hv1⟩ hl hS)
  · exact ho.elim
theorem s_pop (C : CX p R s m args c D base nL cc own d) (hd : decode cc pc = .ok (.pop, 1)) (hk : Sd p l e R s m args below meth c Q D base nL Rl0 (pc + 1) K) : Sd p l e R s m args below meth c Q D base nL Rl0 pc (o_pop K) := by
  intro ls st h n1 n2 ho z1 z2 Rl H locs lsC stC hm hr hv hl hS
  unfold o_pop at ho
  split at ho
  · obtain ⟨hc, ho⟩ := ho
    obtain ⟨v', vs, rfl, h2, hv1⟩ := hv.cons'
    exact lv_pop C.1 C.2.1 hd (h2.cat.trans hc) (hk _ _ _ _ _ ho z1 z2 Rl H locs lsC _ hm hr hv1 hl hS)
  · exact ho.elim
theorem s_dup_x1 (C : CX p R s m args c D base nL cc own d) (hd : decode cc pc = .ok (.dup_x1, 1)) (hk : Sd p l e R s m args below meth c Q D base nL Rl0 (pc + 1) K) : Sd p l e R s m args below meth c Q D base nL Rl0 pc (o_dupx K) := by
  intro ls st h n1 n2 ho z1 z2 Rl H locs lsC stC hm hr hv hl hS
  unfold o_dupx at ho
  split at ho
  · obtain ⟨hc, hc2, ho⟩ := ho
    obtain ⟨v', vs, rfl, h2, hv1⟩ := hv.cons'
    obtain ⟨w', vs, rfl, h3, hv2⟩ := hv1.cons'
    exact lv_dup_x1 C.1 C.2.1 hd (h2.cat.trans hc) (h3.cat.trans hc2) (hk _ _ _ _ _ ho z1 z2 Rl H locs lsC _ hm hr ⟨h2, h3, h2, hv2⟩ hl hS)
  · exact ho.elim
theorem s_dup2 (C : CX p R s m args c D base nL cc own d) (hd : decode cc pc = .ok (.dup2, 1)) (hk : Sd p l e R s m args below meth c Q D base nL Rl0 (pc + 1) K) : Sd p l e R s m args below meth c Q D base nL Rl0 pc (o_dup2 K) := by
  intro ls st h n1 n2 ho z1 z2 Rl H locs lsC stC hm hr hv hl hS
  unfold o_dup2 at ho
  split at ho
  · obtain ⟨hc, hc2, ho⟩ := ho
    obtain ⟨v', vs, rfl, h2, hv1⟩ := hv.cons'
    obtain ⟨w', vs, rfl, h3, hv2⟩ := hv1.cons'
    exact lv_dup2_11 C.1 C.2.1 hd (h2.cat.trans hc) (h3.cat.trans hc2) (hk _ _ _ _ _ ho z1 z2 Rl H locs lsC _ hm hr ⟨h2, h3, h2, h3, hv2⟩ hl hS)
  · exact ho.elim
/-! branches -/
def o_if (f : Int32 → Prop) (Kt Kf : KT) : KT := fun ls st h n1 n2 => match st with
  | .int x :: st' => (f x → Kt ls st' h n1 n2) ∧ (¬ f x → Kf ls st' h n1 n2)
  | _ => False
def o_ic2 (f : Int32 → Int32 → Prop) (Kt Kf : KT) : KT := fun ls st h n1 n2 => match st with
  | .int y :: .int x :: st' => (f x y → Kt ls st' h n1 n2) ∧ (¬ f x y → Kf ls st' h n1 n2)
  | _ => False
def o_ifn (Kt Kf : KT) : KT := fun ls st h n1 n2 => match st with
  | v :: st' => isR v ∧ (v = .null → Kt ls st' h n1 n2) ∧ (¬ v = .null → Kf ls st' h n1 n2)
  | _ => False
theorem rf_null (o : Option Nat) : (va_rf o = .null) = (o = none) := by cases o <;> simp [va_rf]
theorem s_goto (C : CX p R s m args c D base nL cc own d) {off : Int} {tgt : Nat} (hd : decode cc pc = .ok (.goto off, 3)) (ht : (pc : Int) + off = (tgt : Int)) (hk : Sd p l e R s m args below meth c Q D base nL Rl0 tgt K) : Sd p l e R s m args below meth c Q D base nL Rl0 pc K :=
  fun ls st h n1 n2 ho z1 z2 Rl H locs lsC stC hm hr hv' hl hS => lv_goto C.1 C.2.1 hd ht (hk _ _ _ _ _ ho z1 z2 Rl H locs lsC _ hm hr hv' hl hS)
theorem s_if_eq {Kt Kf : KT} (C : CX p R s m args c D base nL cc own d) {off : Int} {tgt : Nat} (hd : decode cc pc = .ok (.ifCond .eq off, 3)) (ht : (pc : Int) + off = (tgt : Int)) (hkt : Sd p l e R s m args below meth c Q D base nL Rl0 tgt Kt) (hkf : Sd p l e R s m args below meth c Q D base nL Rl0 (pc + 3) Kf) : Sd p l e R s m args below meth c Q D base nL Rl0 pc (o_if (fun x => x = 0) Kt Kf) := by
  intro ls st h n1 n2 ho z1 z2 Rl H locs lsC stC hm hr hv hl hS
  unfold o_if at ho
  split at ho
  · obtain ⟨vs, rfl, hv1⟩ := hv.int'
    exact lv_if_eq C.1 C.2.1 hd ht (fun q => hkt _ _ _ _ _ (ho.1 q) z1 z2 Rl H locs lsC _ hm hr hv1 hl hS) (fun q => hkf _ _ _ _ _ (ho.2 q) z1 z2 Rl H locs lsC _ hm hr hv1 hl hS)
  · exact ho.elim
theorem s_if_ne {Kt Kf : KT} (C : CX p R s m args c D base nL cc own d) {off : Int} {tgt : Nat} (hd : decode cc pc = .ok (.ifCond .ne off, 3)) (ht : (pc : Int) + off = (tgt : Int)) (hkt : Sd p l e R s m args below meth c Q D base nL Rl0 tgt Kt) (hkf : Sd p l e R s m args below meth c Q D base nL Rl0 (pc + 3) Kf) : Sd p l e R s m args below meth c Q D base nL Rl0 pc (o_if (fun x => x = 0) Kf Kt) := by
  intro ls st h n1 n2 ho z1 z2 Rl H locs lsC stC hm hr hv hl hS
  unfold o_if at ho
  split at ho
  · obtain ⟨vs, rfl, hv1⟩ := hv.int'
    exact lv_if_ne C.1 C.2.1 hd ht (fun q => hkt _ _ _ _ _ (ho.2 q) z1 z2 Rl H locs lsC _ hm hr hv1 hl hS) (fun q => hkf _ _ _ _ _ (ho.1 q) z1 z2 Rl H locs lsC _ hm hr hv1 hl hS)
  · exact ho.elim
theorem s_if_lt {Kt Kf : KT} (C : CX p R s m args c D base nL cc own d) {off : Int} {tgt : Nat} (hd : decode cc pc = .ok (.ifCond .lt off, 3)) (ht : (pc : Int) + off = (tgt : Int)) (hkt : Sd p l e R s m args below meth c Q D base nL Rl0 tgt Kt) (hkf : Sd p l e R s m args below meth c Q D base nL Rl0 (pc + 3) Kf) : Sd p l e R s m args below meth c Q D base nL Rl0 pc (o_if (fun x => x < 0) Kt Kf) := by
  intro ls st h n1 n2 ho z1 z2 Rl H locs lsC stC hm hr hv hl hS
  unfold o_if at ho
  split at ho
  · obtain ⟨vs, rfl, hv1⟩ := hv.int'
    exact lv_if_lt C.1 C.2.1 hd ht (fun q => hkt _ _ _ _ _ (ho.1 q) z1 z2 Rl H locs lsC _ hm hr hv1 hl hS) (fun q => hkf _ _ _ _ _ (ho.2 q) z1 z2 Rl H locs lsC _ hm hr hv1 hl hS)
  · exact ho.elim
theorem s_if_ge {Kt Kf : KT} (C : CX p R s m args c D base nL cc own d) {off : Int} {tgt : Nat} (hd : decode cc pc = .ok (.ifCond .ge off, 3)) (ht : (pc : Int) + off = (tgt : Int)) (hkt : Sd p l e R s m args below meth c Q D base nL Rl0 tgt Kt) (hkf : Sd p l e R s m args below meth c Q D base nL Rl0 (pc + 3) Kf) : Sd p l e R s m args below meth c Q D base nL Rl0 pc (o_if (fun x => 0 ≤ x) Kt Kf) := by
  intro ls st h n1 n2 ho z1 z2 Rl H locs lsC stC hm hr hv hl hS
  unfold o_if at ho
  split at ho
  · obtain ⟨vs, rfl, hv1⟩ := hv.int'
    exact lv_if_ge C.1 C.2.1 hd ht (fun q => hkt _ _ _ _ _ (ho.1 q) z1 z2 Rl H locs lsC _ hm hr hv1 hl hS) (fun q => hkf _ _ _ _ _ (ho.2 q) z1 z2 Rl H locs lsC _ hm hr hv1 hl hS)
  · exact ho.elim
theorem s_if_gt {Kt Kf : KT} (C : CX p R s m args c D base nL cc own d) {off : Int} {tgt : Nat} (hd : decode cc pc = .ok (.ifCond .gt off, 3)) (ht : (pc : Int) + off = (tgt : Int)) (hkt : Sd p l e R s m args below meth c Q D base nL Rl0 tgt Kt) (hkf : Sd p l e R s m args below meth c Q D base nL Rl0 (pc + 3) Kf) : Sd p l e R s m args below meth c Q D base nL Rl0 pc (o_if (fun x => 0 < x) Kt Kf) := by
  intro ls st h n1 n2 ho z1 z2 Rl H locs lsC stC hm hr hv hl hS
  unfold o_if at ho
  split at ho
  · obtain ⟨vs, rfl, hv1⟩ := hv.int'
    exact lv_if_gt C.1 C.2.1 hd ht (fun q => hkt _ _ _ _ _ (ho.1 q) z1 z2 Rl H locs lsC _ hm hr hv1 hl hS) (fun q => hkf _ _ _ _ _ (ho.2 q) z1 z2 Rl H locs lsC _ hm hr hv1 hl hS)
  · exact ho.elim
theorem s_if_le {Kt Kf : KT} (C : CX p R s m args c D base nL cc own d) {off : Int} {tgt : Nat} (hd : decode cc pc = .ok (.ifCond .le off, 3)) (ht : (pc : Int) + off = (tgt : Int)) (hkt : Sd p l e R s m args below meth c Q D base nL Rl0 tgt Kt) (hkf : Sd p l e R s m args below meth c Q D base nL Rl0 (pc + 3) Kf) : Sd p l e R s m args below meth c Q D base nL Rl0 pc (o_if (fun x => x ≤ 0) Kt Kf) := by
  intro ls st h n1 n2 ho z1 z2 Rl H locs lsC stC hm hr hv hl hS
  unfold o_if at ho
  split at ho
  · obtain ⟨vs, rfl, hv1⟩ := hv.int'
    exact lv_if_le C.1 C.2.1 hd ht (fun q => hkt _ _ _ _ _ (ho.1 q) z1 z2 Rl H locs lsC _ hm hr hv1 hl hS) (fun q => hkf _ _ _ _ _ (ho.2 q) z1 z2 Rl H locs lsC _ hm hr hv1 hl hS)
  · exact ho.elim
theorem s_icmp_eq {Kt Kf : KT} (C : CX p R s m args c D base nL cc own d) {off : Int} {tgt : Nat} (hd : decode cc pc = .ok (.if_icmp .eq off, 3)) (ht : (pc : Int) + off = (tgt : Int)) (hkt : Sd p l e R s m args below meth c Q D base nL Rl0 tgt Kt) (hkf : Sd p l e R s m args below meth c Q D base nL Rl0 (pc + 3) Kf) : Sd p l e R s m args below meth c Q D base nL Rl0 pc (o_ic2 (fun x y => x = y) Kt Kf) := by
  intro ls st h n1 n2 ho z1 z2 Rl H locs lsC stC hm hr hv hl hS
  unfold o_ic2 at ho
  split at ho
  · obtain ⟨vs, rfl, hv1⟩ := hv.int'
    obtain ⟨vs, rfl, hv2⟩ := hv1.int'
    exact lv_icmp_eq C.1 C.2.1 hd ht (fun q => hkt _ _ _ _ _ (ho.1 q) z1 z2 Rl H locs lsC _ hm hr hv2 hl hS) (fun q => hkf _ _ _ _ _ (ho.2 q) z1 z2 Rl H locs lsC _ hm hr hv2 hl hS)
  · exact ho.elim
theorem s_icmp_ne {Kt Kf : KT} (C : CX p R s m args c D base nL cc own d) {off : Int} {tgt : Nat} (hd : decode cc pc = .ok (.if_icmp .ne off, 3)) (ht : (pc : Int) + off = (tgt : Int)) (hkt : Sd p l e R s m args below meth c Q D base nL Rl0 tgt Kt) (hkf : Sd p l e R s m args below meth c Q D base nL Rl0 (pc + 3) Kf) : Sd p l e R s m args below meth c Q D base nL Rl0 pc (o_ic2 (fun x y => x = y) Kf Kt) := by
  intro ls st h n1 n2 ho z1 z2 Rl H locs lsC stC hm hr hv hl hS
  unfold o_ic2 at ho
  split at ho
  · obtain ⟨vs, rfl, hv1⟩ := hv.int'
    obtain ⟨vs, rfl, hv2⟩ := hv1.int'
    exact lv_icmp_ne C.1 C.2.1 hd ht (fun q => hkt _ _ _ _ _ (ho.2 q) z1 z2 Rl H locs lsC _ hm hr hv2 hl hS) (fun q => hkf _ _ _ _ _ (ho.1 q) z1 z2 Rl H locs lsC _ hm hr hv2 hl hS)
  · exact ho.elim
theorem s_icmp_lt {Kt Kf : KT} (C : CX p R s m args c D base nL cc own d) {off : Int} {tgt : Nat} (hd : decode cc pc = .ok (.if_icmp .lt off, 3)) (ht : (pc : Int) + off = (tgt : Int)) (hkt : Sd p l e R s m args below meth c Q D base nL Rl0 tgt Kt) (hkf : Sd p l e R s m args below meth c Q D base nL Rl0 (pc + 3) Kf) : Sd p l e R s m args below meth c Q D base nL Rl0 pc (o_ic2 (fun x y => x < y) Kt Kf) := by
  intro ls st h n1 n2 ho z1 z2 Rl H locs lsC stC hm hr hv hl hS
  unfold o_ic2 at ho
  split at ho
  · obtain ⟨vs, rfl, hv1⟩ := hv.int'
    obtain ⟨vs, rfl, hv2⟩ := hv1.int'
    exact lv_icmp_lt C.1 C.2.1 hd ht (fun q => hkt _ _ _ _ _ (ho.1 q) z1 z2 Rl H locs lsC _ hm hr hv2 hl hS) (fun q => hkf _ _ _ _ _ (ho.2 q) z1 z2 Rl H locs lsC _ hm hr hv2 hl hS)
  · exact ho.elim
theorem s_icmp_ge {Kt Kf : KT} (C : CX p R s m args c D base nL cc own d) {off : Int} {tgt : Nat} (hd : decode cc pc = .ok (.if_icmp .ge off, 3)) (ht : (pc : Int) + off = (tgt : Int)) (hkt : Sd p l e R s m args below meth c Q D base nL Rl0 tgt Kt) (hkf : Sd p l e R s m args below meth c Q D base nL Rl0 (pc + 3) Kf) : Sd p l e R s m args below meth c Q D base nL Rl0 pc (o_ic2 (fun x y => y ≤ x) Kt Kf) := by
  intro ls st h n1 n2 ho z1 z2 Rl H locs lsC stC hm hr hv hl hS
  unfold o_ic2 at ho
  split at ho
  · obtain ⟨vs, rfl, hv1⟩ := hv.int'
    obtain ⟨vs, rfl, hv2⟩ := hv1.int'
    exact lv_icmp_ge C.1 C.2.1 hd ht (fun q => hkt _ _ _ _ _ (ho.1 q) z1 z2 Rl H locs lsC _ hm hr hv2 hl hS) (fun q => hkf _ _ _ _ _ (ho.2 q) z1 z2 Rl H locs lsC _ hm hr hv2 hl hS)
  · exact ho.elim
theorem s_icmp_gt {Kt Kf : KT} (C : CX p R s m args c D base nL cc own d) {off : Int} {tgt : Nat} (hd : decode cc pc = .ok (.if_icmp .gt off, 3)) (ht : (pc : Int) + off = (tgt : Int)) (hkt : Sd p l e R s m args below meth c Q D base nL Rl0 tgt Kt) (hkf : Sd p l e R s m args below meth c Q D base nL Rl0 (pc + 3) Kf) : Sd p l e R s m args below meth c Q D base nL Rl0 pc (o_ic2 (fun x y => y < x) Kt Kf) := by
  intro ls st h n1 n2 ho z1 z2 Rl H locs lsC stC hm hr hv hl hS
  unfold o_ic2 at ho
  split at ho
  · obtain ⟨vs, rfl, hv1⟩ := hv.int'
    obtain ⟨vs, rfl, hv2⟩ := hv1.int'
    exact lv_icmp_gt C.1 C.2.1 hd ht (fun q => hkt _ _ _ _ _ (ho.1 q) z1 z2 Rl H locs lsC _ hm hr hv2 hl hS) (fun q => hkf _ _ _ _ _ (ho.2 q) z1 z2 Rl H locs lsC _ hm hr hv2 hl hS)
  · exact ho.elim
theorem s_icmp_le {Kt Kf : KT} (C : CX p R s m args c D base nL cc own d) {off : Int} {tgt : Nat} (hd : decode cc pc = .ok (.if_icmp .le off, 3)) (ht : (pc : Int) + off = (tgt : Int)) (hkt : Sd p l e R s m args below meth c Q D base nL Rl0 tgt Kt) (hkf : Sd p l e R s m args below meth c Q D base nL Rl0 (pc + 3) Kf) : Sd p l e R s m args below meth c Q D base nL Rl0 pc (o_ic2 (fun x y => x ≤ y) Kt Kf) := by
  intro ls st h n1 n2 ho z1 z2 Rl H locs lsC stC hm hr hv hl hS
  unfold o_ic2 at ho
  split at ho
  · obtain ⟨vs, rfl, hv1⟩ := hv.int'
    obtain ⟨vs, rfl, hv2⟩ := hv1.int'
    exact lv_icmp_le C.1 C.2.1 hd ht (fun q => hkt _ _ _ _ _ (ho.1 q) z1 z2 Rl H locs lsC _ hm hr hv2 hl hS) (fun q => hkf _ _ _ _ _ (ho.2 q) z1 z2 Rl H locs lsC _ hm hr hv2 hl hS)
  · exact ho.elim
theorem s_ifnull {Kt Kf : KT} (C : CX p R s m args c D base nL cc own d) {off : Int} {tgt : Nat} (hd : decode cc pc = .ok (.ifnull off, 3)) (ht : (pc : Int) + off = (tgt : Int)) (hkt : Sd p l e R s m args below meth c Q D base nL Rl0 tgt Kt) (hkf : Sd p l e R s m args below meth c Q D base nL Rl0 (pc + 3) Kf) : Sd p l e R s m args below meth c Q D base nL Rl0 pc (o_ifn Kt Kf) := by
  intro ls st h n1 n2 ho z1 z2 Rl H locs lsC stC hm hr hv hl hS
  unfold o_ifn at ho
  split at ho
  · obtain ⟨hR, ho1, ho2⟩ := ho
    obtain ⟨v', vs, rfl, h2, hv1⟩ := hv.cons'
    rcases h2.isR hR with ⟨e1, rfl⟩ | ⟨j, a, e1, rfl, h3⟩
    · exact lv_ifnullN C.1 C.2.1 hd ht (hkt _ _ _ _ _ (ho1 e1) z1 z2 Rl H locs lsC _ hm hr hv1 hl hS)
    · exact lv_ifnull C.1 C.2.1 hd (hkf _ _ _ _ _ (ho2 (by rw [e1]; intro q; cases q)) z1 z2 Rl H locs lsC _ hm hr hv1 hl hS)
  · exact ho.elim
theorem s_ifnonnull {Kt Kf : KT} (C : CX p R s m args c D base nL cc own d) {off : Int} {tgt : Nat} (hd : decode cc pc = .ok (.ifnonnull off, 3)) (ht : (pc : Int) + off = (tgt : Int)) (hkt : Sd p l e R s m args below meth c Q D base nL Rl0 tgt Kt) (hkf : Sd p l e R s m args below meth c Q D base nL Rl0 (pc + 3) Kf) : Sd p l e R s m args below meth c Q D base nL Rl0 pc (o_ifn Kf Kt) := by
  intro ls st h n1 n2 ho z1 z2 Rl H locs lsC stC hm hr hv hl hS
  unfold o_ifn at ho
  split at ho
  · obtain ⟨hR, ho1, ho2⟩ := ho
    obtain ⟨v', vs, rfl, h2, hv1⟩ := hv.cons'
    rcases h2.isR hR with ⟨e1, rfl⟩ | ⟨j, a, e1, rfl, h3⟩
    · exact lv_ifnonnullN C.1 C.2.1 hd (hkf _ _ _ _ _ (ho1 e1) z1 z2 Rl H locs lsC _ hm hr hv1 hl hS)
    · exact lv_ifnonnull C.1 C.2.1 hd ht (hkt _ _ _ _ _ (ho2 (by rw [e1]; intro q; cases q)) z1 z2 Rl H locs lsC _ hm hr hv1 hl hS)
  · exact ho.elim
/-- a switch: where it goes for x -/
def tgo (lo hi : Int) (dflt : Nat) (tg : List Nat) (x : Int32) : Nat := if x.toInt < lo ∨ hi < x.toInt then dflt else tg.getD (x.toInt - lo).toNat dflt
def o_tsw (lo hi : Int) (dflt : Nat) (tg : List Nat) (X : Nat → KT) : KT := fun ls st h n1 n2 => match st with
  | .int x :: st' => X (tgo lo hi dflt tg x) ls st' h n1 n2
  | _ => False
theorem s_tsw (C : CX p R s m args c D base nL cc own d) {X : Nat → KT} (hX : ∀ pc, Sd p l e R s m args below meth c Q D base nL Rl0 pc (X pc)) {dflt lo hi : Int} {offs : Array Int} {len dt : Nat} {tg : List Nat} (hd : decode cc pc = .ok (.tableswitch dflt lo hi offs, len)) (hdt : (pc : Int) + dflt = (dt : Int))
    (hlen : (tg.length : Int) = hi - lo + 1) (ho2 : ∀ k, k < tg.length → ∃ off, offs[k]? = some off ∧ (pc : Int) + off = ((tg.getD k dt : Nat) : Int)) : Sd p l e R s m args below meth c Q D base nL Rl0 pc (o_tsw lo hi dt tg X) := by
  intro ls st h n1 n2 ho z1 z2 Rl H locs lsC stC hm hr hv hl hS
  unfold o_tsw at ho
  split at ho
  · rename_i x st'
    obtain ⟨vs, rfl, hv1⟩ := hv.int'
    by_cases hx : x.toInt < lo ∨ hi < x.toInt
    · have e1 : tgo lo hi dt tg x = dt := by unfold tgo; rw [if_pos hx]
      rw [e1] at ho
      exact lv_tableOut C.1 C.2.1 hd hx hdt (hX _ _ _ _ _ _ ho z1 z2 Rl H locs lsC _ hm hr hv1 hl hS)
    · have e1 : tgo lo hi dt tg x = tg.getD (x.toInt - lo).toNat dt := by unfold tgo; rw [if_neg hx]
      rw [e1] at ho
      have hx' := not_or.mp hx
      obtain ⟨off, g1, g2⟩ := ho2 (x.toInt - lo).toNat (by omega)
      exact lv_tableIn C.1 C.2.1 hd hx'.1 hx'.2 g1 g2 (hX _ _ _ _ _ _ ho z1 z2 Rl H locs lsC _ hm hr hv1 hl hS)
  · exact ho.elim
end ZOPS
end
section
/-! Fields, arrays, new cells, calls and ends -/
section ZHEAP
variable {p : Program} {l : Launch} {e : Env} {R : Room} {s : State} {m : MethodId} {args : Array Value} {below : List Frame} {meth : Method} {c : Code} {Q : State → Prop} {D : DD} {base nL : Nat} {Rl0 : Nat → Nat → Prop} {cc : ByteArray} {own : String} {d pc : Nat} {K : KT}
theorem AL.obj {Rl : Nat → Nat → Prop} {h : HP} {k i a : Nat} {H : Heap} (hr : HR D Rl base s h H) (hi : Rl i a) (hal : AL h k i) (hk : k < 8) (hk2 : k ≠ 127 := by omega) : ∃ V : Nat → Value, t_OB a (D.1 k) (nf k) (D.2.1 k) H V ∧ (∀ x, x < nf k → VR Rl (mV h k x (ix i)) (V x)) ∧ base ≤ a := by
  obtain ⟨-, h2, h3⟩ := hr.2.2 i a hi
  rw [hal.1] at h2 h3
  unfold CRel at h3
  rw [if_pos hk] at h3
  obtain ⟨V, h4, h5⟩ := h3
  exact ⟨V, h4, h5, h2 hk2⟩
/-- what a class's table is, of kind k -/
def CT (k : Nat) (RX : String) (TX : u_T) (ty : Nat → FieldType) (N : Nat) : Prop := vwCl[k]? = some (RX, TX, N) ∧ (∀ w ∈ u_ws RX TX N, w ∈ TB) ∧ k < 8 ∧ nf k = N ∧ (∀ x, x < N → parseFieldDescriptor (TX x).2.2.1 = some (ty x)) ∧ (∀ a, a < N → ∀ b, b < N → a ≠ b → (TX a).2.1 ≠ (TX b).2.1) ∧ ∀ x, tyK k x = ty x
def o_gf (k i : Nat) (K : KT) : KT := fun ls st h n1 n2 => match st with
  | .ref a :: st' => AL h k a ∧ K ls (mV h k i (ix a) :: st') h n1 n2
  | _ => False
theorem s_getf (C : CX p R s m args c D base nL cc own d) {k i N idx : Nat} {RX : String} {TX : u_T} {ty : Nat → FieldType} (hT : CT k RX TX ty N) (hi : i < N) (hsm : (TX i).1 = RX) (hw : Cond.fieldLink own idx RX (TX i).2.1 (TX i).2.2.1 ∈ TB) (hd : decode cc pc = .ok (.getfield idx, 3)) (hk : Sd p l e R s m args below meth c Q D base nL Rl0 (pc + 3) K) : Sd p l e R s m args below meth c Q D base nL Rl0 pc (o_gf k i K) := by
  intro ls st h n1 n2 ho z1 z2 Rl H locs lsC stC hm hr hv hl hS
  unfold o_gf at ho
  split at ho
  · obtain ⟨hal, ho⟩ := ho
    obtain ⟨a, vs, rfl, ha, hv1⟩ := hv.ref'
    obtain ⟨hc, hin, hk8, hN, hty, -, -⟩ := hT
    obtain ⟨V, ⟨cell, q1, q2, q3, q4⟩, h5, -⟩ := hal.obj hr ha hk8
    obtain ⟨hS0, hfc, kC, hkC, hkind⟩ := C.2.2.2.2.2.1.1.1 k _ hc
    obtain ⟨cf, kf, fi, f, hif, hsl⟩ := hS0 i hi
    rw [hN] at q4 h5
    have hif' : s.fieldFound? RX (TX i).2.1 (TX i).2.2.1 = some (cf, kf, fi, f) := by rw [← hsm]; exact hif
    exact W.getf C.1 C.2.1 C.2.2.2.1 (C.2.2.2.2.1 _ hw) hif' (u_facts hfc hkC (u_lays C.2.2.2.2.1 hin hi) hif).1 q1 (by rw [q3]; exact fun h => by cases h) (v := V i) (by rw [hsl]; exact q4 i hi) rfl rfl hd (hk _ _ _ _ _ ho z1 z2 Rl H locs lsC _ hm hr ⟨h5 i hi, hv1⟩ hl hS)
  · exact ho.elim
/-- a field is written: the machine's row, for any kind of value -/
theorem put_core (C : CX p R s m args c D base nL cc own d) {k i N idx : Nat} {RX : String} {TX : u_T} {ty : Nat → FieldType} (hT : CT k RX TX ty N) (hi : i < N) (hsm : (TX i).1 = RX) (hw : Cond.fieldLink own idx RX (TX i).2.1 (TX i).2.2.1 ∈ TB) (hfin : (TX i).2.2.2 = false ∨ (meth.name = "<init>" ∧ RX = own)) (hd : decode cc pc = .ok (.putfield idx, 3))
    {Rl : Nat → Nat → Prop} {h h' : HP} {H : Heap} {locs : List Loc} {lsC : Array Slot} {vs : List Value} {id a : Nat} {vA vC : Value} {n1 n2 : Nat} (hr : HR D Rl base s h H) (ha : Rl id a) (hal : AL h k id) (hS : va_S (fun q => base ≤ q) s.heap H locs) (hv : VR Rl vA vC) (hn : narrow (ty i) vC = vC) (hf : fits (ty i) vC = true)
    (hA : ∀ k j, mA h' k j = mA h k j) (hs : ∀ x j, ¬ (x = k ∧ j = ix id) → mL h' x j = mL h x j ∧ ∀ y, mI h' x y j = mI h x y j ∧ mJ h' x y j = mJ h x y j ∧ mP h' x y j = mP h x y j)
    (h1 : mV h' k i (ix id) = vA) (h2 : ∀ x, x ≠ i → mV h' k x (ix id) = mV h k x (ix id))
    (kk : ∀ (H1 : Heap) (locs1 : List Loc), HR D Rl base s h' H1 → va_S (fun q => base ≤ q) s.heap H1 locs1 → W p l e R s m args below meth c H1 locs1 n1 n2 Q (F0 m (pc + 3) lsC vs)) :
    W p l e R s m args below meth c H locs n1 n2 Q (F0 m pc lsC (vC :: .ref a :: vs)) := by
  obtain ⟨hc, hin, hk8, hN, hty, hnm, -⟩ := hT
  obtain ⟨V, ⟨cell, q1, q2, q3, q4⟩, h5, hb⟩ := hal.obj hr ha hk8
  have hap := va_apart (own := own) (D := (D.1, D.2.1)) C.2.2.2.2.1 hin ty hty hnm C.2.2.2.2.2.1.1 hc
  obtain ⟨hS0, hfc, kC, hkC, hkind⟩ := C.2.2.2.2.2.1.1.1 k _ hc
  obtain ⟨cf, kf, fi, f, hif, hsl⟩ := hS0 i hi
  rw [hN] at q4 h5
  have hif' : s.fieldFound? RX (TX i).2.1 (TX i).2.2.1 = some (cf, kf, fi, f) := by rw [← hsm]; exact hif
  have hst := (u_facts hfc hkC (u_lays C.2.2.2.2.1 hin hi) hif).1
  have fin : ∀ (H' : Heap), H'[a]? = some (cell.setSlot f.slot vC) → H'.size = H.size → (∀ q, q ≠ a → H'[q]? = H[q]?) → W p l e R s m args below meth c H' (locs ++ [⟨a, f.slot⟩]) n1 n2 Q (F0 m (pc + 3) lsC vs) := by
    intro H' e1 e2 e3
    rw [hsl] at e1 ⊢
    refine kk H' _ (hr.wr ha e3 hA (fun x j hx => hs x j (by rw [hal.1] at hx; exact hx)) ?_) (hS.put e2 e3 hb)
    unfold CRel
    rw [hal.1, if_pos hk8]
    refine ⟨updV V i vC, ⟨_, e1, q2, q3, by rw [hN]; exact t_set q4 hap hi vC⟩, fun x hx => ?_⟩
    by_cases hxi : x = i
    · subst hxi
      rw [h1]
      simp only [updV, if_true]
      exact hv
    · rw [h2 x hxi]
      simp only [updV, if_neg hxi]
      exact h5 x (by rw [← hN]; exact hx)
  have hlay := C.2.2.2.2.1 _ (hin _ (u_in_lay hi))
  unfold u_lay at hlay
  by_cases hfl : (TX i).2.2.2 = true
  · rw [if_pos hfl] at hlay
    have hmn : meth.name = "<init>" ∧ RX = own := hfin.resolve_left (by rw [hfl]; decide)
    have hcf : m.cls = cf := by
      obtain ⟨_, _, c', _, _, _, -, -, hf', -, -, -, hown2, -⟩ := Cond.laysFinal_spec hlay
      have e1 : c' = cf := by have := hif.symm.trans hf'; simp at this; exact this.1.symm
      rw [hsm, hmn.2] at hown2
      rw [← e1]; exact Option.some.inj (C.2.2.2.1.symm.trans hown2)
    have h6 := u_fits hfc hkC hkind (Or.inr hlay) hif (hty i hi) hn hf
    exact W.putFinK C.1 C.2.1 C.2.2.2.1 (C.2.2.2.2.1 _ hw) hif' hst hcf hmn.1 (by rw [q2]; exact h6) q1 q3 (by rw [hsl]; exact k2_hasslot (q4 i hi)) rfl rfl hd fin
  · rw [if_neg hfl] at hlay
    have h6 := u_store hfc hkC hkind hlay hif (hty i hi) hn hf
    exact W.putK C.1 C.2.1 (f := f) ⟨C.2.2.2.1, C.2.2.2.2.1 _ hw, ⟨_, _, _, hif'⟩, hst⟩ (by rw [q2]; exact h6) q1 q3 (by rw [hsl]; exact k2_hasslot (q4 i hi)) rfl rfl hd fin
theorem wI_off {h : HP} {k i j : Nat} {x : Int32} : ∀ a c, ¬ (a = k ∧ c = j) → mL (wI h k i j x) a c = mL h a c ∧ ∀ y, mI (wI h k i j x) a y c = mI h a y c ∧ mJ (wI h k i j x) a y c = mJ h a y c ∧ mP (wI h k i j x) a y c = mP h a y c := fun a c hn => ⟨rfl, fun y => ⟨by rw [mI_wI, if_neg (fun q => hn ⟨q.1, q.2.2⟩)], rfl, rfl⟩⟩
theorem wJ_off {h : HP} {k i j : Nat} {x : Int64} : ∀ a c, ¬ (a = k ∧ c = j) → mL (wJ h k i j x) a c = mL h a c ∧ ∀ y, mI (wJ h k i j x) a y c = mI h a y c ∧ mJ (wJ h k i j x) a y c = mJ h a y c ∧ mP (wJ h k i j x) a y c = mP h a y c := fun a c hn => ⟨rfl, fun y => ⟨rfl, by rw [mJ_wJ, if_neg (fun q => hn ⟨q.1, q.2.2⟩)], rfl⟩⟩
theorem wP_off {h : HP} {k i j : Nat} {x : Option Nat} : ∀ a c, ¬ (a = k ∧ c = j) → mL (wP h k i j x) a c = mL h a c ∧ ∀ y, mI (wP h k i j x) a y c = mI h a y c ∧ mJ (wP h k i j x) a y c = mJ h a y c ∧ mP (wP h k i j x) a y c = mP h a y c := fun a c hn => ⟨rfl, fun y => ⟨rfl, rfl, by rw [mP_wP, if_neg (fun q => hn ⟨q.1, q.2.2⟩)]⟩⟩
theorem wI_oth {h : HP} {k i j : Nat} {x : Int32} : ∀ y, y ≠ i → mV (wI h k i j x) k y j = mV h k y j := fun y hy => mV_eq (by rw [mI_wI, if_neg (fun q => hy q.2.1)]) rfl rfl
theorem wJ_oth {h : HP} {k i j : Nat} {x : Int64} : ∀ y, y ≠ i → mV (wJ h k i j x) k y j = mV h k y j := fun y hy => mV_eq rfl (by rw [mJ_wJ, if_neg (fun q => hy q.2.1)]) rfl
theorem wP_oth {h : HP} {k i j : Nat} {x : Option Nat} : ∀ y, y ≠ i → mV (wP h k i j x) k y j = mV h k y j := fun y hy => mV_eq rfl rfl (by rw [mP_wP, if_neg (fun q => hy q.2.1)])
def o_pI (k i : Nat) (K : KT) : KT := fun ls st h n1 n2 => match st with
  | .int x :: .ref a :: st' => AL h k a ∧ K ls st' (wI h k i (ix a) x) n1 n2
  | _ => False
def o_pZ (k i : Nat) (K : KT) : KT := fun ls st h n1 n2 => match st with
  | .int x :: .ref a :: st' => (x = 0 ∨ x = 1) ∧ AL h k a ∧ K ls st' (wI h k i (ix a) x) n1 n2
  | _ => False
def o_pJ (k i : Nat) (K : KT) : KT := fun ls st h n1 n2 => match st with
  | .long x :: .ref a :: st' => AL h k a ∧ K ls st' (wJ h k i (ix a) x) n1 n2
  | _ => False
def o_pP (k i : Nat) (K : KT) : KT := fun ls st h n1 n2 => match st with
  | v :: .ref a :: st' => isR v ∧ AL h k a ∧ K ls st' (wP h k i (ix a) (orf v)) n1 n2
  | _ => False
theorem s_putI (C : CX p R s m args c D base nL cc own d) {k i N idx : Nat} {RX : String} {TX : u_T} {ty : Nat → FieldType} (hT : CT k RX TX ty N) (hi : i < N) (hsm : (TX i).1 = RX) (hw : Cond.fieldLink own idx RX (TX i).2.1 (TX i).2.2.1 ∈ TB) (hfin : (TX i).2.2.2 = false ∨ (meth.name = "<init>" ∧ RX = own)) (hty : ty i = .int) (hd : decode cc pc = .ok (.putfield idx, 3)) (hk : Sd p l e R s m args below meth c Q D base nL Rl0 (pc + 3) K) : Sd p l e R s m args below meth c Q D base nL Rl0 pc (o_pI k i K) := by
  intro ls st h n1 n2 ho z1 z2 Rl H locs lsC stC hm hr hv hl hS
  unfold o_pI at ho
  split at ho
  · rename_i x id st'
    obtain ⟨hal, ho⟩ := ho
    obtain ⟨vs, rfl, hv1⟩ := hv.int'
    obtain ⟨a, vs, rfl, ha, hv2⟩ := hv1.ref'
    refine put_core C hT hi hsm hw hfin hd (vA := .int x) (h' := wI h k i (ix id) x) hr ha hal hS rfl (by rw [hty]; rfl) (by rw [hty]; rfl) (fun _ _ => rfl) wI_off ?_ wI_oth (fun H1 locs1 g1 g2 => hk _ _ _ _ _ ho z1 z2 Rl H1 locs1 lsC _ hm g1 hv2 hl g2)
    unfold mV
    rw [hT.2.2.2.2.2.2 i, hty]
    simp only [mI_wI, and_self, if_true]
  · exact ho.elim
theorem s_putZ (C : CX p R s m args c D base nL cc own d) {k i N idx : Nat} {RX : String} {TX : u_T} {ty : Nat → FieldType} (hT : CT k RX TX ty N) (hi : i < N) (hsm : (TX i).1 = RX) (hw : Cond.fieldLink own idx RX (TX i).2.1 (TX i).2.2.1 ∈ TB) (hfin : (TX i).2.2.2 = false ∨ (meth.name = "<init>" ∧ RX = own)) (hty : ty i = .boolean) (hd : decode cc pc = .ok (.putfield idx, 3)) (hk : Sd p l e R s m args below meth c Q D base nL Rl0 (pc + 3) K) : Sd p l e R s m args below meth c Q D base nL Rl0 pc (o_pZ k i K) := by
  intro ls st h n1 n2 ho z1 z2 Rl H locs lsC stC hm hr hv hl hS
  unfold o_pZ at ho
  split at ho
  · rename_i x id st'
    obtain ⟨h01, hal, ho⟩ := ho
    obtain ⟨vs, rfl, hv1⟩ := hv.int'
    obtain ⟨a, vs, rfl, ha, hv2⟩ := hv1.ref'
    refine put_core C hT hi hsm hw hfin hd (vA := .int x) (h' := wI h k i (ix id) x) hr ha hal hS rfl (by rw [hty]; rcases h01 with rfl | rfl <;> rfl) (by rw [hty]; rcases h01 with rfl | rfl <;> rfl) (fun _ _ => rfl) wI_off ?_ wI_oth (fun H1 locs1 g1 g2 => hk _ _ _ _ _ ho z1 z2 Rl H1 locs1 lsC _ hm g1 hv2 hl g2)
    unfold mV
    rw [hT.2.2.2.2.2.2 i, hty]
    simp only [mI_wI, and_self, if_true]
  · exact ho.elim
theorem s_putJ (C : CX p R s m args c D base nL cc own d) {k i N idx : Nat} {RX : String} {TX : u_T} {ty : Nat → FieldType} (hT : CT k RX TX ty N) (hi : i < N) (hsm : (TX i).1 = RX) (hw : Cond.fieldLink own idx RX (TX i).2.1 (TX i).2.2.1 ∈ TB) (hfin : (TX i).2.2.2 = false ∨ (meth.name = "<init>" ∧ RX = own)) (hty : ty i = .long) (hd : decode cc pc = .ok (.putfield idx, 3)) (hk : Sd p l e R s m args below meth c Q D base nL Rl0 (pc + 3) K) : Sd p l e R s m args below meth c Q D base nL Rl0 pc (o_pJ k i K) := by
  intro ls st h n1 n2 ho z1 z2 Rl H locs lsC stC hm hr hv hl hS
  unfold o_pJ at ho
  split at ho
  · rename_i x id st'
    obtain ⟨hal, ho⟩ := ho
    obtain ⟨vs, rfl, hv1⟩ := hv.long'
    obtain ⟨a, vs, rfl, ha, hv2⟩ := hv1.ref'
    refine put_core C hT hi hsm hw hfin hd (vA := .long x) (h' := wJ h k i (ix id) x) hr ha hal hS rfl (by rw [hty]; rfl) (by rw [hty]; rfl) (fun _ _ => rfl) wJ_off ?_ wJ_oth (fun H1 locs1 g1 g2 => hk _ _ _ _ _ ho z1 z2 Rl H1 locs1 lsC _ hm g1 hv2 hl g2)
    unfold mV
    rw [hT.2.2.2.2.2.2 i, hty]
    simp only [mJ_wJ, and_self, if_true]
  · exact ho.elim
def isRT (t : FieldType) : Bool := match t with
  | .object _ => true
  | .array _ => true
  | _ => false
theorem s_putP (C : CX p R s m args c D base nL cc own d) {k i N idx : Nat} {RX : String} {TX : u_T} {ty : Nat → FieldType} (hT : CT k RX TX ty N) (hi : i < N) (hsm : (TX i).1 = RX) (hw : Cond.fieldLink own idx RX (TX i).2.1 (TX i).2.2.1 ∈ TB) (hfin : (TX i).2.2.2 = false ∨ (meth.name = "<init>" ∧ RX = own)) (hty : isRT (ty i) = true) (hd : decode cc pc = .ok (.putfield idx, 3)) (hk : Sd p l e R s m args below meth c Q D base nL Rl0 (pc + 3) K) : Sd p l e R s m args below meth c Q D base nL Rl0 pc (o_pP k i K) := by
  intro ls st h n1 n2 ho z1 z2 Rl H locs lsC stC hm hr hv hl hS
  unfold o_pP at ho
  split at ho
  · rename_i v id st'
    obtain ⟨hR, hal, ho⟩ := ho
    obtain ⟨vC, vs, rfl, h2, hv1⟩ := hv.cons'
    obtain ⟨a, vs, rfl, ha, hv2⟩ := hv1.ref'
    have hT7 := hT.2.2.2.2.2.2 i
    have hfn : narrow (ty i) vC = vC ∧ fits (ty i) vC = true := by
      rcases h2.isR hR with ⟨-, rfl⟩ | ⟨_, _, -, rfl, -⟩ <;> (cases hq : ty i <;> rw [hq] at hty <;> first | exact ⟨rfl, rfl⟩ | cases hty)
    refine put_core C hT hi hsm hw hfin hd (vA := v) (h' := wP h k i (ix id) (orf v)) hr ha hal hS h2 hfn.1 hfn.2 (fun _ _ => rfl) wP_off ?_ wP_oth (fun H1 locs1 g1 g2 => hk _ _ _ _ _ ho z1 z2 Rl H1 locs1 lsC _ hm g1 hv2 hl g2)
    unfold mV
    rw [hT7]
    cases hq : ty i <;> rw [hq] at hty <;> first | cases hty | skip
    all_goals
      simp only [mP_wP, and_self, if_true]
      cases v <;> first | rfl | exact hR.elim
  · exact ho.elim
/-! arrays -/
theorem AR.at {Rl : Nat → Nat → Prop} {h : HP} {i a : Nat} {H : Heap} (hr : HR D Rl base s h H) (hi : Rl i a) (hk : 8 ≤ kd i) (hk2 : kd i ≠ 127) : ∃ V : Nat → Value, H[a]? = some (arrV (D.2.2 (kd i)) (mL h (kd i) (ix i)) V) ∧ (∀ x, x < mL h (kd i) (ix i) → VR Rl (mV h (kd i) x (ix i)) (V x)) ∧ base ≤ a := by
  obtain ⟨-, h2, h3⟩ := hr.2.2 i a hi
  unfold CRel at h3
  rw [if_neg (by omega), if_neg hk2] at h3
  obtain ⟨V, h4, h5⟩ := h3
  exact ⟨V, h4, h5, h2 hk2⟩
theorem AR.scr {Rl : Nat → Nat → Prop} {h : HP} {i a : Nat} {H : Heap} (hr : HR D Rl base s h H) (hi : Rl i a) (hk2 : kd i = 127) : va_X a (mL h 127 (ix i)) (fun x => mI h 127 x (ix i)) s H := by
  obtain ⟨-, -, h3⟩ := hr.2.2 i a hi
  unfold CRel at h3
  rw [if_neg (by omega), if_pos hk2, hk2] at h3
  exact h3
theorem KK.arr {k : Nat} {t : FieldType} (hK : KK D s) (hk : 8 ≤ k) (ht : tyK k 0 = t) (n : Nat) (V : Nat → Value) : s.isArrayOf (arrV (D.2.2 k) n V) t := by
  have h1 := (hK.2.1 k hk).1 n V
  rw [ht] at h1
  exact h1
def o_iald (K : KT) : KT := fun ls st h n1 n2 => match st with
  | .int i :: .ref a :: st' => (8 ≤ kd a ∧ kd a < 80 ∨ kd a = 127) ∧ vp_in i (mL h (kd a) (ix a)) ∧ K ls (.int (mI h (kd a) i.toNatClampNeg (ix a)) :: st') h n1 n2
  | _ => False
def o_bald (K : KT) : KT := fun ls st h n1 n2 => match st with
  | .int i :: .ref a :: st' => (80 ≤ kd a ∧ kd a < 88) ∧ vp_in i (mL h (kd a) (ix a)) ∧ K ls (.int (mI h (kd a) i.toNatClampNeg (ix a)) :: st') h n1 n2
  | _ => False
def o_lald (K : KT) : KT := fun ls st h n1 n2 => match st with
  | .int i :: .ref a :: st' => (88 ≤ kd a ∧ kd a < 96) ∧ vp_in i (mL h (kd a) (ix a)) ∧ K ls (.long (mJ h (kd a) i.toNatClampNeg (ix a)) :: st') h n1 n2
  | _ => False
def o_aald (K : KT) : KT := fun ls st h n1 n2 => match st with
  | .int i :: .ref a :: st' => (kd a = 96 ∨ kd a = 97 ∨ kd a = 98) ∧ vp_in i (mL h (kd a) (ix a)) ∧ K ls (va_rf (mP h (kd a) i.toNatClampNeg (ix a)) :: st') h n1 n2
  | _ => False
theorem in_lt {i : Int32} {n : Nat} (h : vp_in i n) : i.toNatClampNeg < n := Nat.not_le.mp fun q => h (Or.inr q)
theorem s_iaload (C : CX p R s m args c D base nL cc own d) (hd : decode cc pc = .ok (.iaload, 1)) (hk : Sd p l e R s m args below meth c Q D base nL Rl0 (pc + 1) K) : Sd p l e R s m args below meth c Q D base nL Rl0 pc (o_iald K) := by
  intro ls st h n1 n2 ho z1 z2 Rl H locs lsC stC hm hr hv hl hS
  unfold o_iald at ho
  split at ho
  · rename_i i id st'
    obtain ⟨hkd, hin, ho⟩ := ho
    obtain ⟨vs, rfl, hv1⟩ := hv.int'
    obtain ⟨a, vs, rfl, ha, hv2⟩ := hv1.ref'
    by_cases h127 : kd id = 127
    · obtain ⟨scr, g1, g2, g3, g4, g5⟩ := AR.scr hr ha h127
      rw [h127] at hin
      rw [h127] at ho
      exact W.iald (v := .int (mI h 127 i.toNatClampNeg (ix id))) C.1 C.2.1 g1 g2 g3 (by rw [g4]; exact hin) (g5 _ (in_lt hin)) rfl rfl hd (hk _ _ _ _ _ ho z1 z2 Rl H locs lsC _ hm hr ⟨rfl, hv2⟩ hl hS)
    · have hk8 : 8 ≤ kd id ∧ kd id < 80 := hkd.resolve_right h127
      obtain ⟨V, g1, g2, -⟩ := AR.at hr ha hk8.1 h127
      have g3 := g2 _ (in_lt hin)
      rw [mV_i h _ _ hkd] at g3
      exact W.iald (v := V i.toNatClampNeg) C.1 C.2.1 g1 (C.2.2.2.2.2.1.arr hk8.1 (tyK_i 0 hkd) _ _) (fun q => by cases q) (by rw [arrV_size]; exact hin) (by rw [arrV_read _ _ (in_lt hin)]) rfl rfl hd (hk _ _ _ _ _ ho z1 z2 Rl H locs lsC _ hm hr ⟨g3, hv2⟩ hl hS)
  · exact ho.elim
theorem s_baload (C : CX p R s m args c D base nL cc own d) (hd : decode cc pc = .ok (.baload, 1)) (hk : Sd p l e R s m args below meth c Q D base nL Rl0 (pc + 1) K) : Sd p l e R s m args below meth c Q D base nL Rl0 pc (o_bald K) := by
  intro ls st h n1 n2 ho z1 z2 Rl H locs lsC stC hm hr hv hl hS
  unfold o_bald at ho
  split at ho
  · rename_i i id st'
    obtain ⟨hkd, hin, ho⟩ := ho
    obtain ⟨vs, rfl, hv1⟩ := hv.int'
    obtain ⟨a, vs, rfl, ha, hv2⟩ := hv1.ref'
    obtain ⟨V, g1, g2, -⟩ := AR.at hr ha (by omega) (by omega)
    have g3 := g2 _ (in_lt hin)
    rw [mV_z h _ _ hkd] at g3
    exact W.zald (v := V i.toNatClampNeg) C.1 C.2.1 g1 (C.2.2.2.2.2.1.arr (by omega) (tyK_z 0 hkd) _ _) (fun q => by cases q) (by rw [arrV_size]; exact hin) (by rw [arrV_read _ _ (in_lt hin)]) rfl rfl hd (hk _ _ _ _ _ ho z1 z2 Rl H locs lsC _ hm hr ⟨g3, hv2⟩ hl hS)
  · exact ho.elim
theorem s_laload (C : CX p R s m args c D base nL cc own d) (hd : decode cc pc = .ok (.laload, 1)) (hk : Sd p l e R s m args below meth c Q D base nL Rl0 (pc + 1) K) : Sd p l e R s m args below meth c Q D base nL Rl0 pc (o_lald K) := by
  intro ls st h n1 n2 ho z1 z2 Rl H locs lsC stC hm hr hv hl hS
  unfold o_lald at ho
  split at ho
  · rename_i i id st'
    obtain ⟨hkd, hin, ho⟩ := ho
    obtain ⟨vs, rfl, hv1⟩ := hv.int'
    obtain ⟨a, vs, rfl, ha, hv2⟩ := hv1.ref'
    obtain ⟨V, g1, g2, -⟩ := AR.at hr ha (by omega) (by omega)
    have g3 := g2 _ (in_lt hin)
    rw [mV_l h _ _ hkd] at g3
    exact W.lald (v := V i.toNatClampNeg) C.1 C.2.1 g1 (C.2.2.2.2.2.1.arr (by omega) (tyK_l 0 hkd) _ _) (fun q => by cases q) (by rw [arrV_size]; exact hin) (by rw [arrV_read _ _ (in_lt hin)]) rfl rfl hd (hk _ _ _ _ _ ho z1 z2 Rl H locs lsC _ hm hr ⟨g3, hv2⟩ hl hS)
  · exact ho.elim
theorem s_aaload (C : CX p R s m args c D base nL cc own d) (hd : decode cc pc = .ok (.aaload, 1)) (hk : Sd p l e R s m args below meth c Q D base nL Rl0 (pc + 1) K) : Sd p l e R s m args below meth c Q D base nL Rl0 pc (o_aald K) := by
  intro ls st h n1 n2 ho z1 z2 Rl H locs lsC stC hm hr hv hl hS
  unfold o_aald at ho
  split at ho
  · rename_i i id st'
    obtain ⟨hkd, hin, ho⟩ := ho
    obtain ⟨vs, rfl, hv1⟩ := hv.int'
    obtain ⟨a, vs, rfl, ha, hv2⟩ := hv1.ref'
    obtain ⟨V, g1, g2, -⟩ := AR.at hr ha (by omega) (by omega)
    have g3 := g2 _ (in_lt hin)
    rw [mV_p h _ _ hkd] at g3
    have hty : tyK (kd id) 0 = .object RX5 ∨ tyK (kd id) 0 = .object RX3 ∨ tyK (kd id) 0 = .object RX1 := by
      rcases hkd with q | q | q <;> rw [q]
      · exact Or.inl rfl
      · exact Or.inr (Or.inl rfl)
      · exact Or.inr (Or.inr rfl)
    rcases hty with q | q | q <;>
    exact W.aald (v := V i.toNatClampNeg) C.1 C.2.1 g1 (C.2.2.2.2.2.1.arr (by omega) q _ _) rfl (fun q => by cases q) (by rw [arrV_size]; exact hin) (by rw [arrV_read _ _ (in_lt hin)]) rfl rfl hd (hk _ _ _ _ _ ho z1 z2 Rl H locs lsC _ hm hr ⟨g3, hv2⟩ hl hS)
  · exact ho.elim
def o_alen (K : KT) : KT := fun ls st h n1 n2 => match st with
  | .ref a :: st' => 8 ≤ kd a ∧ K ls (.int (Int32.ofNat (mL h (kd a) (ix a))) :: st') h n1 n2
  | _ => False
theorem s_alen (C : CX p R s m args c D base nL cc own d) (hd : decode cc pc = .ok (.arraylength, 1)) (hk : Sd p l e R s m args below meth c Q D base nL Rl0 (pc + 1) K) : Sd p l e R s m args below meth c Q D base nL Rl0 pc (o_alen K) := by
  intro ls st h n1 n2 ho z1 z2 Rl H locs lsC stC hm hr hv hl hS
  unfold o_alen at ho
  split at ho
  · rename_i id st'
    obtain ⟨hkd, ho⟩ := ho
    obtain ⟨a, vs, rfl, ha, hv1⟩ := hv.ref'
    by_cases h127 : kd id = 127
    · obtain ⟨scr, g1, g2, g3, g4, g5⟩ := AR.scr hr ha h127
      rw [h127] at ho
      exact W.alen (n := Int32.ofNat (mL h 127 (ix id))) C.1 C.2.1 g1 g2 (by rw [g4] <;> rfl) rfl rfl hd (hk _ _ _ _ _ ho z1 z2 Rl H locs lsC _ hm hr ⟨rfl, hv1⟩ hl hS)
    · obtain ⟨V, g1, g2, -⟩ := AR.at hr ha hkd h127
      exact W.alen (n := Int32.ofNat (mL h (kd id) (ix id))) C.1 C.2.1 g1 (C.2.2.2.2.2.1.arr hkd rfl _ _) (by rw [arrV_size] <;> rfl) rfl rfl hd (hk _ _ _ _ _ ho z1 z2 Rl H locs lsC _ hm hr ⟨rfl, hv1⟩ hl hS)
  · exact ho.elim
theorem ast_core {Rl : Nat → Nat → Prop} {h h' : HP} {H H1 : Heap} {id a j n1 n2 : Nat} {vA vC : Value} {V : Nat → Value} {locs : List Loc} (hr : HR D Rl base s h H) (ha : Rl id a) (hkd : 8 ≤ kd id) (h127 : kd id ≠ 127) (hS : va_S (fun q => base ≤ q) s.heap H locs) (hb : base ≤ a)
    (hV : ∀ x, x < mL h (kd id) (ix id) → VR Rl (mV h (kd id) x (ix id)) (V x)) (hv : VR Rl vA vC) (e1 : H1[a]? = some ((arrV (D.2.2 (kd id)) (mL h (kd id) (ix id)) V).setSlot j vC)) (e2 : H1.size = H.size) (e3 : ∀ q, q ≠ a → H1[q]? = H[q]?)
    (hA : ∀ k j, mA h' k j = mA h k j) (hs : ∀ x j, ¬ (x = kd id ∧ j = ix id) → mL h' x j = mL h x j ∧ ∀ y, mI h' x y j = mI h x y j ∧ mJ h' x y j = mJ h x y j ∧ mP h' x y j = mP h x y j) (hL : mL h' (kd id) (ix id) = mL h (kd id) (ix id))
    (h1 : mV h' (kd id) j (ix id) = vA) (h2 : ∀ x, x ≠ j → mV h' (kd id) x (ix id) = mV h (kd id) x (ix id)) : HR D Rl base s h' H1 ∧ va_S (fun q => base ≤ q) s.heap H1 (locs ++ [⟨a, j⟩]) := by
  refine ⟨hr.wr ha e3 hA hs ?_, hS.put e2 e3 hb⟩
  unfold CRel
  rw [if_neg (by omega), if_neg h127, hL]
  refine ⟨updV V j vC, by rw [e1, arrV_store], fun x hx => ?_⟩
  by_cases hxi : x = j
  · subst hxi
    rw [h1]
    simp only [updV, if_true]
    exact hv
  · rw [h2 x hxi]
    simp only [updV, if_neg hxi]
    exact hV x hx
def o_iast (K : KT) : KT := fun ls st h n1 n2 => match st with
  | .int x :: .int i :: .ref a :: st' => (8 ≤ kd a ∧ kd a < 80) ∧ vp_in i (mL h (kd a) (ix a)) ∧ K ls st' (wI h (kd a) i.toNatClampNeg (ix a) x) n1 n2
  | _ => False
def o_bast (K : KT) : KT := fun ls st h n1 n2 => match st with
  | .int x :: .int i :: .ref a :: st' => (x = 0 ∨ x = 1) ∧ (80 ≤ kd a ∧ kd a < 88) ∧ vp_in i (mL h (kd a) (ix a)) ∧ K ls st' (wI h (kd a) i.toNatClampNeg (ix a) x) n1 n2
  | _ => False
def o_last (K : KT) : KT := fun ls st h n1 n2 => match st with
  | .long x :: .int i :: .ref a :: st' => (88 ≤ kd a ∧ kd a < 96) ∧ vp_in i (mL h (kd a) (ix a)) ∧ K ls st' (wJ h (kd a) i.toNatClampNeg (ix a) x) n1 n2
  | _ => False
def o_aast (K : KT) : KT := fun ls st h n1 n2 => match st with
  | .ref b :: .int i :: .ref a :: st' => (kd a = 96 ∧ kd b = 5 ∨ kd a = 97 ∧ kd b = 3 ∨ kd a = 98 ∧ kd b = 1) ∧ vp_in i (mL h (kd a) (ix a)) ∧ K ls st' (wP h (kd a) i.toNatClampNeg (ix a) (some b)) n1 n2
  | _ => False
theorem s_iastore (C : CX p R s m args c D base nL cc own d) (hd : decode cc pc = .ok (.iastore, 1)) (hk : Sd p l e R s m args below meth c Q D base nL Rl0 (pc + 1) K) : Sd p l e R s m args below meth c Q D base nL Rl0 pc (o_iast K) := by
  intro ls st h n1 n2 ho z1 z2 Rl H locs lsC stC hm hr hv hl hS
  unfold o_iast at ho
  split at ho
  · rename_i x i id st'
    obtain ⟨hkd, hin, ho⟩ := ho
    obtain ⟨vs, rfl, hv1⟩ := hv.int'
    obtain ⟨vs, rfl, hv2⟩ := hv1.int'
    obtain ⟨a, vs, rfl, ha, hv3⟩ := hv2.ref'
    obtain ⟨V, g1, g2, hb⟩ := AR.at hr ha hkd.1 (by omega)
    refine W.iast C.1 C.2.1 g1 (C.2.2.2.2.2.1.arr hkd.1 (tyK_i 0 (Or.inl hkd)) _ _) (fun q => by cases q) (by rw [arrV_size]; exact hin) rfl rfl hd fun H1 e1 e2 e3 => ?_
    obtain ⟨g3, g4⟩ := ast_core (n1 := n1) (n2 := n2) (vA := .int x) (h' := wI h (kd id) i.toNatClampNeg (ix id) x) hr ha hkd.1 (by omega) hS hb g2 rfl e1 e2 e3 (fun _ _ => rfl) wI_off rfl (by rw [mV_i _ _ _ (Or.inl hkd)]; simp only [mI_wI, and_self, if_true]) wI_oth
    exact hk _ _ _ _ _ ho z1 z2 Rl H1 _ lsC _ hm g3 hv3 hl g4
  · exact ho.elim
theorem s_bastore (C : CX p R s m args c D base nL cc own d) (hd : decode cc pc = .ok (.bastore, 1)) (hk : Sd p l e R s m args below meth c Q D base nL Rl0 (pc + 1) K) : Sd p l e R s m args below meth c Q D base nL Rl0 pc (o_bast K) := by
  intro ls st h n1 n2 ho z1 z2 Rl H locs lsC stC hm hr hv hl hS
  unfold o_bast at ho
  split at ho
  · rename_i x i id st'
    obtain ⟨h01, hkd, hin, ho⟩ := ho
    obtain ⟨vs, rfl, hv1⟩ := hv.int'
    obtain ⟨vs, rfl, hv2⟩ := hv1.int'
    obtain ⟨a, vs, rfl, ha, hv3⟩ := hv2.ref'
    obtain ⟨V, g1, g2, hb⟩ := AR.at hr ha (by omega) (by omega)
    refine W.zast C.1 C.2.1 g1 (C.2.2.2.2.2.1.arr (by omega) (tyK_z 0 hkd) _ _) (fun q => by cases q) (by rw [arrV_size]; exact hin) rfl rfl hd fun H1 e1 e2 e3 => ?_
    have e1' : H1[a]? = some ((arrV (D.2.2 (kd id)) (mL h (kd id) (ix id)) V).setSlot i.toNatClampNeg (.int x)) := by
      rw [e1]
      rcases h01 with rfl | rfl <;> rfl
    obtain ⟨g3, g4⟩ := ast_core (n1 := n1) (n2 := n2) (vA := .int x) (h' := wI h (kd id) i.toNatClampNeg (ix id) x) hr ha (by omega) (by omega) hS hb g2 rfl e1' e2 e3 (fun _ _ => rfl) wI_off rfl (by rw [mV_z _ _ _ hkd]; simp only [mI_wI, and_self, if_true]) wI_oth
    exact hk _ _ _ _ _ ho z1 z2 Rl H1 _ lsC _ hm g3 hv3 hl g4
  · exact ho.elim
theorem s_lastore (C : CX p R s m args c D base nL cc own d) (hd : decode cc pc = .ok (.lastore, 1)) (hk : Sd p l e R s m args below meth c Q D base nL Rl0 (pc + 1) K) : Sd p l e R s m args below meth c Q D base nL Rl0 pc (o_last K) := by
  intro ls st h n1 n2 ho z1 z2 Rl H locs lsC stC hm hr hv hl hS
  unfold o_last at ho
  split at ho
  · rename_i x i id st'
    obtain ⟨hkd, hin, ho⟩ := ho
    obtain ⟨vs, rfl, hv1⟩ := hv.long'
    obtain ⟨vs, rfl, hv2⟩ := hv1.int'
    obtain ⟨a, vs, rfl, ha, hv3⟩ := hv2.ref'
    obtain ⟨V, g1, g2, hb⟩ := AR.at hr ha (by omega) (by omega)
    refine W.last C.1 C.2.1 g1 (C.2.2.2.2.2.1.arr (by omega) (tyK_l 0 hkd) _ _) (fun q => by cases q) (by rw [arrV_size]; exact hin) rfl rfl hd fun H1 e1 e2 e3 => ?_
    obtain ⟨g3, g4⟩ := ast_core (n1 := n1) (n2 := n2) (vA := .long x) (h' := wJ h (kd id) i.toNatClampNeg (ix id) x) hr ha (by omega) (by omega) hS hb g2 rfl e1 e2 e3 (fun _ _ => rfl) wJ_off rfl (by rw [mV_l _ _ _ hkd]; simp only [mJ_wJ, and_self, if_true]) wJ_oth
    exact hk _ _ _ _ _ ho z1 z2 Rl H1 _ lsC _ hm g3 hv3 hl g4
  · exact ho.elim
theorem aast_ok (C : CX p R s m args c D base nL cc own d) {Rl : Nat → Nat → Prop} {h : HP} {H : Heap} {ka kb b v : Nat} {RX : String} {TX : u_T} {N : Nat} (hr : HR D Rl base s h H) (hb : Rl b v) (hkb : kd b = kb) (hk8 : kb < 8) (hcl : vwCl[kb]? = some (RX, TX, N)) (hka : 8 ≤ ka) (hty : tyK ka 0 = .object RX) :
    ∃ (kA kC : Class) (comp : ClassId) (cv : Cell), s.vm.classes[D.2.2 ka]? = some kA ∧ kA.kind = .array comp (.object RX) ∧ s.vm.classes[comp]? = some kC ∧ H[v]? = some cv ∧ (∀ q, cv.vm ≠ .statics q) ∧ s.vm.classes[cv.cls]? = some kC ∧ s.vm.assignable cv.cls comp = true := by
  obtain ⟨hA, -, h3⟩ := hr.2.2 b v hb
  obtain ⟨V, ⟨cell, q1, q2, q3, -⟩, -, -⟩ := AL.obj hr hb (k := kb) ⟨hkb, by rw [← hkb]; exact hA⟩ hk8
  have hcls := (C.2.2.2.2.2.1.1.1 kb _ hcl).2
  have h5 := (C.2.2.2.2.2.1.2.1 ka hka).2
  rw [hty] at h5
  obtain ⟨kA, comp, k1, k2, k3, -⟩ := h5
  have hcomp : comp = D.1 kb := Option.some.inj (k3.symm.trans hcls.1)
  subst hcomp
  obtain ⟨kC, hkC, -⟩ := id hcls.2
  exact ⟨kA, kC, _, cell, k1, k2, hkC, q1, (fun q h => by rw [q3] at h; cases h), (by rw [q2]; exact hkC), (by rw [q2]; exact va_assign hcls)⟩
theorem s_aastore (C : CX p R s m args c D base nL cc own d) (hd : decode cc pc = .ok (.aastore, 1)) (hk : Sd p l e R s m args below meth c Q D base nL Rl0 (pc + 1) K) : Sd p l e R s m args below meth c Q D base nL Rl0 pc (o_aast K) := by
  intro ls st h n1 n2 ho z1 z2 Rl H locs lsC stC hm hr hv hl hS
  unfold o_aast at ho
  split at ho
  · rename_i b i id st'
    obtain ⟨hkd, hin, ho⟩ := ho
    obtain ⟨v, vs, rfl, hb, hv1⟩ := hv.ref'
    obtain ⟨vs, rfl, hv2⟩ := hv1.int'
    obtain ⟨a, vs, rfl, ha, hv3⟩ := hv2.ref'
    have hp : kd id = 96 ∨ kd id = 97 ∨ kd id = 98 := by omega
    obtain ⟨V, g1, g2, hba⟩ := AR.at hr ha (by omega) (by omega)
    have key : ∃ (RX : String) (kA kC : Class) (comp : ClassId) (cv : Cell), s.vm.classes[D.2.2 (kd id)]? = some kA ∧ kA.kind = .array comp (.object RX) ∧ s.vm.classes[comp]? = some kC ∧ H[v]? = some cv ∧ (∀ q, cv.vm ≠ .statics q) ∧ s.vm.classes[cv.cls]? = some kC ∧ s.vm.assignable cv.cls comp = true := by
      rcases hkd with ⟨e1, e2⟩ | ⟨e1, e2⟩ | ⟨e1, e2⟩
      · exact ⟨RX5, aast_ok C hr hb e2 (by omega) (RX := RX5) rfl (by omega) (by rw [e1]; rfl)⟩
      · exact ⟨RX3, aast_ok C hr hb e2 (by omega) (RX := RX3) rfl (by omega) (by rw [e1]; rfl)⟩
      · exact ⟨RX1, aast_ok C hr hb e2 (by omega) (RX := RX1) rfl (by omega) (by rw [e1]; rfl)⟩
    obtain ⟨RX, kA, kC, comp, cv, k1, k2, k3, k4, k5, k6, k7⟩ := key
    refine W.aast C.1 C.2.1 g1 (fun q h => by cases h) (fun h => by cases h) k1 k2 rfl k3 ⟨fun q => hin (Or.inl q), by rw [arrV_size]; exact in_lt hin⟩ k4 k5 k6 k7 rfl rfl hd fun H1 e1 e2 e3 => ?_
    obtain ⟨g3, g4⟩ := ast_core (n1 := n1) (n2 := n2) (vA := .ref b) (vC := .ref v) (h' := wP h (kd id) i.toNatClampNeg (ix id) (some b)) hr ha (by omega) (by omega) hS hba g2 ⟨v, rfl, hb⟩ e1 e2 e3 (fun _ _ => rfl) wP_off rfl (by rw [mV_p _ _ _ hp]; simp only [mP_wP, and_self, if_true]; rfl) wP_oth
    exact hk _ _ _ _ _ ho z1 z2 Rl H1 _ lsC _ hm g3 hv3 hl g4
  · exact ho.elim
end ZHEAP
end
section
/-! New cells, calls, ends -/
section ZCALL
variable {p : Program} {l : Launch} {e : Env} {R : Room} {s : State} {m : MethodId} {args : Array Value} {below : List Frame} {meth : Method} {c : Code} {Q : State → Prop} {D : DD} {base nL : Nat} {Rl0 : Nat → Nat → Prop} {cc : ByteArray} {own : String} {d pc : Nat} {K : KT}
theorem wN_off {h : HP} {k j n : Nat} : ∀ a c, ¬ (a = k ∧ c = j) → mL (wN h k j n) a c = mL h a c ∧ ∀ y, mI (wN h k j n) a y c = mI h a y c ∧ mJ (wN h k j n) a y c = mJ h a y c ∧ mP (wN h k j n) a y c = mP h a y c := fun a c hn => ⟨by rw [mL_wN, if_neg hn], fun y => ⟨by rw [mI_wN, if_neg hn], by rw [mJ_wN, if_neg hn], by rw [mP_wN, if_neg hn]⟩⟩
def okT (t : FieldType) : Bool := match t with
  | .float => false
  | .double => false
  | _ => true
theorem mV_new {Rl : Nat → Nat → Prop} {h : HP} {k i j n : Nat} (ht : okT (tyK k i) = true) : VR Rl (mV (wN h k j n) k i j) (defaultValue (tyK k i)) := by
  unfold mV
  simp only [mI_wN, mJ_wN, mP_wN, and_self, if_true]
  cases hq : tyK k i <;> rw [hq] at ht <;> first | rfl | cases ht
/-- room for what is made: MC cells, MS slots in all -/
def o_new (MC MS k N : Nat) (K : KT) : KT := fun ls st h n1 n2 => n1 + 1 ≤ MC ∧ n2 + N ≤ MS ∧ ∃ j, mA h k j = false ∧ K ls (.ref (ob k j) :: st) (wN h k j 0) (n1 + 1) (n2 + N)
theorem s_new (C : CX p R s m args c D base nL cc own d) {MC MS : Nat} (hMC : R.cells = MC) (hMS : R.slots = MS) {k N idx : Nat} {RX : String} {TX : u_T} {ty : Nat → FieldType} (hT : CT k RX TX ty N) (hok : ∀ x, x < N → okT (ty x) = true) (hw : Cond.classLink own idx RX ∈ TB) (hw2 : Cond.instantiable RX N ∈ TB) (hw3 : Cond.initialized RX ∈ TB) (hd : decode cc pc = .ok (.new idx, 3)) (hk : Sd p l e R s m args below meth c Q D base nL Rl0 (pc + 3) K) : Sd p l e R s m args below meth c Q D base nL Rl0 pc (o_new MC MS k N K) := by
  intro ls st h n1 n2 ⟨r1, r2, j, hj, ho⟩ z1 z2 Rl H locs lsC stC hm hr hv hl hS
  obtain ⟨hc, hin, hk8, hN, hty, hnm, htk⟩ := hT
  have hKn := C.2.2.2.2.2.1.1.1 k _ hc
  have hb : base ≤ H.size := Nat.le_trans C.2.2.2.2.2.2.1 hS.1
  refine W.newcK C.1 C.2.1 C.2.2.2.1 (C.2.2.2.2.1 _ hw) (C.2.2.2.2.1 _ hw2) (C.2.2.2.2.1 _ hw3) rfl hd (by omega) (by omega) hKn.2.1 rfl fun H1 kC hkC e1 z o1 => ?_
  have hC : CRel D (fun i a => Rl i a ∨ (i = ob k j ∧ a = H.size)) s (wN h k j 0) k j H.size H1 := by
    unfold CRel
    rw [if_pos hk8, hN]
    refine ⟨_, u_born ty C.2.2.2.2.1 hin hKn hkC e1 hty, fun x hx => ?_⟩
    rw [← htk x]
    exact mV_new (by rw [htk x]; exact hok x hx)
  have hr' := hr.al (k := k) (j := j) (by omega) (by omega) hj hb o1 (fun _ _ => rfl) wN_off hC
  exact hk _ _ _ _ _ ho (by omega) (by omega) _ H1 locs lsC _ (fun i a q => Or.inl (hm i a q)) hr' ⟨⟨H.size, rfl, Or.inr ⟨rfl, rfl⟩⟩, hv.mono (fun _ _ q => Or.inl q)⟩ (hl.mono (fun _ _ q => Or.inl q)) ⟨Nat.le_trans hS.1 (by omega), fun x h1 h2 => (o1 x (Nat.lt_of_lt_of_le h1 hS.1)).trans (hS.2.1 x h1 h2), hS.2.2⟩
def o_newa (MC MS k : Nat) (K : KT) : KT := fun ls st h n1 n2 => match st with
  | .int n :: st' => ¬ n < 0 ∧ n.toNatClampNeg ≤ 10000 ∧ n1 + 1 ≤ MC ∧ n2 + n.toNatClampNeg ≤ MS ∧ ∃ j, mA h k j = false ∧ K ls (.ref (ob k j) :: st') (wN h k j n.toNatClampNeg) (n1 + 1) (n2 + n.toNatClampNeg)
  | _ => False
theorem arr_new {Rl : Nat → Nat → Prop} {h : HP} {H H1 : Heap} {k j n : Nat} {ty : FieldType} (hr : HR D Rl base s h H) (hk8 : 8 ≤ k) (hk : k < 127) (hty : tyK k 0 = ty) (hok : okT ty = true) (hj : mA h k j = false) (hb : base ≤ H.size) (e1 : H1[H.size]? = some (arrV (D.2.2 k) n (fun _ => defaultValue ty))) (o1 : ∀ q, q < H.size → H1[q]? = H[q]?) :
    HR D (fun i a => Rl i a ∨ (i = ob k j ∧ a = H.size)) base s (wN h k j n) H1 := by
  refine hr.al (k := k) (j := j) (by omega) (by omega) hj hb o1 (fun _ _ => rfl) wN_off ?_
  unfold CRel
  rw [if_neg (by omega), if_neg (by omega)]
  refine ⟨fun _ => defaultValue ty, ?_, fun x hx => ?_⟩
  · rw [mL_wN, if_pos ⟨rfl, rfl⟩]
    exact e1
  · have e2 : tyK k x = ty := (tyK_j x 0 hk8).trans hty
    rw [← e2]
    exact mV_new (by rw [e2]; exact hok)
theorem s_newa (C : CX p R s m args c D base nL cc own d) {MC MS : Nat} (hMC : R.cells = MC) (hMS : R.slots = MS) {k : Nat} {atype : ArrayType} (hk8 : 8 ≤ k) (hk127 : k < 96) (hty : tyK k 0 = newarray.typeOf atype) (hok : okT (newarray.typeOf atype) = true) (hw : Cond.arrayClass (newarray.typeOf atype) ∈ TB) (hd : decode cc pc = .ok (.newarray atype, 2)) (hk : Sd p l e R s m args below meth c Q D base nL Rl0 (pc + 2) K) : Sd p l e R s m args below meth c Q D base nL Rl0 pc (o_newa MC MS k K) := by
  intro ls st h n1 n2 ho z1 z2 Rl H locs lsC stC hm hr hv hl hS
  unfold o_newa at ho
  split at ho
  · rename_i n st'
    obtain ⟨hn, hn2, r1, r2, j, hj, ho⟩ := ho
    obtain ⟨vs, rfl, hv1⟩ := hv.int'
    have hb : base ≤ H.size := Nat.le_trans C.2.2.2.2.2.2.1 hS.1
    refine va_newaK C.1 C.2.1 (C.2.2.2.2.1 _ hw) rfl hd rfl hn rfl ?_ (by omega) (by omega) rfl fun H1 cA e1 z o1 hAr hNm => ?_
    · cases atype <;> simp only [newarray.typeOf, componentBytes] <;> omega
    · have h5 := (C.2.2.2.2.2.1.2.1 k hk8).2
      rw [hty] at h5
      have hcA : cA = D.2.2 k := by
        have h6 : s.vm.findClass ("[" ++ (newarray.typeOf atype).toString) = some (D.2.2 k) := by cases atype <;> exact h5
        exact Option.some.inj (hNm.symm.trans h6)
      subst hcA
      have hr' := arr_new hr hk8 (by omega) hty hok hj hb e1 o1
      exact hk _ _ _ _ _ ho (by omega) (by omega) _ H1 locs lsC _ (fun i a q => Or.inl (hm i a q)) hr' ⟨⟨H.size, rfl, Or.inr ⟨rfl, rfl⟩⟩, hv1.mono (fun _ _ q => Or.inl q)⟩ (hl.mono (fun _ _ q => Or.inl q)) ⟨Nat.le_trans hS.1 (by omega), fun x h1 h2 => (o1 x (Nat.lt_of_lt_of_le h1 hS.1)).trans (hS.2.1 x h1 h2), hS.2.2⟩
  · exact ho.elim
theorem s_newr (C : CX p R s m args c D base nL cc own d) {MC MS : Nat} (hMC : R.cells = MC) (hMS : R.slots = MS) {k idx : Nat} {RX : String} (hk8 : 8 ≤ k) (hk127 : k < 127) (hty : tyK k 0 = .object RX) (hRX : RX ∈ [RX5, RX3, RX1]) (hw : Cond.classLink own idx RX ∈ TB) (hd : decode cc pc = .ok (.anewarray idx, 3)) (hk : Sd p l e R s m args below meth c Q D base nL Rl0 (pc + 3) K) : Sd p l e R s m args below meth c Q D base nL Rl0 pc (o_newa MC MS k K) := by
  intro ls st h n1 n2 ho z1 z2 Rl H locs lsC stC hm hr hv hl hS
  unfold o_newa at ho
  split at ho
  · rename_i n st'
    obtain ⟨hn, hn2, r1, r2, j, hj, ho⟩ := ho
    obtain ⟨vs, rfl, hv1⟩ := hv.int'
    have hb : base ≤ H.size := Nat.le_trans C.2.2.2.2.2.2.1 hS.1
    refine W.anew C.1 C.2.1 C.2.2.2.1 (C.2.2.2.2.1 _ hw) (va_AO.use (C.2.2.2.2.2.1.2.2.2 RX hRX)) rfl hd rfl hn (by omega) (by omega) (by omega) fun cA kA comp f1 f2 f3 f4 => ?_
    have h5 := (C.2.2.2.2.2.1.2.1 k hk8).2
    rw [hty] at h5
    obtain ⟨kA', comp', -, -, -, h6⟩ := h5
    have hcA : cA = D.2.2 k := Option.some.inj (f1.symm.trans h6)
    subst hcA
    generalize hH1 : H.push ({ cls := D.2.2 k, slots := Array.replicate n.toNatClampNeg .null, vm := .none } : Cell) = H1
    have z1 : H1.size = H.size + 1 := by rw [← hH1, Array.size_push]
    have e1 : H1[H.size]? = some (arrV (D.2.2 k) n.toNatClampNeg (fun _ => .null)) := by rw [← hH1, Array.getElem?_push_size, ← arrV_new]
    have o1 : ∀ q : Nat, q < H.size → H1[q]? = H[q]? := fun q hq => by rw [← hH1, Array.getElem?_push, if_neg (Nat.ne_of_lt hq)]
    have hr' := arr_new (n := n.toNatClampNeg) hr hk8 hk127 hty rfl hj hb e1 o1
    exact hk _ _ _ _ _ ho (by omega) (by omega) _ H1 locs lsC _ (fun i a q => Or.inl (hm i a q)) hr' ⟨⟨H.size, rfl, Or.inr ⟨rfl, rfl⟩⟩, hv1.mono (fun _ _ q => Or.inl q)⟩ (hl.mono (fun _ _ q => Or.inl q)) ⟨Nat.le_trans hS.1 (by omega), fun x h1 h2 => (o1 x (Nat.lt_of_lt_of_le h1 hS.1)).trans (hS.2.1 x h1 h2), hS.2.2⟩
  · exact ho.elim
/-- Object's constructor -/
def o_obj (K : KT) : KT := fun ls st h n1 n2 => match st with
  | .ref _ :: st' => st'.length ≤ 4 ∧ K ls st' h n1 n2
  | _ => False
theorem cat_le : ∀ (l : List Value), (l.map fun v => v.category).sum ≤ 2 * l.length
  | [] => by simp
  | v :: l => by
    have h1 := cat_le l
    have h2 : v.category ≤ 2 := by rcases lv_cat v with q | q <;> omega
    simp only [List.map_cons, List.sum_cons, List.length_cons]
    omega
theorem s_obj (C : CX p R s m args c D base nL cc own d) {idx : Nat} (hw : Cond.methodLink own idx objectInit ∈ TB) (hw2 : Cond.instanceMethod objectInit ∈ TB) (hw3 : Cond.code objectInit ⟨#[0xb1]⟩ 1 none ∈ TB) (hd : decode cc pc = .ok (.invokespecial idx, 3)) (hk : Sd p l e R s m args below meth c Q D base nL Rl0 (pc + 3) K) : Sd p l e R s m args below meth c Q D base nL Rl0 pc (o_obj K) := by
  intro ls st h n1 n2 ho z1 z2 Rl H locs lsC stC hm hr hv hl hS
  unfold o_obj at ho
  split at ho
  · rename_i id st'
    obtain ⟨hlen, ho⟩ := ho
    obtain ⟨a, vs, rfl, ha, hv1⟩ := hv.ref'
    have h1 : vs.length = st'.length := hv1.len
    have h2 := cat_le vs
    refine W.objInit C.1 C.2.1 C.2.2.2.1 (C.2.2.2.2.1 _ hw) (C.2.2.2.2.1 _ hw2) (C.2.2.2.2.1 _ hw3) rfl (by rw [C.2.2.1]; exact hl.1) rfl hd (by have := C.2.2.2.2.2.2.2.1; omega) ?_ (W.eq (g2 := F0 m (pc + 3) lsC vs) rfl (hk _ _ _ _ _ ho z1 z2 Rl H locs lsC _ hm hr hv1 hl hS))
    show 2 * 0 + _ + 12 ≤ R.locals
    have := C.2.2.2.2.2.2.2.2
    omega
  · exact ho.elim
/-- behind a call -/
theorem run_use {Rl : Nat → Nat → Prop} {Qp : List Value → HP → Prop} {a : Array Value} {lsC : Array Slot} {stC restC : List Value} {H : Heap} {locs : List Loc} {n1 n2 mc ms : Nat} (hr : va_Run p l e R s m args below meth c H locs n1 n2 mc ms (F0 m pc lsC stC) restC (QcR D base Rl Qp a) (fun q => base ≤ q)) (hS : va_S (fun q => base ≤ q) s.heap H locs)
    (kk : ∀ (Rl' : Nat → Nat → Prop) (r : List Value) (rC : Option Value) (h' : HP) (H1 : Heap) (locs1 : List Loc), (∀ i a, Rl i a → Rl' i a) → VL Rl' r rC.toList → HR D Rl' base s h' H1 → Qp r h' → va_S (fun q => base ≤ q) s.heap H1 locs1 → W p l e R s m args below meth c H1 locs1 (n1 + mc) (n2 + ms) Q (F0 m (pc + 3) lsC (rC.toList ++ restC))) :
    W p l e R s m args below meth c H locs n1 n2 Q (F0 m pc lsC stC) := by
  intro T hT X
  obtain ⟨v, st₀, t, T', L, h0, X', hL, e1, e2, ⟨⟨Rl', r, rC, h', hmm, ho, hvl, hrr, hq⟩, hz, hk⟩, st⟩ := hr T hT X
  cases ho
  rw [h0] at hz hk
  have hal : t.vm.Alike s.vm := by rw [← e2]; exact X'.warmed.alike.symm
  obtain ⟨t2, a1, b1⟩ := kk Rl' r v h' T'.heap (locs ++ L) hmm hvl (by rw [e1]; exact hrr.moved hal) hq
    ⟨Nat.le_trans hS.1 (by rw [e1]; exact hz), fun q h1 h2 => by rw [e1, hk q (Nat.lt_of_lt_of_le h1 hS.1) h2]; exact hS.2.1 q h1 h2, fun q hq => by
      rcases List.mem_append.mp hq with h | h
      · exact hS.2.2 q h
      · exact hL q h⟩ T' rfl X'
  exact ⟨t2, st t2 a1, b1⟩
/-- calls: of static methods, of methods of an object, of constructors; mc cells and ms slots may come -/
def o_invS (MC MS mc ms : Nat) (Cl : List Value → HP → (List Value → HP → Prop) → Prop) (n : Nat) (K : KT) : KT := fun ls st h n1 n2 => n ≤ st.length ∧ (st.drop n).length ≤ 4 ∧ n1 + mc ≤ MC ∧ n2 + ms ≤ MS ∧ Cl (st.take n).reverse h (fun r h' => K ls (r ++ st.drop n) h' (n1 + mc) (n2 + ms))
def o_invV (MC MS mc ms k : Nat) (Cl : List Value → HP → (List Value → HP → Prop) → Prop) (n : Nat) (K : KT) : KT := fun ls st h n1 n2 => n ≤ st.length ∧ match st.drop n with
  | .ref b :: st' => AL h k b ∧ st'.length ≤ 4 ∧ n1 + mc ≤ MC ∧ n2 + ms ≤ MS ∧ Cl (.ref b :: (st.take n).reverse) h (fun r h' => K ls (r ++ st') h' (n1 + mc) (n2 + ms))
  | _ => False
def o_invI (MC MS mc ms : Nat) (Cl : List Value → HP → (List Value → HP → Prop) → Prop) (n : Nat) (K : KT) : KT := fun ls st h n1 n2 => n ≤ st.length ∧ match st.drop n with
  | .ref b :: st' => st'.length ≤ 4 ∧ n1 + mc ≤ MC ∧ n2 + ms ≤ MS ∧ Cl (.ref b :: (st.take n).reverse) h (fun r h' => K ls (r ++ st') h' (n1 + mc) (n2 + ms))
  | _ => False
theorem CX.fix (C : CX p R s m args c D base nL cc own d) : CallFix p m c cc nL s args TB own := ⟨C.1, C.2.1, C.2.2.1, C.2.2.2.1, C.2.2.2.2.1⟩
theorem TB_wsm {y : MethodName} {cb : ByteArray} {mx : Nat} {ret : Option FieldType} (h5 : Cond.code y cb mx ret ∈ TB) : GoodIn TB (wsm y cb mx ret) := TB_good (fun w hw => by
  rcases List.mem_cons.mp hw with rfl | h
  · exact h5
  · exact h)
theorem pre_of (C : CX p R s m args c D base nL cc own d) {Rl : Nat → Nat → Prop} {h : HP} {H : Heap} {asC : List Value} {locs : List Loc} (hr : HR D Rl base s h H) (hS : va_S (fun q => base ≤ q) s.heap H locs) : PreS s H (PcR D base Rl asC h) asC :=
  ⟨PcR.blind, fun U hU hW => ⟨rfl, by rw [hU]; exact Nat.le_trans C.2.2.2.2.2.2.1 hS.1, C.2.2.2.2.2.1.moved hW, by rw [hU]; exact hr.moved hW.alike⟩⟩
/-- what is the same in all calls: the stack as it stands for n values given -/
theorem stk {Rl : Nat → Nat → Prop} {st stC : List Value} (n : Nat) (hn : n ≤ st.length) (hv : VL Rl st stC) : stC = ((stC.take n).reverse).reverse ++ stC.drop n ∧ ((stC.take n).reverse).length = n ∧ VL Rl (st.take n).reverse (stC.take n).reverse ∧ VL Rl (st.drop n) (stC.drop n) := by
  refine ⟨by rw [List.reverse_reverse, List.take_append_drop], ?_, (hv.take n).rev, hv.drop n⟩
  rw [List.length_reverse, List.length_take, hv.len]
  omega
def CI (y : MethodName) (cb : ByteArray) (mx n : Nat) (ret : Option FieldType) : Prop := (y.cls ≠ "java/lang/invoke/MethodHandle" ∧ y.cls ≠ "java/lang/invoke/VarHandle" ∧ (parseMethodDescriptor y.desc).map (fun d => d.parameters.length) = some n) ∧ mx ≤ 21 ∧ Cond.code y cb mx ret ∈ TB ∧ Cond.initialized y.cls ∈ TB
theorem lnk_s (C : CX p R s m args c D base nL cc own d) {y : MethodName} {cb : ByteArray} {mx n idx mc ms : Nat} {ret : Option FieldType} (hI : CI y cb mx n ret) (hw : Cond.methodLink own idx y ∈ TB) : CallB R s args own idx y cb mx ret (wsm y cb mx ret) (rmk d mc ms) mc ms n :=
  callB_of n C.2.2.2.2.1 (TB_wsm hI.2.2.1) rfl rfl rfl (C.2.2.2.2.1 _ hI.2.2.2) (C.2.2.2.2.1 _ hw) hI.1 ⟨C.2.2.2.2.2.2.2.1, by have h1 := C.2.2.2.2.2.2.2.2; have h2 := hI.2.1; show 8 + (mx + 11) + 40 * d ≤ R.locals; omega⟩
theorem lnk_n (C : CX p R s m args c D base nL cc own d) {y : MethodName} {cb : ByteArray} {mx n idx mc ms : Nat} {ret : Option FieldType} (hI : CI y cb mx n ret) (hw : (own, idx, y) ∈ TN) : va_CN R s args own idx y "TapeHall" cb mx ret (wsm y cb mx ret) (rmk d mc ms) mc ms n :=
  va_cnB n C.2.2.2.2.1 (TB_wsm hI.2.2.1) rfl rfl rfl (C.2.2.2.2.2.1.2.2.1 _ hw) (C.2.2.2.2.1 _ hI.2.2.2) hI.1 ⟨C.2.2.2.2.2.2.2.1, by have h1 := C.2.2.2.2.2.2.2.2; have h2 := hI.2.1; show 8 + (mx + 11) + 40 * d ≤ R.locals; omega⟩
theorem catst {Rl : Nat → Nat → Prop} {st vs : List Value} {lsC : Array Slot} {st2 : List Value} (hv : VL Rl st vs) (h : st.length ≤ 4) : 2 * (F0 m pc lsC st2).monitorRoom + (vs.map fun v => v.category).sum ≤ 8 := lv_room (by
  have h1 := cat_le vs
  have h2 := hv.len
  omega)
theorem s_invS (C : CX p R s m args c D base nL cc own d) {MC MS mc ms : Nat} (hMC : R.cells = MC) (hMS : R.slots = MS) {y : MethodName} {cb : ByteArray} {mx n idx : Nat} {ret : Option FieldType} (hI : CI y cb mx n ret) (hw : Cond.methodLink own idx y ∈ TB) (hst : Cond.static y ∈ TB) (hd : decode cc pc = .ok (.invokestatic idx, 3)) (hk : Sd p l e R s m args below meth c Q D base nL Rl0 (pc + 3) K) : Sd p l e R s m args below meth c Q D base nL Rl0 pc (o_invS MC MS mc ms (Cn l D d y cb mx ret mc ms) n K) := by
  intro ls st h n1 n2 ⟨g1, g2, g3, g4, ho⟩ z1 z2 Rl H locs lsC stC hm hr hv hl hS
  obtain ⟨k1, k2, k3, k4⟩ := stk n g1 hv
  refine run_use (va_runS (As := (stC.take n).reverse) (rest := stC.drop n) C.fix (ho base Rl _ k3) ⟨lnk_s C hI hw, C.2.2.2.2.1 _ hst⟩ (pre_of C hr hS) rfl k2 hl.1 k1 (catst k4 g2) hd (by omega)) hS fun Rl' r rC h' H1 locs1 q1 q2 q3 q4 q5 => ?_
  exact hk _ _ _ _ _ q4 (by omega) (by omega) Rl' H1 locs1 lsC _ (fun i a q => q1 i a (hm i a q)) q3 (q2.app (k4.mono q1)) (hl.mono q1) q5
theorem s_invSN (C : CX p R s m args c D base nL cc own d) {MC MS mc ms : Nat} (hMC : R.cells = MC) (hMS : R.slots = MS) {y : MethodName} {cb : ByteArray} {mx n idx : Nat} {ret : Option FieldType} (hI : CI y cb mx n ret) (hw : (own, idx, y) ∈ TN) (hst : Cond.static y ∈ TB) (hd : decode cc pc = .ok (.invokestatic idx, 3)) (hk : Sd p l e R s m args below meth c Q D base nL Rl0 (pc + 3) K) : Sd p l e R s m args below meth c Q D base nL Rl0 pc (o_invS MC MS mc ms (Cn l D d y cb mx ret mc ms) n K) := by
  intro ls st h n1 n2 ⟨g1, g2, g3, g4, ho⟩ z1 z2 Rl H locs lsC stC hm hr hv hl hS
  obtain ⟨k1, k2, k3, k4⟩ := stk n g1 hv
  refine run_use (va_runSN (As := (stC.take n).reverse) (rest := stC.drop n) C.fix (ho base Rl _ k3) ⟨lnk_n C hI hw, C.2.2.2.2.1 _ hst, trivial⟩ (pre_of C hr hS) rfl k2 hl.1 k1 (catst k4 g2) hd (by omega)) hS fun Rl' r rC h' H1 locs1 q1 q2 q3 q4 q5 => ?_
  exact hk _ _ _ _ _ q4 (by omega) (by omega) Rl' H1 locs1 lsC _ (fun i a q => q1 i a (hm i a q)) q3 (q2.app (k4.mono q1)) (hl.mono q1) q5
theorem s_invV (C : CX p R s m args c D base nL cc own d) {MC MS mc ms : Nat} (hMC : R.cells = MC) (hMS : R.slots = MS) {y : MethodName} {cb : ByteArray} {mx n idx k N : Nat} {ret : Option FieldType} {RX : String} {TX : u_T} {ty : Nat → FieldType} (hT : CT k RX TX ty N) (hyc : y.cls = RX) (hI : CI y cb mx n ret) (hw : Cond.methodLink own idx y ∈ TB) (hin : Cond.instanceMethod y ∈ TB) (hse : Cond.selects RX y y ∈ TB) (hd : decode cc pc = .ok (.invokevirtual idx, 3)) (hk : Sd p l e R s m args below meth c Q D base nL Rl0 (pc + 3) K) : Sd p l e R s m args below meth c Q D base nL Rl0 pc (o_invV MC MS mc ms k (Cn l D d y cb mx ret mc ms) n K) := by
  intro ls st h n1 n2 ⟨g1, ho⟩ z1 z2 Rl H locs lsC stC hm hr hv hl hS
  obtain ⟨k1, k2, k3, k4⟩ := stk n g1 hv
  split at ho
  · rename_i b st' hdr
    obtain ⟨hal, g2, g3, g4, ho⟩ := ho
    rw [hdr] at k4
    obtain ⟨a, vs, hvs, ha, k4⟩ := k4.ref'
    obtain ⟨V, ⟨cell, q1, q2, q3, -⟩, -, -⟩ := hal.obj hr ha hT.2.2.1 (by have := hT.2.2.1; omega)
    have hfc := (C.2.2.2.2.2.1.1.1 k _ hT.1).2.1
    refine run_use (va_runV (As := (stC.take n).reverse) (rest := vs) C.fix (ho base Rl (.ref a :: (stC.take n).reverse) ⟨⟨a, rfl, ha⟩, k3⟩) ⟨lnk_s C hI hw, C.2.2.2.2.1 _ hin, C.2.2.2.2.1 _ hse⟩ ⟨PcR.blind, ⟨cell, q1, by rw [q3]; rfl, by rw [q2]; exact hfc⟩, (pre_of C hr hS).2⟩ rfl k2 hl.1 (by rw [← hvs]; exact k1) (catst k4 g2) hd (by omega)) hS fun Rl' r rC h' H1 locs1 q1 q2 q3 q4 q5 => ?_
    exact hk _ _ _ _ _ q4 (by omega) (by omega) Rl' H1 locs1 lsC _ (fun i a q => q1 i a (hm i a q)) q3 (q2.app (k4.mono q1)) (hl.mono q1) q5
  · exact ho.elim
theorem s_invI (C : CX p R s m args c D base nL cc own d) {MC MS mc ms : Nat} (hMC : R.cells = MC) (hMS : R.slots = MS) {y : MethodName} {cb : ByteArray} {mx n idx : Nat} (hy : y.name = "<init>") (hI : CI y cb mx n none) (hw : Cond.methodLink own idx y ∈ TB) (hin : Cond.instanceMethod y ∈ TB) (hd : decode cc pc = .ok (.invokespecial idx, 3)) (hk : Sd p l e R s m args below meth c Q D base nL Rl0 (pc + 3) K) : Sd p l e R s m args below meth c Q D base nL Rl0 pc (o_invI MC MS mc ms (Cn l D d y cb mx none mc ms) n K) := by
  intro ls st h n1 n2 ⟨g1, ho⟩ z1 z2 Rl H locs lsC stC hm hr hv hl hS
  obtain ⟨k1, k2, k3, k4⟩ := stk n g1 hv
  split at ho
  · rename_i b st' hdr
    obtain ⟨g2, g3, g4, ho⟩ := ho
    rw [hdr] at k4
    obtain ⟨a, vs, hvs, ha, k4⟩ := k4.ref'
    refine run_use (va_runI (As := (stC.take n).reverse) (rest := vs) C.fix (ho base Rl (.ref a :: (stC.take n).reverse) ⟨⟨a, rfl, ha⟩, k3⟩) ⟨lnk_s C hI hw, hy, C.2.2.2.2.1 _ hin⟩ (pre_of C hr hS) rfl k2 hl.1 (by rw [← hvs]; exact k1) (catst k4 g2) hd (by omega)) hS fun Rl' r rC h' H1 locs1 q1 q2 q3 q4 q5 => ?_
    exact hk _ _ _ _ _ q4 (by omega) (by omega) Rl' H1 locs1 lsC _ (fun i a q => q1 i a (hm i a q)) q3 (q2.app (k4.mono q1)) (hl.mono q1) q5
  · exact ho.elim
theorem s_invIN (C : CX p R s m args c D base nL cc own d) {MC MS mc ms : Nat} (hMC : R.cells = MC) (hMS : R.slots = MS) {y : MethodName} {cb : ByteArray} {mx n idx : Nat} (hy : y.name = "<init>") (hI : CI y cb mx n none) (hw : (own, idx, y) ∈ TN) (hin : Cond.instanceMethod y ∈ TB) (hd : decode cc pc = .ok (.invokespecial idx, 3)) (hk : Sd p l e R s m args below meth c Q D base nL Rl0 (pc + 3) K) : Sd p l e R s m args below meth c Q D base nL Rl0 pc (o_invI MC MS mc ms (Cn l D d y cb mx none mc ms) n K) := by
  intro ls st h n1 n2 ⟨g1, ho⟩ z1 z2 Rl H locs lsC stC hm hr hv hl hS
  obtain ⟨k1, k2, k3, k4⟩ := stk n g1 hv
  split at ho
  · rename_i b st' hdr
    obtain ⟨g2, g3, g4, ho⟩ := ho
    rw [hdr] at k4
    obtain ⟨a, vs, hvs, ha, k4⟩ := k4.ref'
    refine run_use (va_runIN (As := (stC.take n).reverse) (rest := vs) C.fix (ho base Rl (.ref a :: (stC.take n).reverse) ⟨⟨a, rfl, ha⟩, k3⟩) ⟨lnk_n C hI hw, hy, C.2.2.2.2.1 _ hin⟩ (pre_of C hr hS) rfl k2 hl.1 (by rw [← hvs]; exact k1) (catst k4 g2) hd (by omega)) hS fun Rl' r rC h' H1 locs1 q1 q2 q3 q4 q5 => ?_
    exact hk _ _ _ _ _ q4 (by omega) (by omega) Rl' H1 locs1 lsC _ (fun i a q => q1 i a (hm i a q)) q3 (q2.app (k4.mono q1)) (hl.mono q1) q5
  · exact ho.elim
/-! ends -/
def o_iret (Qp : List Value → HP → Prop) : KT := fun _ st h _ _ => match st with
  | [.int x] => Qp [.int x] h
  | _ => False
def o_zret (Qp : List Value → HP → Prop) : KT := fun _ st h _ _ => match st with
  | [.int x] => (x = 0 ∨ x = 1) ∧ Qp [.int x] h
  | _ => False
def o_lret (Qp : List Value → HP → Prop) : KT := fun _ st h _ _ => match st with
  | [.long x] => Qp [.long x] h
  | _ => False
def o_aret (Qp : List Value → HP → Prop) : KT := fun _ st h _ _ => match st with
  | [v] => isR v ∧ Qp [v] h
  | _ => False
def o_vret (Qp : List Value → HP → Prop) : KT := fun _ st h _ _ => match st with
  | [] => Qp [] h
  | _ => False
end ZCALL
section ZRET
variable {p : Program} {l : Launch} {e : Env} {s : State} {m : MethodId} {args : Array Value} {below : List Frame} {meth : Method} {c : Code} {D : DD} {base nL : Nat} {Rl0 : Nat → Nat → Prop} {cc : ByteArray} {own : String} {d pc D1 MC MS : Nat} {Qp : List Value → HP → Prop}
theorem qc_of {Rl : Nat → Nat → Prop} {h : HP} {H : Heap} {locs : List Loc} {a : Array Value} {r : List Value} {rC : Option Value} (hm : ∀ i a, Rl0 i a → Rl i a) (hr : HR D Rl base s h H) (hS : va_S (fun q => base ≤ q) s.heap H locs) (hv : VL Rl r rC.toList) (hq : Qp r h) : ∀ t : State, t.heap = H → s.WarmedH t.vm → QcR D base Rl0 Qp a s (.returned rC) t :=
  fun t ht hW => ⟨⟨Rl, r, rC, h, hm, rfl, hv, by rw [ht]; exact hr.moved hW.alike, hq⟩, hS.F ht⟩
abbrev QM (below : List Frame) (D : DD) (base : Nat) (Rl0 : Nat → Nat → Prop) (Qp : List Value → HP → Prop) (args : Array Value) (s : State) (MC MS : Nat) : State → Prop := MQ below (QcR D base Rl0 Qp) args s MC MS (fun q => base ≤ q)
theorem s_iret (C : CX p (rmk D1 MC MS) s m args c D base nL cc own d) (hl0 : meth.locks = false) (ht : meth.sig.returnType = some .int) (hd : decode cc pc = .ok (.ireturn, 1)) : Sd p l e (rmk D1 MC MS) s m args below meth c (QM below D base Rl0 Qp args s MC MS) D base nL Rl0 pc (o_iret Qp) := by
  intro ls st h n1 n2 ho z1 z2 Rl H locs lsC stC hm hr hv hl hS
  unfold o_iret at ho
  split at ho
  · obtain ⟨vs, rfl, hv1⟩ := hv.int'
    rw [hv1.nil']
    exact W.widen (k := MC) (n := MS) z1 z2 (W.iret C.1 C.2.1 ht (qc_of hm hr hS (r := [.int _]) ⟨rfl, trivial⟩ ho) hS.2.2 hd hl0)
  · exact ho.elim
theorem s_zret (C : CX p (rmk D1 MC MS) s m args c D base nL cc own d) (hl0 : meth.locks = false) (ht : meth.sig.returnType = some .boolean) (hd : decode cc pc = .ok (.ireturn, 1)) : Sd p l e (rmk D1 MC MS) s m args below meth c (QM below D base Rl0 Qp args s MC MS) D base nL Rl0 pc (o_zret Qp) := by
  intro ls st h n1 n2 ho z1 z2 Rl H locs lsC stC hm hr hv hl hS
  unfold o_zret at ho
  split at ho
  · obtain ⟨h01, ho⟩ := ho
    obtain ⟨vs, rfl, hv1⟩ := hv.int'
    rw [hv1.nil']
    exact W.widen (k := MC) (n := MS) z1 z2 (W.zret C.1 C.2.1 ht (by rcases h01 with rfl | rfl <;> rfl) (qc_of hm hr hS (r := [.int _]) ⟨rfl, trivial⟩ ho) hS.2.2 hd hl0)
  · exact ho.elim
theorem s_lret (C : CX p (rmk D1 MC MS) s m args c D base nL cc own d) (hl0 : meth.locks = false) (ht : meth.sig.returnType = some .long) (hd : decode cc pc = .ok (.lreturn, 1)) : Sd p l e (rmk D1 MC MS) s m args below meth c (QM below D base Rl0 Qp args s MC MS) D base nL Rl0 pc (o_lret Qp) := by
  intro ls st h n1 n2 ho z1 z2 Rl H locs lsC stC hm hr hv hl hS
  unfold o_lret at ho
  split at ho
  · obtain ⟨vs, rfl, hv1⟩ := hv.long'
    rw [hv1.nil']
    exact W.widen (k := MC) (n := MS) z1 z2 (W.lret C.1 C.2.1 ht (qc_of hm hr hS (r := [.long _]) ⟨rfl, trivial⟩ ho) hS.2.2 hd hl0)
  · exact ho.elim
theorem s_aret (C : CX p (rmk D1 MC MS) s m args c D base nL cc own d) (hl0 : meth.locks = false) {rt : FieldType} (ht : meth.sig.returnType = some rt) (hrt : isRT rt = true) (hd : decode cc pc = .ok (.areturn, 1)) : Sd p l e (rmk D1 MC MS) s m args below meth c (QM below D base Rl0 Qp args s MC MS) D base nL Rl0 pc (o_aret Qp) := by
  intro ls st h n1 n2 ho z1 z2 Rl H locs lsC stC hm hr hv hl hS
  unfold o_aret at ho
  split at ho
  · obtain ⟨hR, ho⟩ := ho
    obtain ⟨vC, vs, rfl, h2, hv1⟩ := hv.cons'
    rw [hv1.nil']
    have h3 : vC = .null ∨ ∃ a, vC = .ref a := by
      rcases h2.isR hR with ⟨-, q⟩ | ⟨_, a, -, q, -⟩
      · exact Or.inl q
      · exact Or.inr ⟨a, q⟩
    have h4 : (∃ n, rt = .object n) ∨ ∃ t, rt = .array t := by
      cases rt with
      | object n => exact Or.inl ⟨n, rfl⟩
      | array t => exact Or.inr ⟨t, rfl⟩
      | _ => cases hrt
    exact W.widen (k := MC) (n := MS) z1 z2 (W.aret C.1 C.2.1 ht h4 h3 (qc_of hm hr hS (r := [_]) (rC := some vC) ⟨h2, trivial⟩ ho) hS.2.2 hd hl0)
  · exact ho.elim
theorem s_vret (C : CX p (rmk D1 MC MS) s m args c D base nL cc own d) (hl0 : meth.locks = false) (ht : meth.sig.returnType = none) (hd : decode cc pc = .ok (.return_, 1)) : Sd p l e (rmk D1 MC MS) s m args below meth c (QM below D base Rl0 Qp args s MC MS) D base nL Rl0 pc (o_vret Qp) := by
  intro ls st h n1 n2 ho z1 z2 Rl H locs lsC stC hm hr hv hl hS
  unfold o_vret at ho
  split at ho
  · rw [hv.nil']
    exact W.widen (k := MC) (n := MS) z1 z2 (W.vret C.1 C.2.1 ht (qc_of hm hr hS (r := []) (rC := none) trivial ho) hS.2.2 hd hl0)
  · exact ho.elim
/-- the locals at a method's entry -/
def lay : List Value → List Value
  | [] => []
  | v :: vs => if v.category = 2 then v :: jk :: lay vs else v :: lay vs
theorem lay_i (x : Int32) (l : List Value) : lay (.int x :: l) = .int x :: lay l := rfl
theorem lay_l (x : Int64) (l : List Value) : lay (.long x :: l) = .long x :: jk :: lay l := rfl
theorem lay_r (x : Nat) (l : List Value) : lay (.ref x :: l) = .ref x :: lay l := rfl
theorem lay_n (l : List Value) : lay (.null :: l) = .null :: lay l := rfl
theorem lay_rf (o : Option Nat) (l : List Value) : lay (va_rf o :: l) = va_rf o :: lay l := by cases o <;> rfl
theorem lay_e : lay [] = [] := rfl
theorem lay_at {Rl : Nat → Nat → Prop} : ∀ {us vs : List Value}, VL Rl us vs → ∀ (q i : Nat) (v : Value), (lay us)[i]? = some v → isJ v = false → ∃ v', (q + i, v') ∈ lv_args q vs ∧ VR Rl v v'
  | [], [], _, q, i, v, h, _ => by simp [lay] at h
  | u :: us, w :: vs, hv, q, i, v, h, hj => by
    obtain ⟨hv1, hv2⟩ := hv
    have hc := hv1.cat
    unfold lay at h
    unfold lv_args
    by_cases h2 : u.category = 2
    · rw [if_pos h2] at h
      rw [if_pos (hc.trans h2)]
      match i, h with
      | 0, h =>
        simp only [List.getElem?_cons_zero, Option.some.injEq] at h
        subst h
        exact ⟨w, List.mem_cons_self, hv1⟩
      | 1, h =>
        simp only [List.getElem?_cons_succ, List.getElem?_cons_zero, Option.some.injEq] at h
        subst h
        cases hj
      | i + 2, h =>
        simp only [List.getElem?_cons_succ] at h
        obtain ⟨v', g1, g2⟩ := lay_at hv2 (q + 2) i v h hj
        exact ⟨v', List.mem_cons_of_mem _ (by rw [show q + (i + 2) = q + 2 + i by omega]; exact g1), g2⟩
    · rw [if_neg h2] at h
      rw [if_neg (by rw [hc]; exact h2)]
      match i, h with
      | 0, h =>
        simp only [List.getElem?_cons_zero, Option.some.injEq] at h
        subst h
        exact ⟨w, List.mem_cons_self, hv1⟩
      | i + 1, h =>
        simp only [List.getElem?_cons_succ] at h
        obtain ⟨v', g1, g2⟩ := lay_at hv2 (q + 1) i v h hj
        exact ⟨v', List.mem_cons_of_mem _ (by rw [show q + (i + 1) = q + 1 + i by omega]; exact g1), g2⟩
theorem lay_len {Rl : Nat → Nat → Prop} : ∀ {us vs : List Value}, VL Rl us vs → (lg_sl vs).length = (lay us).length
  | [], [], _ => rfl
  | u :: us, w :: vs, hv => by
    have ih := lay_len hv.2
    have hc := hv.1.cat
    unfold lay
    show ((if w.category = 2 then [Slot.val w, Slot.second] else [Slot.val w]) ++ lg_sl vs).length = _
    rw [hc]
    split <;> simp [ih] <;> omega
/-- a method's contract out of its walk -/
theorem Cn_intro {y : MethodName} {cb : ByteArray} {mx : Nat} {ret : Option FieldType} {as lsA : List Value} {h : HP} (hy : plainName y.cls = true) (hent : lay as ++ List.replicate (mx - (lay as).length) jk = lsA) (hle : (lay as).length ≤ mx)
    (body : ∀ (p : Program) (e : Env) (s : State) (m : MethodId) (args : Array Value) (below : List Frame) (meth : Method) (c : Code) (base : Nat) (Rl0 : Nat → Nat → Prop), CX p (rmk (d + 1) MC MS) s m args c D base mx cb y.cls d → meth.locks = false → meth.sig.returnType = ret → meth.name = y.name →
      Wm p l e (rmk (d + 1) MC MS) s m args below meth c (QM below D base Rl0 Qp args s MC MS) D base mx Rl0 0 lsA [] h 0 0) : Cn l D (d + 1) y cb mx ret MC MS as h Qp := by
  intro base Rl asC hv
  refine Met.ofW (cc := cb) (maxL := mx) (ret := ret) hy rfl ?_
  intro p e s m args below meth c s₁ B hml hP
  obtain ⟨rfl, hb, hK, hr⟩ := hP
  have hts := atoms_spec (ws := wsm y cb mx ret) B.pre
  have hown : s.vm.findClass y.cls = some m.cls := findClass_of_methodNamed B.named
  have hlen := lay_len hv
  have hl := lv_entry asC (n := mx) (by omega)
  rw [lg_entry_eq]
  generalize (lg_sl asC ++ List.replicate (mx - (lg_sl asC).length) Slot.unset).toArray = ls at hl ⊢
  refine body p e s m _ below meth c base Rl ⟨B.exec, B.bytes, hml, hown, fun w hw => hts w (List.mem_cons_of_mem _ hw), hK, hb, Nat.le_refl _, ?_⟩ B.notSynchronized B.returns (name_of_methodNamed B.named B.method).1 (Nat.zero_le _) (Nat.zero_le _) Rl s.heap [] ls [] (fun _ _ q => q) hr trivial ⟨hl.1, hl.2.1, fun i v hi hj => ?_⟩ va_S.rf
  · show 40 * d + 40 ≤ 40 * (d + 1)
    omega
  · rw [← hent] at hi
    by_cases hil : i < (lay as).length
    · rw [List.getElem?_append_left hil] at hi
      obtain ⟨v', g1, g2⟩ := lay_at hv 0 i v hi hj
      rw [Nat.zero_add] at g1
      exact ⟨v', hl.2.2 _ g1, g2⟩
    · rw [List.getElem?_append_right (by omega), List.getElem?_replicate] at hi
      split at hi
      · cases hi
        cases hj
      · cases hi
end ZRET
end
