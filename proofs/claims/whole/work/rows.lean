section
-- ===== PART A: goes FIRST, ahead of the names: the tables' words, and 'selects' of the private methods out of them =====
/-- a private method of a class that the tables say can be made, by its rows of tables_1 -/
def lw_okq (q : MethodName × Nat) : Prop := (q.1.cls ≠ "java/lang/invoke/MethodHandle" ∧ q.1.cls ≠ "java/lang/invoke/VarHandle") ∧ Cond.instantiable q.1.cls q.2 ∈ tables_1 ∧ Cond.privateMethod q.1 ∈ tables_1 ∧ Cond.instanceMethod q.1 ∈ tables_1
theorem lw_p0 : lw_okq (⟨"BusServo", "comeUp", "()V"⟩, 10) := ⟨⟨by decide +kernel, by decide +kernel⟩, List.mem_of_getElem? (i := 14) (by decide +kernel), List.mem_of_getElem? (i := 131) (by decide +kernel), List.mem_of_getElem? (i := 132) (by decide +kernel)⟩
theorem lw_p1 : lw_okq (⟨"BusServo", "acceptNetwork", "(IJ)I"⟩, 10) := ⟨⟨by decide +kernel, by decide +kernel⟩, List.mem_of_getElem? (i := 14) (by decide +kernel), List.mem_of_getElem? (i := 220) (by decide +kernel), List.mem_of_getElem? (i := 221) (by decide +kernel)⟩
theorem lw_p2 : lw_okq (⟨"BusServo", "enterOperating", "()V"⟩, 10) := ⟨⟨by decide +kernel, by decide +kernel⟩, List.mem_of_getElem? (i := 14) (by decide +kernel), List.mem_of_getElem? (i := 224) (by decide +kernel), List.mem_of_getElem? (i := 225) (by decide +kernel)⟩
theorem lw_p3 : lw_okq (⟨"BusServo", "acceptSync", "()I"⟩, 10) := ⟨⟨by decide +kernel, by decide +kernel⟩, List.mem_of_getElem? (i := 14) (by decide +kernel), List.mem_of_getElem? (i := 232) (by decide +kernel), List.mem_of_getElem? (i := 233) (by decide +kernel)⟩
theorem lw_p4 : lw_okq (⟨"BusServo", "refreshStatus", "()V"⟩, 10) := ⟨⟨by decide +kernel, by decide +kernel⟩, List.mem_of_getElem? (i := 14) (by decide +kernel), List.mem_of_getElem? (i := 240) (by decide +kernel), List.mem_of_getElem? (i := 241) (by decide +kernel)⟩
theorem lw_p5 : lw_okq (⟨"BusServo$Motion", "positionAim", "()I"⟩, 2) := ⟨⟨by decide +kernel, by decide +kernel⟩, List.mem_of_getElem? (i := 83) (by decide +kernel), List.mem_of_getElem? (i := 258) (by decide +kernel), List.mem_of_getElem? (i := 259) (by decide +kernel)⟩
theorem lw_p6 : lw_okq (⟨"BusServo", "sendOut", "(JI)V"⟩, 10) := ⟨⟨by decide +kernel, by decide +kernel⟩, List.mem_of_getElem? (i := 14) (by decide +kernel), List.mem_of_getElem? (i := 285) (by decide +kernel), List.mem_of_getElem? (i := 286) (by decide +kernel)⟩
theorem lw_p7 : lw_okq (⟨"BusServo", "acceptIn", "(IJ)I"⟩, 10) := ⟨⟨by decide +kernel, by decide +kernel⟩, List.mem_of_getElem? (i := 14) (by decide +kernel), List.mem_of_getElem? (i := 293) (by decide +kernel), List.mem_of_getElem? (i := 294) (by decide +kernel)⟩
theorem lw_p8 : lw_okq (⟨"BusServo", "acceptChannel", "(IJ)I"⟩, 10) := ⟨⟨by decide +kernel, by decide +kernel⟩, List.mem_of_getElem? (i := 14) (by decide +kernel), List.mem_of_getElem? (i := 315) (by decide +kernel), List.mem_of_getElem? (i := 316) (by decide +kernel)⟩
theorem lw_p9 : lw_okq (⟨"BusServo", "sendAnswer", "(JII)V"⟩, 10) := ⟨⟨by decide +kernel, by decide +kernel⟩, List.mem_of_getElem? (i := 14) (by decide +kernel), List.mem_of_getElem? (i := 333) (by decide +kernel), List.mem_of_getElem? (i := 334) (by decide +kernel)⟩
theorem lw_p10 : lw_okq (⟨"BusServo", "answerRead", "(JI)V"⟩, 10) := ⟨⟨by decide +kernel, by decide +kernel⟩, List.mem_of_getElem? (i := 14) (by decide +kernel), List.mem_of_getElem? (i := 338) (by decide +kernel), List.mem_of_getElem? (i := 339) (by decide +kernel)⟩
theorem lw_p11 : lw_okq (⟨"BusServo", "answerWrite", "(JII)V"⟩, 10) := ⟨⟨by decide +kernel, by decide +kernel⟩, List.mem_of_getElem? (i := 14) (by decide +kernel), List.mem_of_getElem? (i := 351) (by decide +kernel), List.mem_of_getElem? (i := 352) (by decide +kernel)⟩
theorem lw_p12 : lw_okq (⟨"BusServo", "refusalOfWrite", "(III)I"⟩, 10) := ⟨⟨by decide +kernel, by decide +kernel⟩, List.mem_of_getElem? (i := 14) (by decide +kernel), List.mem_of_getElem? (i := 356) (by decide +kernel), List.mem_of_getElem? (i := 357) (by decide +kernel)⟩
theorem lw_p13 : lw_okq (⟨"BusServo", "isWrittenNow", "(I)Z"⟩, 10) := ⟨⟨by decide +kernel, by decide +kernel⟩, List.mem_of_getElem? (i := 14) (by decide +kernel), List.mem_of_getElem? (i := 362) (by decide +kernel), List.mem_of_getElem? (i := 363) (by decide +kernel)⟩
theorem lw_p14 : lw_okq (⟨"BusServo", "refusalOfSave", "(II)I"⟩, 10) := ⟨⟨by decide +kernel, by decide +kernel⟩, List.mem_of_getElem? (i := 14) (by decide +kernel), List.mem_of_getElem? (i := 378) (by decide +kernel), List.mem_of_getElem? (i := 379) (by decide +kernel)⟩
theorem lw_p15 : lw_okq (⟨"BusServo", "write", "(II)V"⟩, 10) := ⟨⟨by decide +kernel, by decide +kernel⟩, List.mem_of_getElem? (i := 14) (by decide +kernel), List.mem_of_getElem? (i := 398) (by decide +kernel), List.mem_of_getElem? (i := 399) (by decide +kernel)⟩
def lw_privs_1 : List (MethodName × Nat) := [(⟨"BusServo", "comeUp", "()V"⟩, 10), (⟨"BusServo", "acceptNetwork", "(IJ)I"⟩, 10), (⟨"BusServo", "enterOperating", "()V"⟩, 10), (⟨"BusServo", "acceptSync", "()I"⟩, 10), (⟨"BusServo", "refreshStatus", "()V"⟩, 10), (⟨"BusServo$Motion", "positionAim", "()I"⟩, 2), (⟨"BusServo", "sendOut", "(JI)V"⟩, 10), (⟨"BusServo", "acceptIn", "(IJ)I"⟩, 10), (⟨"BusServo", "acceptChannel", "(IJ)I"⟩, 10), (⟨"BusServo", "sendAnswer", "(JII)V"⟩, 10), (⟨"BusServo", "answerRead", "(JI)V"⟩, 10), (⟨"BusServo", "answerWrite", "(JII)V"⟩, 10), (⟨"BusServo", "refusalOfWrite", "(III)I"⟩, 10), (⟨"BusServo", "isWrittenNow", "(I)Z"⟩, 10), (⟨"BusServo", "refusalOfSave", "(II)I"⟩, 10), (⟨"BusServo", "write", "(II)V"⟩, 10)]
theorem lw_r1 : ∀ q ∈ lw_privs_1, lw_okq q := List.forall_mem_cons.mpr ⟨lw_p0, List.forall_mem_cons.mpr ⟨lw_p1, List.forall_mem_cons.mpr ⟨lw_p2, List.forall_mem_cons.mpr ⟨lw_p3, List.forall_mem_cons.mpr ⟨lw_p4, List.forall_mem_cons.mpr ⟨lw_p5, List.forall_mem_cons.mpr ⟨lw_p6, List.forall_mem_cons.mpr ⟨lw_p7, List.forall_mem_cons.mpr ⟨lw_p8, List.forall_mem_cons.mpr ⟨lw_p9, List.forall_mem_cons.mpr ⟨lw_p10, List.forall_mem_cons.mpr ⟨lw_p11, List.forall_mem_cons.mpr ⟨lw_p12, List.forall_mem_cons.mpr ⟨lw_p13, List.forall_mem_cons.mpr ⟨lw_p14, List.forall_mem_cons.mpr ⟨lw_p15, fun _ h => absurd h List.not_mem_nil⟩⟩⟩⟩⟩⟩⟩⟩⟩⟩⟩⟩⟩⟩⟩⟩
theorem lw_p16 : lw_okq (⟨"BusServo$Store", "begin", "()V"⟩, 4) := ⟨⟨by decide +kernel, by decide +kernel⟩, List.mem_of_getElem? (i := 49) (by decide +kernel), List.mem_of_getElem? (i := 406) (by decide +kernel), List.mem_of_getElem? (i := 407) (by decide +kernel)⟩
theorem lw_p17 : lw_okq (⟨"BusServo", "acceptHeartbeat", "(II)I"⟩, 10) := ⟨⟨by decide +kernel, by decide +kernel⟩, List.mem_of_getElem? (i := 14) (by decide +kernel), List.mem_of_getElem? (i := 414) (by decide +kernel), List.mem_of_getElem? (i := 415) (by decide +kernel)⟩
theorem lw_p18 : lw_okq (⟨"BusServo", "watchTime", "()I"⟩, 10) := ⟨⟨by decide +kernel, by decide +kernel⟩, List.mem_of_getElem? (i := 14) (by decide +kernel), List.mem_of_getElem? (i := 418) (by decide +kernel), List.mem_of_getElem? (i := 419) (by decide +kernel)⟩
theorem lw_p19 : lw_okq (⟨"BusServo", "makeTick", "(I)V"⟩, 10) := ⟨⟨by decide +kernel, by decide +kernel⟩, List.mem_of_getElem? (i := 14) (by decide +kernel), List.mem_of_getElem? (i := 432) (by decide +kernel), List.mem_of_getElem? (i := 433) (by decide +kernel)⟩
theorem lw_p20 : lw_okq (⟨"BusServo", "beat", "()V"⟩, 10) := ⟨⟨by decide +kernel, by decide +kernel⟩, List.mem_of_getElem? (i := 14) (by decide +kernel), List.mem_of_getElem? (i := 440) (by decide +kernel), List.mem_of_getElem? (i := 441) (by decide +kernel)⟩
theorem lw_p21 : lw_okq (⟨"BusServo", "fault", "(I)V"⟩, 10) := ⟨⟨by decide +kernel, by decide +kernel⟩, List.mem_of_getElem? (i := 14) (by decide +kernel), List.mem_of_getElem? (i := 450) (by decide +kernel), List.mem_of_getElem? (i := 451) (by decide +kernel)⟩
theorem lw_p22 : lw_okq (⟨"BusServo", "sendEmergency", "(I)V"⟩, 10) := ⟨⟨by decide +kernel, by decide +kernel⟩, List.mem_of_getElem? (i := 14) (by decide +kernel), List.mem_of_getElem? (i := 460) (by decide +kernel), List.mem_of_getElem? (i := 461) (by decide +kernel)⟩
theorem lw_p23 : lw_okq (⟨"BusServo", "obeyControl", "()V"⟩, 10) := ⟨⟨by decide +kernel, by decide +kernel⟩, List.mem_of_getElem? (i := 14) (by decide +kernel), List.mem_of_getElem? (i := 471) (by decide +kernel), List.mem_of_getElem? (i := 472) (by decide +kernel)⟩
theorem lw_p24 : lw_okq (⟨"BusServo$Power", "stateAfter", "(IZ)I"⟩, 2) := ⟨⟨by decide +kernel, by decide +kernel⟩, List.mem_of_getElem? (i := 70) (by decide +kernel), List.mem_of_getElem? (i := 483) (by decide +kernel), List.mem_of_getElem? (i := 484) (by decide +kernel)⟩
theorem lw_p25 : lw_okq (⟨"BusServo", "move", "(I)V"⟩, 10) := ⟨⟨by decide +kernel, by decide +kernel⟩, List.mem_of_getElem? (i := 14) (by decide +kernel), List.mem_of_getElem? (i := 496) (by decide +kernel), List.mem_of_getElem? (i := 497) (by decide +kernel)⟩
theorem lw_p26 : lw_okq (⟨"BusServo$Motion", "approach", "(II)V"⟩, 2) := ⟨⟨by decide +kernel, by decide +kernel⟩, List.mem_of_getElem? (i := 83) (by decide +kernel), List.mem_of_getElem? (i := 504) (by decide +kernel), List.mem_of_getElem? (i := 505) (by decide +kernel)⟩
theorem lw_p27 : lw_okq (⟨"BusServo$Motion", "moveWith", "(I)V"⟩, 2) := ⟨⟨by decide +kernel, by decide +kernel⟩, List.mem_of_getElem? (i := 83) (by decide +kernel), List.mem_of_getElem? (i := 511) (by decide +kernel), List.mem_of_getElem? (i := 512) (by decide +kernel)⟩
theorem lw_p28 : lw_okq (⟨"BusServo$Motion", "fastestThatStops", "(II)I"⟩, 2) := ⟨⟨by decide +kernel, by decide +kernel⟩, List.mem_of_getElem? (i := 83) (by decide +kernel), List.mem_of_getElem? (i := 516) (by decide +kernel), List.mem_of_getElem? (i := 517) (by decide +kernel)⟩
theorem lw_p29 : lw_okq (⟨"BusServo$Motion", "speedAim", "()I"⟩, 2) := ⟨⟨by decide +kernel, by decide +kernel⟩, List.mem_of_getElem? (i := 83) (by decide +kernel), List.mem_of_getElem? (i := 523) (by decide +kernel), List.mem_of_getElem? (i := 524) (by decide +kernel)⟩
theorem lw_p30 : lw_okq (⟨"BusServo", "sendOutWhenDue", "()V"⟩, 10) := ⟨⟨by decide +kernel, by decide +kernel⟩, List.mem_of_getElem? (i := 14) (by decide +kernel), List.mem_of_getElem? (i := 535) (by decide +kernel), List.mem_of_getElem? (i := 536) (by decide +kernel)⟩
theorem lw_p31 : lw_okq (⟨"BusServoModel", "row", "(IIIIIII)V"⟩, 31) := ⟨⟨by decide +kernel, by decide +kernel⟩, List.mem_of_getElem? (i := 643) (by decide +kernel), List.mem_of_getElem? (i := 652) (by decide +kernel), List.mem_of_getElem? (i := 653) (by decide +kernel)⟩
def lw_privs_2 : List (MethodName × Nat) := [(⟨"BusServo$Store", "begin", "()V"⟩, 4), (⟨"BusServo", "acceptHeartbeat", "(II)I"⟩, 10), (⟨"BusServo", "watchTime", "()I"⟩, 10), (⟨"BusServo", "makeTick", "(I)V"⟩, 10), (⟨"BusServo", "beat", "()V"⟩, 10), (⟨"BusServo", "fault", "(I)V"⟩, 10), (⟨"BusServo", "sendEmergency", "(I)V"⟩, 10), (⟨"BusServo", "obeyControl", "()V"⟩, 10), (⟨"BusServo$Power", "stateAfter", "(IZ)I"⟩, 2), (⟨"BusServo", "move", "(I)V"⟩, 10), (⟨"BusServo$Motion", "approach", "(II)V"⟩, 2), (⟨"BusServo$Motion", "moveWith", "(I)V"⟩, 2), (⟨"BusServo$Motion", "fastestThatStops", "(II)I"⟩, 2), (⟨"BusServo$Motion", "speedAim", "()I"⟩, 2), (⟨"BusServo", "sendOutWhenDue", "()V"⟩, 10), (⟨"BusServoModel", "row", "(IIIIIII)V"⟩, 31)]
theorem lw_r2 : ∀ q ∈ lw_privs_2, lw_okq q := List.forall_mem_cons.mpr ⟨lw_p16, List.forall_mem_cons.mpr ⟨lw_p17, List.forall_mem_cons.mpr ⟨lw_p18, List.forall_mem_cons.mpr ⟨lw_p19, List.forall_mem_cons.mpr ⟨lw_p20, List.forall_mem_cons.mpr ⟨lw_p21, List.forall_mem_cons.mpr ⟨lw_p22, List.forall_mem_cons.mpr ⟨lw_p23, List.forall_mem_cons.mpr ⟨lw_p24, List.forall_mem_cons.mpr ⟨lw_p25, List.forall_mem_cons.mpr ⟨lw_p26, List.forall_mem_cons.mpr ⟨lw_p27, List.forall_mem_cons.mpr ⟨lw_p28, List.forall_mem_cons.mpr ⟨lw_p29, List.forall_mem_cons.mpr ⟨lw_p30, List.forall_mem_cons.mpr ⟨lw_p31, fun _ h => absurd h List.not_mem_nil⟩⟩⟩⟩⟩⟩⟩⟩⟩⟩⟩⟩⟩⟩⟩⟩
theorem lw_p32 : lw_okq (⟨"BusServoModel", "send", "(IIJ)V"⟩, 31) := ⟨⟨by decide +kernel, by decide +kernel⟩, List.mem_of_getElem? (i := 643) (by decide +kernel), List.mem_of_getElem? (i := 689) (by decide +kernel), List.mem_of_getElem? (i := 690) (by decide +kernel)⟩
theorem lw_p33 : lw_okq (⟨"BusServoModel", "next", "()I"⟩, 31) := ⟨⟨by decide +kernel, by decide +kernel⟩, List.mem_of_getElem? (i := 643) (by decide +kernel), List.mem_of_getElem? (i := 796) (by decide +kernel), List.mem_of_getElem? (i := 797) (by decide +kernel)⟩
theorem lw_p34 : lw_okq (⟨"BusServoModel", "fault", "(I)V"⟩, 31) := ⟨⟨by decide +kernel, by decide +kernel⟩, List.mem_of_getElem? (i := 643) (by decide +kernel), List.mem_of_getElem? (i := 825) (by decide +kernel), List.mem_of_getElem? (i := 826) (by decide +kernel)⟩
theorem lw_p35 : lw_okq (⟨"BusServoModel", "emergency", "(I)V"⟩, 31) := ⟨⟨by decide +kernel, by decide +kernel⟩, List.mem_of_getElem? (i := 643) (by decide +kernel), List.mem_of_getElem? (i := 830) (by decide +kernel), List.mem_of_getElem? (i := 831) (by decide +kernel)⟩
theorem lw_p36 : lw_okq (⟨"BusServoModel", "state", "(II)I"⟩, 31) := ⟨⟨by decide +kernel, by decide +kernel⟩, List.mem_of_getElem? (i := 643) (by decide +kernel), List.mem_of_getElem? (i := 839) (by decide +kernel), List.mem_of_getElem? (i := 840) (by decide +kernel)⟩
theorem lw_p37 : lw_okq (⟨"BusServoModel", "sync", "()I"⟩, 31) := ⟨⟨by decide +kernel, by decide +kernel⟩, List.mem_of_getElem? (i := 643) (by decide +kernel), List.mem_of_getElem? (i := 843) (by decide +kernel), List.mem_of_getElem? (i := 844) (by decide +kernel)⟩
theorem lw_p38 : lw_okq (⟨"BusServoModel", "out", "()V"⟩, 31) := ⟨⟨by decide +kernel, by decide +kernel⟩, List.mem_of_getElem? (i := 643) (by decide +kernel), List.mem_of_getElem? (i := 847) (by decide +kernel), List.mem_of_getElem? (i := 848) (by decide +kernel)⟩
theorem lw_p39 : lw_okq (⟨"BusServoModel", "gathered", "()J"⟩, 31) := ⟨⟨by decide +kernel, by decide +kernel⟩, List.mem_of_getElem? (i := 643) (by decide +kernel), List.mem_of_getElem? (i := 851) (by decide +kernel), List.mem_of_getElem? (i := 852) (by decide +kernel)⟩
theorem lw_p40 : lw_okq (⟨"BusServoModel", "find", "(I)I"⟩, 31) := ⟨⟨by decide +kernel, by decide +kernel⟩, List.mem_of_getElem? (i := 643) (by decide +kernel), List.mem_of_getElem? (i := 855) (by decide +kernel), List.mem_of_getElem? (i := 856) (by decide +kernel)⟩
theorem lw_p41 : lw_okq (⟨"BusServoModel", "look", "(I)I"⟩, 31) := ⟨⟨by decide +kernel, by decide +kernel⟩, List.mem_of_getElem? (i := 643) (by decide +kernel), List.mem_of_getElem? (i := 859) (by decide +kernel), List.mem_of_getElem? (i := 860) (by decide +kernel)⟩
theorem lw_p42 : lw_okq (⟨"BusServoModel", "aim", "()I"⟩, 31) := ⟨⟨by decide +kernel, by decide +kernel⟩, List.mem_of_getElem? (i := 643) (by decide +kernel), List.mem_of_getElem? (i := 863) (by decide +kernel), List.mem_of_getElem? (i := 864) (by decide +kernel)⟩
theorem lw_p43 : lw_okq (⟨"BusServoModel", "size", "(I)I"⟩, 31) := ⟨⟨by decide +kernel, by decide +kernel⟩, List.mem_of_getElem? (i := 643) (by decide +kernel), List.mem_of_getElem? (i := 875) (by decide +kernel), List.mem_of_getElem? (i := 876) (by decide +kernel)⟩
theorem lw_p44 : lw_okq (⟨"BusServoModel", "mapped", "(IJ)I"⟩, 31) := ⟨⟨by decide +kernel, by decide +kernel⟩, List.mem_of_getElem? (i := 643) (by decide +kernel), List.mem_of_getElem? (i := 879) (by decide +kernel), List.mem_of_getElem? (i := 880) (by decide +kernel)⟩
theorem lw_p45 : lw_okq (⟨"BusServoModel", "channel", "(J)I"⟩, 31) := ⟨⟨by decide +kernel, by decide +kernel⟩, List.mem_of_getElem? (i := 643) (by decide +kernel), List.mem_of_getElem? (i := 886) (by decide +kernel), List.mem_of_getElem? (i := 887) (by decide +kernel)⟩
theorem lw_p46 : lw_okq (⟨"BusServoModel", "isIndex", "(I)Z"⟩, 31) := ⟨⟨by decide +kernel, by decide +kernel⟩, List.mem_of_getElem? (i := 643) (by decide +kernel), List.mem_of_getElem? (i := 891) (by decide +kernel), List.mem_of_getElem? (i := 892) (by decide +kernel)⟩
theorem lw_p47 : lw_okq (⟨"BusServoModel", "refusal", "(III)I"⟩, 31) := ⟨⟨by decide +kernel, by decide +kernel⟩, List.mem_of_getElem? (i := 643) (by decide +kernel), List.mem_of_getElem? (i := 898) (by decide +kernel), List.mem_of_getElem? (i := 899) (by decide +kernel)⟩
def lw_privs_3 : List (MethodName × Nat) := [(⟨"BusServoModel", "send", "(IIJ)V"⟩, 31), (⟨"BusServoModel", "next", "()I"⟩, 31), (⟨"BusServoModel", "fault", "(I)V"⟩, 31), (⟨"BusServoModel", "emergency", "(I)V"⟩, 31), (⟨"BusServoModel", "state", "(II)I"⟩, 31), (⟨"BusServoModel", "sync", "()I"⟩, 31), (⟨"BusServoModel", "out", "()V"⟩, 31), (⟨"BusServoModel", "gathered", "()J"⟩, 31), (⟨"BusServoModel", "find", "(I)I"⟩, 31), (⟨"BusServoModel", "look", "(I)I"⟩, 31), (⟨"BusServoModel", "aim", "()I"⟩, 31), (⟨"BusServoModel", "size", "(I)I"⟩, 31), (⟨"BusServoModel", "mapped", "(IJ)I"⟩, 31), (⟨"BusServoModel", "channel", "(J)I"⟩, 31), (⟨"BusServoModel", "isIndex", "(I)Z"⟩, 31), (⟨"BusServoModel", "refusal", "(III)I"⟩, 31)]
theorem lw_r3 : ∀ q ∈ lw_privs_3, lw_okq q := List.forall_mem_cons.mpr ⟨lw_p32, List.forall_mem_cons.mpr ⟨lw_p33, List.forall_mem_cons.mpr ⟨lw_p34, List.forall_mem_cons.mpr ⟨lw_p35, List.forall_mem_cons.mpr ⟨lw_p36, List.forall_mem_cons.mpr ⟨lw_p37, List.forall_mem_cons.mpr ⟨lw_p38, List.forall_mem_cons.mpr ⟨lw_p39, List.forall_mem_cons.mpr ⟨lw_p40, List.forall_mem_cons.mpr ⟨lw_p41, List.forall_mem_cons.mpr ⟨lw_p42, List.forall_mem_cons.mpr ⟨lw_p43, List.forall_mem_cons.mpr ⟨lw_p44, List.forall_mem_cons.mpr ⟨lw_p45, List.forall_mem_cons.mpr ⟨lw_p46, List.forall_mem_cons.mpr ⟨lw_p47, fun _ h => absurd h List.not_mem_nil⟩⟩⟩⟩⟩⟩⟩⟩⟩⟩⟩⟩⟩⟩⟩⟩
theorem lw_p48 : lw_okq (⟨"BusServoModel", "stage", "()Z"⟩, 31) := ⟨⟨by decide +kernel, by decide +kernel⟩, List.mem_of_getElem? (i := 643) (by decide +kernel), List.mem_of_getElem? (i := 904) (by decide +kernel), List.mem_of_getElem? (i := 905) (by decide +kernel)⟩
theorem lw_p49 : lw_okq (⟨"BusServoModel", "entries", "(II)I"⟩, 31) := ⟨⟨by decide +kernel, by decide +kernel⟩, List.mem_of_getElem? (i := 643) (by decide +kernel), List.mem_of_getElem? (i := 915) (by decide +kernel), List.mem_of_getElem? (i := 916) (by decide +kernel)⟩
theorem lw_p50 : lw_okq (⟨"BusServoModel", "write", "(II)V"⟩, 31) := ⟨⟨by decide +kernel, by decide +kernel⟩, List.mem_of_getElem? (i := 643) (by decide +kernel), List.mem_of_getElem? (i := 921) (by decide +kernel), List.mem_of_getElem? (i := 922) (by decide +kernel)⟩
theorem lw_p51 : lw_okq (⟨"BusServoModel", "begin", "(Z)V"⟩, 31) := ⟨⟨by decide +kernel, by decide +kernel⟩, List.mem_of_getElem? (i := 643) (by decide +kernel), List.mem_of_getElem? (i := 925) (by decide +kernel), List.mem_of_getElem? (i := 926) (by decide +kernel)⟩
theorem lw_p52 : lw_okq (⟨"BusServoModel", "step", "(I)V"⟩, 31) := ⟨⟨by decide +kernel, by decide +kernel⟩, List.mem_of_getElem? (i := 643) (by decide +kernel), List.mem_of_getElem? (i := 936) (by decide +kernel), List.mem_of_getElem? (i := 937) (by decide +kernel)⟩
theorem lw_p53 : lw_okq (⟨"BusServoModel", "writeWord", "()V"⟩, 31) := ⟨⟨by decide +kernel, by decide +kernel⟩, List.mem_of_getElem? (i := 643) (by decide +kernel), List.mem_of_getElem? (i := 940) (by decide +kernel), List.mem_of_getElem? (i := 941) (by decide +kernel)⟩
theorem lw_p54 : lw_okq (⟨"BusServoModel", "order", "()I"⟩, 31) := ⟨⟨by decide +kernel, by decide +kernel⟩, List.mem_of_getElem? (i := 643) (by decide +kernel), List.mem_of_getElem? (i := 945) (by decide +kernel), List.mem_of_getElem? (i := 946) (by decide +kernel)⟩
theorem lw_p55 : lw_okq (⟨"BusServoModel", "obey", "(I)V"⟩, 31) := ⟨⟨by decide +kernel, by decide +kernel⟩, List.mem_of_getElem? (i := 643) (by decide +kernel), List.mem_of_getElem? (i := 949) (by decide +kernel), List.mem_of_getElem? (i := 950) (by decide +kernel)⟩
theorem lw_p56 : lw_okq (⟨"BusServoModel", "move", "(I)V"⟩, 31) := ⟨⟨by decide +kernel, by decide +kernel⟩, List.mem_of_getElem? (i := 643) (by decide +kernel), List.mem_of_getElem? (i := 953) (by decide +kernel), List.mem_of_getElem? (i := 954) (by decide +kernel)⟩
theorem lw_p57 : lw_okq (⟨"BusServoModel", "towards", "(I)I"⟩, 31) := ⟨⟨by decide +kernel, by decide +kernel⟩, List.mem_of_getElem? (i := 643) (by decide +kernel), List.mem_of_getElem? (i := 957) (by decide +kernel), List.mem_of_getElem? (i := 958) (by decide +kernel)⟩
theorem lw_p58 : lw_okq (⟨"BusServoModel", "outByTime", "()V"⟩, 31) := ⟨⟨by decide +kernel, by decide +kernel⟩, List.mem_of_getElem? (i := 643) (by decide +kernel), List.mem_of_getElem? (i := 967) (by decide +kernel), List.mem_of_getElem? (i := 968) (by decide +kernel)⟩
def lw_privs_4 : List (MethodName × Nat) := [(⟨"BusServoModel", "stage", "()Z"⟩, 31), (⟨"BusServoModel", "entries", "(II)I"⟩, 31), (⟨"BusServoModel", "write", "(II)V"⟩, 31), (⟨"BusServoModel", "begin", "(Z)V"⟩, 31), (⟨"BusServoModel", "step", "(I)V"⟩, 31), (⟨"BusServoModel", "writeWord", "()V"⟩, 31), (⟨"BusServoModel", "order", "()I"⟩, 31), (⟨"BusServoModel", "obey", "(I)V"⟩, 31), (⟨"BusServoModel", "move", "(I)V"⟩, 31), (⟨"BusServoModel", "towards", "(I)I"⟩, 31), (⟨"BusServoModel", "outByTime", "()V"⟩, 31)]
theorem lw_r4 : ∀ q ∈ lw_privs_4, lw_okq q := List.forall_mem_cons.mpr ⟨lw_p48, List.forall_mem_cons.mpr ⟨lw_p49, List.forall_mem_cons.mpr ⟨lw_p50, List.forall_mem_cons.mpr ⟨lw_p51, List.forall_mem_cons.mpr ⟨lw_p52, List.forall_mem_cons.mpr ⟨lw_p53, List.forall_mem_cons.mpr ⟨lw_p54, List.forall_mem_cons.mpr ⟨lw_p55, List.forall_mem_cons.mpr ⟨lw_p56, List.forall_mem_cons.mpr ⟨lw_p57, List.forall_mem_cons.mpr ⟨lw_p58, fun _ h => absurd h List.not_mem_nil⟩⟩⟩⟩⟩⟩⟩⟩⟩⟩⟩
def lw_privs : List (MethodName × Nat) := lw_privs_1 ++ (lw_privs_2 ++ (lw_privs_3 ++ (lw_privs_4)))
def lw_tbl : List Cond := k2_sels lw_privs ++ tables_1
theorem lw_privs_ok : ∀ q ∈ lw_privs, lw_okq q := by
  show ∀ q ∈ lw_privs_1 ++ (lw_privs_2 ++ (lw_privs_3 ++ (lw_privs_4))), lw_okq q
  exact List.forall_mem_append.mpr ⟨lw_r1, List.forall_mem_append.mpr ⟨lw_r2, List.forall_mem_append.mpr ⟨lw_r3, lw_r4⟩⟩⟩
-- classes: fields (declaring class, name, descriptor, final), by the order of the words
def abT0 : u_T := fun k => match k with
  | 0 => ("BusServo", "node", "I", true)
  | 1 => ("BusServo", "values", "[I", true)
  | 2 => ("BusServo", "mailbox", "LBusServo$Mailbox;", true)
  | 3 => ("BusServo", "store", "LBusServo$Store;", true)
  | 4 => ("BusServo", "power", "LBusServo$Power;", true)
  | 5 => ("BusServo", "motion", "LBusServo$Motion;", true)
  | 6 => ("BusServo", "watch", "LBusServo$Watch;", true)
  | 7 => ("BusServo", "out", "LBusServo$OutRecord;", true)
  | 8 => ("BusServo", "networkState", "I", false)
  | _ => ("BusServo", "beatCount", "I", false)
def abT1 : u_T := fun k => match k with
  | 0 => ("BusServo$Mailbox", "identifiers", "[I", true)
  | 1 => ("BusServo$Mailbox", "lengths", "[I", true)
  | 2 => ("BusServo$Mailbox", "contents", "[J", true)
  | 3 => ("BusServo$Mailbox", "count", "I", false)
  | 4 => ("BusServo$Mailbox", "lostCount", "I", false)
  | _ => ("BusServo$Mailbox", "busOn", "Z", false)
def abT2 : u_T := fun k => match k with
  | 0 => ("BusServo$Store", "banks", "[[I", true)
  | 1 => ("BusServo$Store", "saved", "[I", true)
  | 2 => ("BusServo$Store", "into", "I", false)
  | _ => ("BusServo$Store", "nextWord", "I", false)
def abT3 : u_T := fun k => match k with
  | 0 => ("BusServo$Power", "state", "I", false)
  | _ => ("BusServo$Power", "resetBitBefore", "Z", false)
def abT4 : u_T := fun k => match k with
  | 0 => ("BusServo$Motion", "values", "[I", true)
  | _ => ("BusServo$Motion", "demand", "I", false)
def abT5 : u_T := fun k => match k with
  | 0 => ("BusServo$Watch", "armed", "Z", false)
  | _ => ("BusServo$Watch", "count", "I", false)
def abT6 : u_T := fun k => match k with
  | 0 => ("BusServo$OutRecord", "sent", "Z", false)
  | 1 => ("BusServo$OutRecord", "ticksAgo", "I", false)
  | 2 => ("BusServo$OutRecord", "lastData", "J", false)
  | 3 => ("BusServo$OutRecord", "lastLength", "I", false)
  | _ => ("BusServo$OutRecord", "syncs", "I", false)
def abT7 : u_T := fun k => match k with
  | 0 => ("BusServoModel", "key", "[I", true)
  | 1 => ("BusServoModel", "bytes", "[I", true)
  | 2 => ("BusServoModel", "kind", "[I", true)
  | 3 => ("BusServoModel", "start", "[I", true)
  | 4 => ("BusServoModel", "least", "[I", true)
  | 5 => ("BusServoModel", "most", "[I", true)
  | 6 => ("BusServoModel", "value", "[I", true)
  | 7 => ("BusServoModel", "boxId", "[I", true)
  | 8 => ("BusServoModel", "boxLength", "[I", true)
  | 9 => ("BusServoModel", "boxData", "[J", true)
  | 10 => ("BusServoModel", "waits", "I", false)
  | 11 => ("BusServoModel", "lost", "I", false)
  | 12 => ("BusServoModel", "words", "[I", true)
  | 13 => ("BusServoModel", "saved", "[I", true)
  | 14 => ("BusServoModel", "saving", "I", false)
  | 15 => ("BusServoModel", "into", "I", false)
  | 16 => ("BusServoModel", "way", "[I", true)
  | 17 => ("BusServoModel", "node", "I", false)
  | 18 => ("BusServoModel", "network", "I", false)
  | 19 => ("BusServoModel", "power", "I", false)
  | 20 => ("BusServoModel", "place", "I", false)
  | 21 => ("BusServoModel", "live", "Z", false)
  | 22 => ("BusServoModel", "armed", "Z", false)
  | 23 => ("BusServoModel", "wasSeven", "Z", false)
  | 24 => ("BusServoModel", "sent", "Z", false)
  | 25 => ("BusServoModel", "beats", "I", false)
  | 26 => ("BusServoModel", "watched", "I", false)
  | 27 => ("BusServoModel", "syncs", "I", false)
  | 28 => ("BusServoModel", "ago", "I", false)
  | 29 => ("BusServoModel", "outLength", "I", false)
  | _ => ("BusServoModel", "outData", "J", false)
abbrev vwCl : List vw_C := [("BusServo", abT0, 10), ("BusServo$Mailbox", abT1, 6), ("BusServo$Store", abT2, 4), ("BusServo$Power", abT3, 2), ("BusServo$Motion", abT4, 2), ("BusServo$Watch", abT5, 2), ("BusServo$OutRecord", abT6, 5), ("BusServoModel", abT7, 31)]
abbrev ab_NT : Nat := 8
def ab_hosts : List String := ["BusServo"]
def ab_sts : List (String × String × String × Nat) := [("BusServo$Catalog", "TABLE", "[I", 0), ("BusServo$Catalog", "KEPT", "[I", 1), ("BusServo$Power", "STATUS_BITS", "[I", 2)]
end
section
/-! An abstract state of the machine (values whose references are places in a list of cells; locals by place; operand stack), and rows over it: a run of plain instructions is one computation; calls by contract. -/
def ab_tb : List Cond := lw_tbl.filter goodWord
theorem ab_in {w : Cond} (h : w ∈ lw_tbl) (hg : goodWord w = true) : w ∈ ab_tb := List.mem_filter.mpr ⟨h, hg⟩
def ab_isN (w : Cond) : Bool := match w with
  | .methodLinkNest .. => true
  | _ => false
def ab_nst : List Cond := lw_tbl.filter ab_isN
abbrev ab_C : Type := Launch × va_G × (Nat → ClassId) × Nat × (Nat → Nat) × List (Nat × (Nat → Int32))
abbrev ab_H : Type := List va_E
abbrev ab_Lo : Type := List (Option Value)
abbrev ab_Mt : Type := MethodName × ByteArray × Nat × Option FieldType
abbrev ab_J : Type := Instr × Nat × Value × Nat × Nat
def ab_tys (X : ab_C) : List (ClassId × FieldType) := [(X.2.2.1 0, .int), (X.2.2.1 1, .long), (X.2.2.1 2, .array .int)]
def ab_b (X : ab_C) : Nat := X.2.2.2.1
def ab_A (X : ab_C) : Nat → Prop := fun q => ab_b X ≤ q
def ab_ad (X : ab_C) (k : Nat) : Nat := if k < ab_NT then X.2.2.2.2.1 k else ab_b X + (k - ab_NT)
def ab_v (X : ab_C) (v : Value) : Value := match v with
  | .ref k => .ref (ab_ad X k)
  | .int x => .int x
  | .long x => .long x
  | .float x => .float x
  | .double x => .double x
  | .null => .null
  | .retAddr x => .retAddr x
def ab_c (X : ab_C) (c : va_E) : va_E := match c with
  | .inl (t, n, .inl f) => .inl (X.2.2.1 t, n, .inl f)
  | .inl (t, n, .inr (.inl f)) => .inl (X.2.2.1 t, n, .inr (.inl f))
  | .inl (t, n, .inr (.inr (.inl f))) => .inl (X.2.2.1 t, n, .inr (.inr (.inl f)))
  | .inl (t, n, .inr (.inr (.inr (.inl f)))) => .inl (X.2.2.1 t, n, .inr (.inr (.inr (.inl f))))
  | .inl (t, n, .inr (.inr (.inr (.inr f)))) => .inl (X.2.2.1 t, n, .inr (.inr (.inr (.inr (fun j => (f j).map (ab_ad X))))))
  | .inr (ci, fs) => .inr (ci, fs.map (ab_v X))
def ab_ws (X : ab_C) (h : ab_H) : va_W := h.mapIdx (fun k c => (ab_b X + k, ab_c X c))
def ab_Rel (X : ab_C) (h : ab_H) (H : Heap) : Prop := H.size = ab_b X + h.length ∧ va_P X.2.1 vwCl (ab_ws X h) H
def ab_Ok (X : ab_C) (U : State) : Prop := va_K X.2.1 vwCl (ab_tys X) U ∧ (∀ (j n : Nat) (f : Nat → Int32), X.2.2.2.2.2[j]? = some (n, f) → va_T .int (X.2.2.2.2.1 j) n (fun i => .int (f i)) (ab_A X) U U.heap) ∧ (∀ q ∈ ab_sts, va_Z q.1 q.2.1 q.2.2.1 (.ref (X.2.2.2.2.1 q.2.2.2)) (ab_A X) U U.heap) ∧ ab_b X ≤ U.heap.size ∧ (∀ w ∈ ab_nst, va_Nw w U) ∧ ∃ k : Class, U.vm.classes[X.2.2.1 2]? = some k ∧ k.kind = .array (X.2.2.1 0) (.array .int)
def ab_LR (X : ab_C) (ls : Array Slot) (n : Nat) (lo : ab_Lo) : Prop := lo.length = n ∧ ∃ lv : List (Nat × Value), lv_has ls n lv ∧ ∀ (i : Nat) (v : Value), lo[i]? = some (some v) → (i, ab_v X v) ∈ lv
def ab_Fx (X : ab_C) (M : ab_Mt) (d : Nat) (p : Program) (R : Room) (s : State) (m : MethodId) (args : Array Value) (meth : Method) (c : Code) : Prop :=
  p.tables.exec = Jvm.exec ∧ c.code = M.2.1 ∧ meth.sig.returnType = M.2.2.2 ∧ c.maxLocals = M.2.2.1 ∧ s.vm.findClass M.1.cls = some m.cls ∧ (∀ w ∈ ab_tb, w.before args s = true) ∧ meth.locks = false ∧ meth.name = M.1.name ∧ ab_Ok X s ∧ d ≤ R.frames ∧ 64 * d ≤ R.locals
def ab_Mv (X : ab_C) (M : ab_Mt) (R : Room) (bc bs : Nat) (lo : ab_Lo) (h : ab_H) (s : State) (H : Heap) (locs : List Loc) (cells slots : Nat) (ls : Array Slot) : Prop :=
  cells + bc ≤ R.cells ∧ slots + bs ≤ R.slots ∧ va_S (ab_A X) s.heap H locs ∧ ab_Rel X h H ∧ ab_LR X ls M.2.2.1 lo
def ab_Q (X : ab_C) (Q : Option Value → ab_H → Prop) : Array Value → State → Outcome → State → Prop := fun _ s o t => ∃ (r : Option Value) (h : ab_H), o = .returned (r.map (ab_v X)) ∧ Q r h ∧ ab_Rel X h t.heap ∧ va_F (ab_A X) s t
/-- from this frame the method comes to its end, with an answer and a heap of which Q holds -/
def ab_W (X : ab_C) (M : ab_Mt) (d bc bs pc : Nat) (lo : ab_Lo) (st : List Value) (h : ab_H) (Q : Option Value → ab_H → Prop) : Prop :=
  ∀ (p : Program) (e : Env) (R : Room) (s : State) (m : MethodId) (args : Array Value) (below : List Frame) (meth : Method) (c : Code) (H : Heap) (locs : List Loc) (cells slots : Nat) (ls : Array Slot),
    ab_Fx X M d p R s m args meth c → ab_Mv X M R bc bs lo h s H locs cells slots ls →
    W p X.1 e R s m args below meth c H locs cells slots (MQ below (ab_Q X Q) args s R.cells R.slots (ab_A X)) (F0 m pc ls (st.map (ab_v X)))
def ab_wsM (M : ab_Mt) : List Cond := Cond.code M.1 M.2.1 M.2.2.1 M.2.2.2 :: ab_tb
/-- a method's contract: called with these values and this heap it returns, and Q holds of answer and heap -/
def ab_M (X : ab_C) (M : ab_Mt) (d bc bs : Nat) (as : List Value) (h : ab_H) (Q : Option Value → ab_H → Prop) : Prop :=
  Met X.1 M.1 (ab_wsM M) { frames := d, cells := bc, slots := bs, locals := 64 * d } (va_Pc (as.map (ab_v X)) (fun U => ab_Ok X U ∧ ab_Rel X h U.heap)) (ab_Q X Q) bc bs (ab_A X)

theorem ab_v_cat (X : ab_C) (v : Value) : (ab_v X v).category = v.category := by cases v <;> rfl
theorem ab_ws_get (X : ab_C) (h : ab_H) (k : Nat) : (ab_ws X h)[k]? = (h[k]?).map (fun c => (ab_b X + k, ab_c X c)) := by
  simp [ab_ws, List.getElem?_mapIdx]
theorem ab_ws_at {X : ab_C} {h : ab_H} {k : Nat} {c : va_E} (hk : h[k]? = some c) : (ab_ws X h)[k]? = some (ab_b X + k, ab_c X c) := by rw [ab_ws_get, hk]; rfl
theorem ab_ws_set (X : ab_C) (h : ab_H) (k : Nat) (c : va_E) : (ab_ws X h).set k (ab_b X + k, ab_c X c) = ab_ws X (h.set k c) := by
  apply List.ext_getElem?
  intro j
  rw [ab_ws_get]
  by_cases hj : k = j
  · subst hj
    by_cases hl : k < h.length
    · have hl' : k < (ab_ws X h).length := by simp [ab_ws, hl]
      rw [List.getElem?_set_self hl', List.getElem?_set_self hl]; rfl
    · have hl' : ¬ k < (ab_ws X h).length := by simp [ab_ws]; omega
      rw [List.getElem?_eq_none (by simp; omega), List.getElem?_eq_none (by simp; omega)]; rfl
  · rw [List.getElem?_set_ne hj, List.getElem?_set_ne hj, ab_ws_get]
theorem ab_ws_push (X : ab_C) (h : ab_H) (c : va_E) : ab_ws X h ++ [(ab_b X + h.length, ab_c X c)] = ab_ws X (h ++ [c]) := by
  simp [ab_ws, List.mapIdx_append]
theorem ab_ws_D (X : ab_C) (h : ab_H) : va_D (ab_A X) (ab_ws X h) := by
  refine ⟨fun i j p q hi hj e => ?_, fun k q hk => ?_⟩
  · rw [ab_ws_get] at hi hj
    cases hx : h[i]? with
    | none => rw [hx] at hi; cases hi
    | some x =>
      cases hy : h[j]? with
      | none => rw [hy] at hj; cases hj
      | some y =>
        rw [hx] at hi; rw [hy] at hj
        cases hi; cases hj
        have e' : ab_b X + i = ab_b X + j := e
        omega
  · rw [ab_ws_get] at hk
    cases hx : h[k]? with
    | none => rw [hx] at hk; cases hk
    | some x =>
      rw [hx] at hk; cases hk
      exact Nat.le_add_right _ _
theorem ab_LR.get {X : ab_C} {ls : Array Slot} {n : Nat} {lo : ab_Lo} (h : ab_LR X ls n lo) {i : Nat} {v : Value} (hi : lo[i]? = some (some v)) : ls[i]? = some (.val (ab_v X v)) := by
  obtain ⟨-, lv, h1, h2⟩ := h
  exact h1.2.2 _ (h2 i v hi)
/-- storing: the place before it is cleared if a long stands there -/
def ab_clr (lo : ab_Lo) (i : Nat) : ab_Lo := match i with
  | 0 => lo
  | j + 1 => match lo[j]? with
    | some (some v) => if v.category = 2 then lo.set j none else lo
    | _ => lo
def ab_set1 (lo : ab_Lo) (i : Nat) (v : Value) : ab_Lo := (ab_clr lo i).set i (some v)
def ab_set2 (lo : ab_Lo) (i : Nat) (v : Value) : ab_Lo := ((ab_clr lo i).set i (some v)).set (i + 1) none
theorem ab_clr_len (lo : ab_Lo) (i : Nat) : (ab_clr lo i).length = lo.length := by
  cases i with
  | zero => rfl
  | succ j =>
    simp only [ab_clr]
    split
    · split <;> simp
    · rfl
theorem ab_clr_get {lo : ab_Lo} {i j : Nat} {v : Value} (h : (ab_clr lo i)[j]? = some (some v)) : lo[j]? = some (some v) ∧ ¬ (j + 1 = i ∧ v.category = 2) := by
  cases i with
  | zero => exact ⟨h, fun q => by omega⟩
  | succ k =>
    simp only [ab_clr] at h
    split at h
    · rename_i w hw
      split at h
      · rename_i hc
        by_cases hj : k = j
        · subst hj
          have hl : k < lo.length := (List.getElem?_eq_some_iff.mp hw).1
          rw [List.getElem?_set_self hl] at h
          cases h
        · rw [List.getElem?_set_ne hj] at h
          exact ⟨h, fun q => by omega⟩
      · rename_i hc
        refine ⟨h, fun q => ?_⟩
        have hj : j = k := by omega
        subst hj
        rw [hw] at h
        cases h
        exact hc q.2
    · rename_i hn
      refine ⟨h, fun q => ?_⟩
      have hj : j = k := by omega
      subst hj
      exact hn v h
theorem ab_LR.of1 {X : ab_C} {ls : Array Slot} {n : Nat} {lo : ab_Lo} {lv : List (Nat × Value)} {i : Nat} {v : Value} (hn : lo.length = n) (h2 : ∀ (i : Nat) (v : Value), lo[i]? = some (some v) → (i, ab_v X v) ∈ lv) (hi : i < lo.length) (h' : lv_has ls n ((i, ab_v X v) :: lv.filter (fun q => !(q.1 == i) && !(q.1 + 1 == i && q.2.category == 2)))) : ab_LR X ls n (ab_set1 lo i v) := by
  refine ⟨by simp [ab_set1, ab_clr_len, hn], _, h', fun j w hw => ?_⟩
  unfold ab_set1 at hw
  by_cases hj : i = j
  · subst hj
    rw [List.getElem?_set_self (by rw [ab_clr_len]; omega)] at hw
    cases hw
    exact List.mem_cons_self
  · rw [List.getElem?_set_ne hj] at hw
    obtain ⟨g1, g2⟩ := ab_clr_get hw
    refine List.mem_cons_of_mem _ (List.mem_filter.mpr ⟨h2 j w g1, ?_⟩)
    have e1 : (j == i) = false := by simp; exact fun q => hj q.symm
    have e3 : (j + 1 == i && (ab_v X w).category == 2) = false := by
      by_cases hq : j + 1 = i
      · have hc : ¬ w.category = 2 := fun q => g2 ⟨hq, q⟩
        rw [ab_v_cat]
        simp [hc]
      · simp [hq]
    simp only [e1, e3, Bool.not_false, Bool.and_self]
theorem ab_LR.of2 {X : ab_C} {ls : Array Slot} {n : Nat} {lo : ab_Lo} {lv : List (Nat × Value)} {i : Nat} {v : Value} (hn : lo.length = n) (h2 : ∀ (i : Nat) (v : Value), lo[i]? = some (some v) → (i, ab_v X v) ∈ lv) (hi : i + 1 < lo.length) (h' : lv_has ls n ((i, ab_v X v) :: lv.filter (fun q => !(q.1 == i) && (!(q.1 == i + 1) && !(q.1 + 1 == i && q.2.category == 2))))) : ab_LR X ls n (ab_set2 lo i v) := by
  refine ⟨by simp [ab_set2, ab_clr_len, hn], _, h', fun j w hw => ?_⟩
  have hj1 : i + 1 ≠ j := by
    intro q
    subst q
    unfold ab_set2 at hw
    rw [List.getElem?_set_self (by simp [ab_clr_len]; omega)] at hw
    cases hw
  unfold ab_set2 at hw
  rw [List.getElem?_set_ne hj1] at hw
  by_cases hj : i = j
  · subst hj
    rw [List.getElem?_set_self (by rw [ab_clr_len]; omega)] at hw
    cases hw
    exact List.mem_cons_self
  · rw [List.getElem?_set_ne hj] at hw
    obtain ⟨g1, g2⟩ := ab_clr_get hw
    refine List.mem_cons_of_mem _ (List.mem_filter.mpr ⟨h2 j w g1, ?_⟩)
    have e1 : (j == i) = false := by simp; exact fun q => hj q.symm
    have e2 : (j == i + 1) = false := by simp; exact fun q => hj1 q.symm
    have e3 : (j + 1 == i && (ab_v X w).category == 2) = false := by
      by_cases hq : j + 1 = i
      · have hc : ¬ w.category = 2 := fun q => g2 ⟨hq, q⟩
        rw [ab_v_cat]
        simp [hc]
      · simp [hq]
    simp only [e1, e2, e3, Bool.not_false, Bool.and_self]
end
section
/-! One plain instruction: what it does to locals, stack and heap (none: it isn't plain, or isn't at home here); j = (instruction, length, constant, class number, field place) -/
abbrev ab_R3 : Type := Option (ab_Lo × List Value × ab_H)
def ab_at (h : ab_H) (k : Nat) : Option va_E := if k < ab_NT then none else h[k - ab_NT]?
def ab_ldI (lo : ab_Lo) (i : Nat) (st : List Value) (h : ab_H) : ab_R3 := match lo[i]? with
  | some (some (.int x)) => some (lo, .int x :: st, h)
  | _ => none
def ab_ldL (lo : ab_Lo) (i : Nat) (st : List Value) (h : ab_H) : ab_R3 := match lo[i]? with
  | some (some (.long x)) => some (lo, .long x :: st, h)
  | _ => none
def ab_ldA (lo : ab_Lo) (i : Nat) (st : List Value) (h : ab_H) : ab_R3 := match lo[i]? with
  | some (some (.ref x)) => some (lo, .ref x :: st, h)
  | _ => none
def ab_stI (lo : ab_Lo) (i : Nat) (st : List Value) (h : ab_H) : ab_R3 := match st with
  | .int x :: r => if i < lo.length then some (ab_set1 lo i (.int x), r, h) else none
  | _ => none
def ab_stL (lo : ab_Lo) (i : Nat) (st : List Value) (h : ab_H) : ab_R3 := match st with
  | .long x :: r => if i + 1 < lo.length then some (ab_set2 lo i (.long x), r, h) else none
  | _ => none
def ab_stA (lo : ab_Lo) (i : Nat) (st : List Value) (h : ab_H) : ab_R3 := match st with
  | .ref x :: r => if i < lo.length then some (ab_set1 lo i (.ref x), r, h) else none
  | _ => none
def ab_i2 (lo : ab_Lo) (st : List Value) (h : ab_H) (f : Int32 → Int32 → Int32) : ab_R3 := match st with
  | .int y :: .int x :: r => some (lo, .int (f x y) :: r, h)
  | _ => none
def ab_l2 (lo : ab_Lo) (st : List Value) (h : ab_H) (f : Int64 → Int64 → Int64) : ab_R3 := match st with
  | .long y :: .long x :: r => some (lo, .long (f x y) :: r, h)
  | _ => none
def ab_ls (lo : ab_Lo) (st : List Value) (h : ab_H) (f : Int64 → Int32 → Int64) : ab_R3 := match st with
  | .int y :: .long x :: r => some (lo, .long (f x y) :: r, h)
  | _ => none
def ab_i1 (lo : ab_Lo) (st : List Value) (h : ab_H) (f : Int32 → Value) : ab_R3 := match st with
  | .int x :: r => some (lo, f x :: r, h)
  | _ => none
def ab_l1 (lo : ab_Lo) (st : List Value) (h : ab_H) (f : Int64 → Value) : ab_R3 := match st with
  | .long x :: r => some (lo, f x :: r, h)
  | _ => none
def ab_lc (lo : ab_Lo) (st : List Value) (h : ab_H) : ab_R3 := match st with
  | .long y :: .long x :: r => some (lo, .int (lg_cmp x y) :: r, h)
  | _ => none
def ab_inc (lo : ab_Lo) (i : Nat) (cv : Value) (st : List Value) (h : ab_H) : ab_R3 := match lo[i]?, cv with
  | some (some (.int x)), .int y => if i < lo.length then some (ab_set1 lo i (.int (x + y)), st, h) else none
  | _, _ => none
def ab_dup (lo : ab_Lo) (st : List Value) (h : ab_H) : ab_R3 := match st with
  | .int x :: r => some (lo, .int x :: .int x :: r, h)
  | .ref x :: r => some (lo, .ref x :: .ref x :: r, h)
  | _ => none
def ab_dup2 (lo : ab_Lo) (st : List Value) (h : ab_H) : ab_R3 := match st with
  | .int x :: .int y :: r => some (lo, .int x :: .int y :: .int x :: .int y :: r, h)
  | .int x :: .ref y :: r => some (lo, .int x :: .ref y :: .int x :: .ref y :: r, h)
  | _ => none
def ab_dupx1 (lo : ab_Lo) (st : List Value) (h : ab_H) : ab_R3 := match st with
  | .int x :: .int y :: r => some (lo, .int x :: .int y :: .int x :: r, h)
  | .int x :: .ref y :: r => some (lo, .int x :: .ref y :: .int x :: r, h)
  | _ => none
def ab_dupx2 (lo : ab_Lo) (st : List Value) (h : ab_H) : ab_R3 := match st with
  | .int x :: .int y :: .ref z :: r => some (lo, .int x :: .int y :: .ref z :: .int x :: r, h)
  | _ => none
def ab_pop (lo : ab_Lo) (st : List Value) (h : ab_H) : ab_R3 := match st with
  | .int _ :: r => some (lo, r, h)
  | .ref _ :: r => some (lo, r, h)
  | _ => none
/-- may this field hold this value, as it stands -/
def ab_fit (ty : FieldType) (v : Value) : Bool := match ty, v with
  | .int, .int _ => true
  | .long, .long _ => true
  | .object _, .ref _ => true
  | .array _, .ref _ => true
  | .boolean, .int x => x == 0 || x == 1
  | _, _ => false
def ab_fty (ci k : Nat) : FieldType := match vwCl[ci]? with
  | some q => (parseFieldDescriptor (q.2.1 k).2.2.1).getD .int
  | none => .int
/-- an index that is a number within -/
def ab_inb (i : Int32) (n : Nat) : Bool := decide (0 ≤ i.toInt) && decide (i.toInt < n)
def ab_ial (lo : ab_Lo) (st : List Value) (h : ab_H) : ab_R3 := match st with
  | .int i :: .ref a :: r => match ab_at h a with
    | some (.inl (t, n, .inl f)) => if t = 0 ∧ ab_inb i n = true then some (lo, .int (f i.toNatClampNeg) :: r, h) else none
    | _ => none
  | _ => none
def ab_ias (lo : ab_Lo) (st : List Value) (h : ab_H) : ab_R3 := match st with
  | .int x :: .int i :: .ref a :: r => match ab_at h a with
    | some (.inl (t, n, .inl f)) => if t = 0 ∧ ab_inb i n = true then some (lo, r, h.set (a - ab_NT) (.inl (0, n, .inl (upd f i.toNatClampNeg x)))) else none
    | _ => none
  | _ => none
def ab_aal (lo : ab_Lo) (st : List Value) (h : ab_H) : ab_R3 := match st with
  | .int i :: .ref a :: r => match ab_at h a with
    | some (.inl (t, n, .inr (.inr (.inr (.inr f))))) => if t = 2 ∧ ab_inb i n = true then match f i.toNatClampNeg with
      | some q => some (lo, .ref q :: r, h)
      | none => none
      else none
    | _ => none
  | _ => none
def ab_div (lo : ab_Lo) (st : List Value) (h : ab_H) : ab_R3 := match st with
  | .int y :: .int x :: r => if y = 0 then none else some (lo, .int (x / y) :: r, h)
  | _ => none
def ab_rem (lo : ab_Lo) (st : List Value) (h : ab_H) : ab_R3 := match st with
  | .int y :: .int x :: r => if y = 0 then none else some (lo, .int (x - x / y * y) :: r, h)
  | _ => none
def ab_gf (lo : ab_Lo) (st : List Value) (h : ab_H) (ci k : Nat) : ab_R3 := match st with
  | .ref a :: r => match ab_at h a with
    | some (.inr (c, fs)) => if c = ci then match fs[k]? with
      | some v => some (lo, v :: r, h)
      | none => none
      else none
    | _ => none
  | _ => none
def ab_pu (lo : ab_Lo) (st : List Value) (h : ab_H) (ci k : Nat) : ab_R3 := match st with
  | v :: .ref a :: r => match ab_at h a with
    | some (.inr (c, fs)) => if c = ci ∧ k < fs.length ∧ ab_fit (ab_fty ci k) v = true then some (lo, r, h.set (a - ab_NT) (.inr (c, fs.set k v))) else none
    | _ => none
  | _ => none
def ab_step (j : ab_J) (lo : ab_Lo) (st : List Value) (h : ab_H) : ab_R3 := match j.1 with
  | .iconst _ => some (lo, j.2.2.1 :: st, h)
  | .bipush _ => some (lo, j.2.2.1 :: st, h)
  | .sipush _ => some (lo, j.2.2.1 :: st, h)
  | .ldc _ => some (lo, j.2.2.1 :: st, h)
  | .ldc_w _ => some (lo, j.2.2.1 :: st, h)
  | .lconst _ => some (lo, j.2.2.1 :: st, h)
  | .ldc2_w _ => some (lo, j.2.2.1 :: st, h)
  | .iload_n i => ab_ldI lo i.val st h
  | .iload i => ab_ldI lo i st h
  | .istore_n i => ab_stI lo i.val st h
  | .istore i => ab_stI lo i st h
  | .lload_n i => ab_ldL lo i.val st h
  | .lload i => ab_ldL lo i st h
  | .lstore_n i => ab_stL lo i.val st h
  | .lstore i => ab_stL lo i st h
  | .aload_n i => ab_ldA lo i.val st h
  | .aload i => ab_ldA lo i st h
  | .astore_n i => ab_stA lo i.val st h
  | .astore i => ab_stA lo i st h
  | .iinc i _ => ab_inc lo i j.2.2.1 st h
  | .iadd => ab_i2 lo st h (fun x y => x + y)
  | .isub => ab_i2 lo st h (fun x y => x - y)
  | .imul => ab_i2 lo st h (fun x y => x * y)
  | .iand => ab_i2 lo st h (fun x y => x &&& y)
  | .ior => ab_i2 lo st h (fun x y => x ||| y)
  | .ixor => ab_i2 lo st h (fun x y => x ^^^ y)
  | .ishl => ab_i2 lo st h (fun x y => x <<< (y &&& 31))
  | .ishr => ab_i2 lo st h (fun x y => x >>> (y &&& 31))
  | .iushr => ab_i2 lo st h (fun x y => (x.toUInt32 >>> (y.toUInt32 &&& Int32.toUInt32 31)).toInt32)
  | .ladd => ab_l2 lo st h (fun x y => x + y)
  | .lsub => ab_l2 lo st h (fun x y => x - y)
  | .lmul => ab_l2 lo st h (fun x y => x * y)
  | .land => ab_l2 lo st h (fun x y => x &&& y)
  | .lor => ab_l2 lo st h (fun x y => x ||| y)
  | .lxor => ab_l2 lo st h (fun x y => x ^^^ y)
  | .lshl => ab_ls lo st h (fun x y => x <<< (y.toInt64 &&& 63))
  | .lshr => ab_ls lo st h (fun x y => x >>> (y.toInt64 &&& 63))
  | .lushr => ab_ls lo st h (fun x y => (x.toUInt64 >>> (y.toInt64.toUInt64 &&& Int64.toUInt64 63)).toInt64)
  | .ineg => ab_i1 lo st h (fun x => .int (-x))
  | .i2l => ab_i1 lo st h (fun x => .long x.toInt64)
  | .i2b => ab_i1 lo st h (fun x => .int x.toInt8.toInt32)
  | .i2s => ab_i1 lo st h (fun x => .int x.toInt16.toInt32)
  | .i2c => ab_i1 lo st h (fun x => .int (x.toUInt32 % 65536).toInt32)
  | .lneg => ab_l1 lo st h (fun x => .long (-x))
  | .l2i => ab_l1 lo st h (fun x => .int x.toInt32)
  | .lcmp => ab_lc lo st h
  | .dup => ab_dup lo st h
  | .dup2 => ab_dup2 lo st h
  | .dup_x1 => ab_dupx1 lo st h
  | .dup_x2 => ab_dupx2 lo st h
  | .pop => ab_pop lo st h
  | .iaload => if j.2.2.2.1 = 1 then ab_ial lo st h else none
  | .iastore => if j.2.2.2.1 = 1 then ab_ias lo st h else none
  | .aaload => if j.2.2.2.1 = 1 then ab_aal lo st h else none
  | .idiv => if j.2.2.2.1 = 1 then ab_div lo st h else none
  | .irem => if j.2.2.2.1 = 1 then ab_rem lo st h else none
  | .getfield _ => ab_gf lo st h j.2.2.2.1 j.2.2.2.2
  | .putfield _ => match j.2.2.1 with
    | .retAddr _ => none
    | _ => ab_pu lo st h j.2.2.2.1 j.2.2.2.2
  | .getstatic _ => if j.2.2.2.2 < ab_NT then some (lo, .ref j.2.2.2.2 :: st, h) else none
  | _ => none
/-- the tables' word at place i -/
def ab_wd (i : Nat) (w : Cond) : Bool := decide (lw_tbl[i]? = some w)
theorem ab_wd_in {i : Nat} {w : Cond} (h : ab_wd i w = true) : w ∈ lw_tbl := List.mem_of_getElem? (of_decide_eq_true h)
def ab_ti (cv : Value) : Nat := match cv with
  | .ref i => i
  | .retAddr i => i
  | _ => 0
/-- the field that 'own' links at idx is field k of class number ci: by the tables' word at place ti -/
def ab_fl (own : String) (idx ci k ti : Nat) : Bool := match vwCl[ci]? with
  | some q => decide (k < q.2.2) && ab_wd ti (Cond.fieldLink own idx (q.2.1 k).1 (q.2.1 k).2.1 (q.2.1 k).2.2.1)
  | none => false
def ab_pf (y : MethodName) (idx ci k ti : Nat) : Bool := match vwCl[ci]? with
  | some q => if (q.2.1 k).2.2.2 = true then decide (k < q.2.2) && (y.name == "<init>") && ((q.2.1 k).1 == y.cls) && ab_wd ti (Cond.fieldLink y.cls idx (q.2.1 k).1 (q.2.1 k).2.1 (q.2.1 k).2.2.1) else ab_fl y.cls idx ci k ti
  | none => false
def ab_cI (own : String) (i : Nat) (cv : Value) (ti : Nat) : Bool := match cv with
  | .int v => ab_wd ti (Cond.constant own i v)
  | _ => false
def ab_cL (own : String) (i : Nat) (cv : Value) (ti : Nat) : Bool := match cv with
  | .long v => ab_wd ti (Cond.constantLong own i v)
  | _ => false
theorem ab_cI_inv {own : String} {i ti : Nat} {cv : Value} (h : ab_cI own i cv ti = true) : ∃ v, cv = .int v ∧ Cond.constant own i v ∈ lw_tbl := by
  unfold ab_cI at h
  split at h
  · rename_i v
    exact ⟨v, rfl, ab_wd_in h⟩
  · cases h
theorem ab_cL_inv {own : String} {i ti : Nat} {cv : Value} (h : ab_cL own i cv ti = true) : ∃ v, cv = .long v ∧ Cond.constantLong own i v ∈ lw_tbl := by
  unfold ab_cL at h
  split at h
  · rename_i v
    exact ⟨v, rfl, ab_wd_in h⟩
  · cases h
/-- the plain instruction's length is as it should be, and the words that it needs are there -/
def ab_ck1 (y : MethodName) (j : ab_J) : Bool := match j.1 with
  | .iconst n => j.2.1 == 1 && decide (j.2.2.1 = .int (Int32.ofInt n))
  | .bipush n => j.2.1 == 2 && decide (j.2.2.1 = .int (Int8.ofInt n).toInt32)
  | .sipush n => j.2.1 == 3 && decide (j.2.2.1 = .int (Int16.ofInt n).toInt32)
  | .lconst n => j.2.1 == 1 && decide (j.2.2.1 = .long (Int64.ofNat n.val))
  | .ldc i => j.2.1 == 2 && ab_cI y.cls i j.2.2.1 j.2.2.2.2
  | .ldc_w i => j.2.1 == 3 && ab_cI y.cls i j.2.2.1 j.2.2.2.2
  | .ldc2_w i => j.2.1 == 3 && ab_cL y.cls i j.2.2.1 j.2.2.2.2
  | .iinc _ n => (j.2.1 == 3 || j.2.1 == 6) && decide (j.2.2.1 = .int (Int32.ofInt n))
  | .iload _ => j.2.1 == 2
  | .lload _ => j.2.1 == 2
  | .aload _ => j.2.1 == 2
  | .istore _ => j.2.1 == 2
  | .lstore _ => j.2.1 == 2
  | .astore _ => j.2.1 == 2
  | .getfield i => j.2.1 == 3 && ab_fl y.cls i j.2.2.2.1 j.2.2.2.2 (ab_ti j.2.2.1)
  | .putfield i => j.2.1 == 3 && ab_pf y i j.2.2.2.1 j.2.2.2.2 (ab_ti j.2.2.1)
  | .getstatic i => j.2.1 == 3 && ab_sts.any (fun q => q.2.2.2 == j.2.2.2.2 && ab_wd (ab_ti j.2.2.1) (Cond.fieldLink y.cls i q.1 q.2.1 q.2.2.1))
  | _ => j.2.1 == 1
theorem ab_ldI_inv {lo lo' : ab_Lo} {i : Nat} {st st' : List Value} {h h' : ab_H} (hs : ab_ldI lo i st h = some (lo', st', h')) : ∃ x, lo[i]? = some (some (.int x)) ∧ lo' = lo ∧ st' = .int x :: st ∧ h' = h := by
  unfold ab_ldI at hs
  split at hs
  · rename_i x hx0
    cases hs
    exact ⟨x, hx0, rfl, rfl, rfl⟩
  · cases hs
theorem ab_ldL_inv {lo lo' : ab_Lo} {i : Nat} {st st' : List Value} {h h' : ab_H} (hs : ab_ldL lo i st h = some (lo', st', h')) : ∃ x, lo[i]? = some (some (.long x)) ∧ lo' = lo ∧ st' = .long x :: st ∧ h' = h := by
  unfold ab_ldL at hs
  split at hs
  · rename_i x hx0
    cases hs
    exact ⟨x, hx0, rfl, rfl, rfl⟩
  · cases hs
theorem ab_ldA_inv {lo lo' : ab_Lo} {i : Nat} {st st' : List Value} {h h' : ab_H} (hs : ab_ldA lo i st h = some (lo', st', h')) : ∃ x, lo[i]? = some (some (.ref x)) ∧ lo' = lo ∧ st' = .ref x :: st ∧ h' = h := by
  unfold ab_ldA at hs
  split at hs
  · rename_i x hx0
    cases hs
    exact ⟨x, hx0, rfl, rfl, rfl⟩
  · cases hs
theorem ab_stI_inv {lo lo' : ab_Lo} {i : Nat} {st st' : List Value} {h h' : ab_H} (hs : ab_stI lo i st h = some (lo', st', h')) : ∃ x, st = .int x :: st' ∧ i < lo.length ∧ lo' = ab_set1 lo i (.int x) ∧ h' = h := by
  unfold ab_stI at hs
  split at hs
  · rename_i x r
    split at hs
    · rename_i hi
      cases hs
      exact ⟨x, rfl, hi, rfl, rfl⟩
    · cases hs
  · cases hs
theorem ab_stL_inv {lo lo' : ab_Lo} {i : Nat} {st st' : List Value} {h h' : ab_H} (hs : ab_stL lo i st h = some (lo', st', h')) : ∃ x, st = .long x :: st' ∧ i + 1 < lo.length ∧ lo' = ab_set2 lo i (.long x) ∧ h' = h := by
  unfold ab_stL at hs
  split at hs
  · rename_i x r
    split at hs
    · rename_i hi
      cases hs
      exact ⟨x, rfl, hi, rfl, rfl⟩
    · cases hs
  · cases hs
theorem ab_stA_inv {lo lo' : ab_Lo} {i : Nat} {st st' : List Value} {h h' : ab_H} (hs : ab_stA lo i st h = some (lo', st', h')) : ∃ x, st = .ref x :: st' ∧ i < lo.length ∧ lo' = ab_set1 lo i (.ref x) ∧ h' = h := by
  unfold ab_stA at hs
  split at hs
  · rename_i x r
    split at hs
    · rename_i hi
      cases hs
      exact ⟨x, rfl, hi, rfl, rfl⟩
    · cases hs
  · cases hs
theorem ab_i2_inv {lo lo' : ab_Lo} {st st' : List Value} {h h' : ab_H} {f : Int32 → Int32 → Int32} (hs : ab_i2 lo st h f = some (lo', st', h')) : ∃ x y r, st = .int y :: .int x :: r ∧ lo' = lo ∧ st' = .int (f x y) :: r ∧ h' = h := by
  unfold ab_i2 at hs
  split at hs
  · rename_i y x r
    cases hs
    exact ⟨x, y, r, rfl, rfl, rfl, rfl⟩
  · cases hs
theorem ab_l2_inv {lo lo' : ab_Lo} {st st' : List Value} {h h' : ab_H} {f : Int64 → Int64 → Int64} (hs : ab_l2 lo st h f = some (lo', st', h')) : ∃ x y r, st = .long y :: .long x :: r ∧ lo' = lo ∧ st' = .long (f x y) :: r ∧ h' = h := by
  unfold ab_l2 at hs
  split at hs
  · rename_i y x r
    cases hs
    exact ⟨x, y, r, rfl, rfl, rfl, rfl⟩
  · cases hs
theorem ab_ls_inv {lo lo' : ab_Lo} {st st' : List Value} {h h' : ab_H} {f : Int64 → Int32 → Int64} (hs : ab_ls lo st h f = some (lo', st', h')) : ∃ x y r, st = .int y :: .long x :: r ∧ lo' = lo ∧ st' = .long (f x y) :: r ∧ h' = h := by
  unfold ab_ls at hs
  split at hs
  · rename_i y x r
    cases hs
    exact ⟨x, y, r, rfl, rfl, rfl, rfl⟩
  · cases hs
theorem ab_i1_inv {lo lo' : ab_Lo} {st st' : List Value} {h h' : ab_H} {f : Int32 → Value} (hs : ab_i1 lo st h f = some (lo', st', h')) : ∃ x r, st = .int x :: r ∧ lo' = lo ∧ st' = f x :: r ∧ h' = h := by
  unfold ab_i1 at hs
  split at hs
  · rename_i x r
    cases hs
    exact ⟨x, r, rfl, rfl, rfl, rfl⟩
  · cases hs
theorem ab_l1_inv {lo lo' : ab_Lo} {st st' : List Value} {h h' : ab_H} {f : Int64 → Value} (hs : ab_l1 lo st h f = some (lo', st', h')) : ∃ x r, st = .long x :: r ∧ lo' = lo ∧ st' = f x :: r ∧ h' = h := by
  unfold ab_l1 at hs
  split at hs
  · rename_i x r
    cases hs
    exact ⟨x, r, rfl, rfl, rfl, rfl⟩
  · cases hs
theorem ab_lc_inv {lo lo' : ab_Lo} {st st' : List Value} {h h' : ab_H} (hs : ab_lc lo st h = some (lo', st', h')) : ∃ x y r, st = .long y :: .long x :: r ∧ lo' = lo ∧ st' = .int (lg_cmp x y) :: r ∧ h' = h := by
  unfold ab_lc at hs
  split at hs
  · rename_i y x r
    cases hs
    exact ⟨x, y, r, rfl, rfl, rfl, rfl⟩
  · cases hs
theorem ab_inc_inv {lo lo' : ab_Lo} {i : Nat} {cv : Value} {st st' : List Value} {h h' : ab_H} (hs : ab_inc lo i cv st h = some (lo', st', h')) : ∃ x y, lo[i]? = some (some (.int x)) ∧ cv = .int y ∧ i < lo.length ∧ lo' = ab_set1 lo i (.int (x + y)) ∧ st' = st ∧ h' = h := by
  unfold ab_inc at hs
  split at hs
  · rename_i x y hx0
    split at hs
    · rename_i hi
      cases hs
      exact ⟨x, y, hx0, rfl, hi, rfl, rfl, rfl⟩
    · cases hs
  · cases hs
theorem ab_gf_inv {lo lo' : ab_Lo} {ci k : Nat} {st st' : List Value} {h h' : ab_H} (hs : ab_gf lo st h ci k = some (lo', st', h')) : ∃ a r fs v, st = .ref a :: r ∧ ¬ a < ab_NT ∧ h[a - ab_NT]? = some (.inr (ci, fs)) ∧ fs[k]? = some v ∧ lo' = lo ∧ st' = v :: r ∧ h' = h := by
  unfold ab_gf ab_at at hs
  split at hs
  · rename_i a r
    split at hs
    · rename_i c fs hc
      split at hc
      · cases hc
      · rename_i ha
        split at hs
        · rename_i hci
          subst hci
          split at hs
          · rename_i v hv
            cases hs
            exact ⟨a, r, fs, v, rfl, ha, hc, hv, rfl, rfl, rfl⟩
          · cases hs
        · cases hs
    · cases hs
  · cases hs
theorem ab_pu_inv {lo lo' : ab_Lo} {ci k : Nat} {st st' : List Value} {h h' : ab_H} (hs : ab_pu lo st h ci k = some (lo', st', h')) : ∃ a fs v, st = v :: .ref a :: st' ∧ ¬ a < ab_NT ∧ h[a - ab_NT]? = some (.inr (ci, fs)) ∧ k < fs.length ∧ ab_fit (ab_fty ci k) v = true ∧ lo' = lo ∧ h' = h.set (a - ab_NT) (.inr (ci, fs.set k v)) := by
  unfold ab_pu ab_at at hs
  split at hs
  · rename_i v a r
    split at hs
    · rename_i c fs hc
      split at hc
      · cases hc
      · rename_i ha
        split at hs
        · rename_i hci
          obtain ⟨rfl, hk, hf⟩ := hci
          cases hs
          exact ⟨a, fs, v, rfl, ha, hc, hk, hf, rfl, rfl⟩
        · cases hs
    · cases hs
  · cases hs
theorem ab_fit_ok {X : ab_C} {ty : FieldType} {v : Value} (h : ab_fit ty v = true) : narrow ty (ab_v X v) = ab_v X v ∧ fits ty (ab_v X v) = true := by
  unfold ab_fit at h
  split at h
  · exact ⟨rfl, rfl⟩
  · exact ⟨rfl, rfl⟩
  · exact ⟨rfl, rfl⟩
  · exact ⟨rfl, rfl⟩
  · rename_i x
    simp only [Bool.or_eq_true, beq_iff_eq] at h
    rcases h with rfl | rfl
    · exact ⟨show narrow .boolean (.int 0) = .int 0 by decide, show fits .boolean (.int 0) = true by decide⟩
    · exact ⟨show narrow .boolean (.int 1) = .int 1 by decide, show fits .boolean (.int 1) = true by decide⟩
  · cases h
theorem ab_at_own {h : ab_H} {a : Nat} {c : va_E} (hc : ab_at h a = some c) : ¬ a < ab_NT ∧ h[a - ab_NT]? = some c := by
  unfold ab_at at hc
  split at hc
  · cases hc
  · rename_i ha
    exact ⟨ha, hc⟩
theorem ab_ad_tab {X : ab_C} {a : Nat} (ha : a < ab_NT) : ab_v X (.ref a) = .ref (X.2.2.2.2.1 a) := by
  show Value.ref (ab_ad X a) = _
  unfold ab_ad
  rw [if_pos ha]
theorem ab_inb_ok {i : Int32} {n : Nat} (h : ab_inb i n = true) : vp_in i n := by
  unfold ab_inb at h
  simp only [Bool.and_eq_true, decide_eq_true_eq] at h
  exact vp_in_iff.mpr h
theorem ab_ial_inv {lo lo' : ab_Lo} {st st' : List Value} {h h' : ab_H} (hs : ab_ial lo st h = some (lo', st', h')) : ∃ i a r n f, st = .int i :: .ref a :: r ∧ ab_at h a = some (.inl (0, n, .inl f)) ∧ vp_in i n ∧ lo' = lo ∧ st' = .int (f i.toNatClampNeg) :: r ∧ h' = h := by
  unfold ab_ial at hs
  split at hs
  · rename_i i a r
    split at hs
    · rename_i t n f hc
      split at hs
      · rename_i hg
        obtain ⟨rfl, hg⟩ := hg
        cases hs
        exact ⟨i, a, r, n, f, rfl, hc, ab_inb_ok hg, rfl, rfl, rfl⟩
      · cases hs
    · cases hs
  · cases hs
theorem ab_ias_inv {lo lo' : ab_Lo} {st st' : List Value} {h h' : ab_H} (hs : ab_ias lo st h = some (lo', st', h')) : ∃ i x a n f, st = .int x :: .int i :: .ref a :: st' ∧ ab_at h a = some (.inl (0, n, .inl f)) ∧ vp_in i n ∧ lo' = lo ∧ h' = h.set (a - ab_NT) (.inl (0, n, .inl (upd f i.toNatClampNeg x))) := by
  unfold ab_ias at hs
  split at hs
  · rename_i x i a r
    split at hs
    · rename_i t n f hc
      split at hs
      · rename_i hg
        obtain ⟨rfl, hg⟩ := hg
        cases hs
        exact ⟨i, x, a, n, f, rfl, hc, ab_inb_ok hg, rfl, rfl⟩
      · cases hs
    · cases hs
  · cases hs
theorem ab_aal_inv {lo lo' : ab_Lo} {st st' : List Value} {h h' : ab_H} (hs : ab_aal lo st h = some (lo', st', h')) : ∃ i a r n f q, st = .int i :: .ref a :: r ∧ ab_at h a = some (.inl (2, n, .inr (.inr (.inr (.inr f))))) ∧ vp_in i n ∧ f i.toNatClampNeg = some q ∧ lo' = lo ∧ st' = .ref q :: r ∧ h' = h := by
  unfold ab_aal at hs
  split at hs
  · rename_i i a r
    split at hs
    · rename_i t n f hc
      split at hs
      · rename_i hg
        obtain ⟨rfl, hg⟩ := hg
        split at hs
        · rename_i q hq
          cases hs
          exact ⟨i, a, r, n, f, q, rfl, hc, ab_inb_ok hg, hq, rfl, rfl, rfl⟩
        · cases hs
      · cases hs
    · cases hs
  · cases hs
theorem ab_div_inv {lo lo' : ab_Lo} {st st' : List Value} {h h' : ab_H} (hs : ab_div lo st h = some (lo', st', h')) : ∃ x y r, st = .int y :: .int x :: r ∧ ¬ y = 0 ∧ lo' = lo ∧ st' = .int (x / y) :: r ∧ h' = h := by
  unfold ab_div at hs
  split at hs
  · rename_i y x r
    split at hs
    · cases hs
    · rename_i hy
      cases hs
      exact ⟨x, y, r, rfl, hy, rfl, rfl, rfl⟩
  · cases hs
theorem ab_rem_inv {lo lo' : ab_Lo} {st st' : List Value} {h h' : ab_H} (hs : ab_rem lo st h = some (lo', st', h')) : ∃ x y r, st = .int y :: .int x :: r ∧ ¬ y = 0 ∧ lo' = lo ∧ st' = .int (x - x / y * y) :: r ∧ h' = h := by
  unfold ab_rem at hs
  split at hs
  · rename_i y x r
    split at hs
    · cases hs
    · rename_i hy
      cases hs
      exact ⟨x, y, r, rfl, hy, rfl, rfl, rfl⟩
  · cases hs
end
section
/-! The plain instructions keep the machine in step -/
def ab_tyq (q : vw_C) (k : Nat) : FieldType := (parseFieldDescriptor (q.2.1 k).2.2.1).getD .int
def ab_clsB (q : vw_C) : Bool := (u_ws q.1 q.2.1 q.2.2).all (fun w => decide (w ∈ lw_tbl) && goodWord w) && ((List.range q.2.2).all (fun k => decide (parseFieldDescriptor (q.2.1 k).2.2.1 = some (ab_tyq q k))) && (List.range q.2.2).all (fun a => (List.range q.2.2).all (fun b => decide (a = b) || decide ((q.2.1 a).2.1 ≠ (q.2.1 b).2.1))))
theorem ab_clsB_ok : vwCl.all ab_clsB = true := by decide +kernel
theorem ab_cls {ci : Nat} {C : String} {T : u_T} {N : Nat} (h : vwCl[ci]? = some (C, T, N)) : (∀ w ∈ u_ws C T N, w ∈ ab_tb) ∧ (∀ k, k < N → parseFieldDescriptor (T k).2.2.1 = some (ab_tyq (C, T, N) k)) ∧ (∀ a, a < N → ∀ b, b < N → a ≠ b → (T a).2.1 ≠ (T b).2.1) := by
  have h1 := List.all_eq_true.mp ab_clsB_ok _ (List.mem_of_getElem? h)
  unfold ab_clsB at h1
  simp only [Bool.and_eq_true, List.all_eq_true, decide_eq_true_eq, List.mem_range, Bool.or_eq_true] at h1
  exact ⟨fun w hw => ab_in (h1.1 w hw).1 (h1.1 w hw).2, h1.2.1, fun a ha b hb hne => (h1.2.2 a ha b hb).resolve_left hne⟩
theorem ab_fl_inv {own : String} {idx ci k ti : Nat} (h : ab_fl own idx ci k ti = true) : ∃ (C : String) (T : u_T) (N : Nat), vwCl[ci]? = some (C, T, N) ∧ k < N ∧ Cond.fieldLink own idx (T k).1 (T k).2.1 (T k).2.2.1 ∈ lw_tbl := by
  unfold ab_fl at h
  split at h
  · rename_i q hq
    obtain ⟨C, T, N⟩ := q
    simp only [Bool.and_eq_true, decide_eq_true_eq] at h
    exact ⟨C, T, N, hq, h.1, ab_wd_in h.2⟩
  · cases h
theorem ab_ad_own {X : ab_C} {a : Nat} (ha : ¬ a < ab_NT) : ab_v X (.ref a) = .ref (ab_b X + (a - ab_NT)) := by
  show Value.ref (ab_ad X a) = _
  unfold ab_ad
  rw [if_neg ha]
/-- an object's cell, and a field of it -/
theorem ab_obj {X : ab_C} {h : ab_H} {H : Heap} {s : State} (hK : va_K X.2.1 vwCl (ab_tys X) s) (hRel : ab_Rel X h H) {k ci : Nat} {fs : List Value} (hc0 : h[k]? = some (.inr (ci, fs))) {C : String} {T : u_T} {N : Nat} (hcl : vwCl[ci]? = some (C, T, N)) :
    ∃ cell : Cell, H[ab_b X + k]? = some cell ∧ cell.cls = X.2.1.1 ci ∧ cell.vm = .none ∧ (∀ j, j < N → cell.slots[X.2.1.2 ci j]? = some (vp_V (fs.map (ab_v X)) j)) := by
  have h0 : va_at X.2.1 vwCl (ab_b X + k, .inr (ci, fs.map (ab_v X))) H := hRel.2 k _ (ab_ws_at hc0)
  obtain ⟨r, h1, cell, q1, q2, q3, q4⟩ := h0
  have hr : r = (C, T, N) := Option.some.inj (h1.symm.trans hcl)
  subst hr
  exact ⟨cell, q1, q2, q3, q4⟩
/-- a cell changed, all others as they were -/
theorem ab_Rel.set {X : ab_C} {h : ab_H} {H H1 : Heap} (hRel : ab_Rel X h H) {k : Nat} {c0 c1 : va_E} (hc0 : h[k]? = some c0) (he : va_at X.2.1 vwCl (ab_b X + k, ab_c X c1) H1) (hz : H1.size = H.size) (oq : ∀ q : Nat, q ≠ ab_b X + k → H1[q]? = H[q]?) : ab_Rel X (h.set k c1) H1 := by
  refine ⟨by rw [hz, List.length_set]; exact hRel.1, ?_⟩
  rw [← ab_ws_set]
  exact hRel.2.set (ab_ws_D X h) (ab_ws_at hc0) he oq
theorem ab_pf_inv {y : MethodName} {idx ci k ti : Nat} (h : ab_pf y idx ci k ti = true) : ∃ (C : String) (T : u_T) (N : Nat), vwCl[ci]? = some (C, T, N) ∧ k < N ∧ (((T k).2.2.2 = true ∧ y.name = "<init>" ∧ (T k).1 = y.cls ∧ Cond.fieldLink y.cls idx (T k).1 (T k).2.1 (T k).2.2.1 ∈ lw_tbl) ∨ ((T k).2.2.2 = false ∧ Cond.fieldLink y.cls idx (T k).1 (T k).2.1 (T k).2.2.1 ∈ lw_tbl)) := by
  unfold ab_pf at h
  split at h
  · rename_i q hq
    obtain ⟨C, T, N⟩ := q
    split at h
    · rename_i hf
      simp only [Bool.and_eq_true, decide_eq_true_eq, beq_iff_eq] at h
      exact ⟨C, T, N, hq, h.1.1.1, Or.inl ⟨hf, h.1.1.2, h.1.2, ab_wd_in h.2⟩⟩
    · rename_i hf
      obtain ⟨C', T', N', hq', hk, hl⟩ := ab_fl_inv h
      have e : (C', T', N') = (C, T, N) := Option.some.inj (hq'.symm.trans hq)
      cases e
      exact ⟨C, T, N, hq, hk, Or.inr ⟨by simpa using hf, hl⟩⟩
  · cases h
section ABP
variable {p : Program} {l : Launch} {e : Env} {R : Room} {s : State} {m : MethodId} {args : Array Value} {below : List Frame} {meth : Method} {c : Code} {H : Heap} {locs : List Loc} {cells slots : Nat} {Q : State → Prop}
variable {cc : ByteArray} {pc : Nat} {ls : Array Slot} {rest : List Value}
/-- putfield, the three ways that a field is linked -/
theorem ab_putf {X : ab_C} {h : ab_H} {y : MethodName} (hx : p.tables.exec = Jvm.exec) (hb : c.code = cc) (hts : ∀ w ∈ ab_tb, w.before args s = true) (hown : s.vm.findClass y.cls = some m.cls) (hnm : meth.name = y.name) (hK : va_K X.2.1 vwCl (ab_tys X) s) (hRel : ab_Rel X h H) (hS : va_S (ab_A X) s.heap H locs)
    {k ci idx kf ti : Nat} {fs : List Value} {v : Value} (hc0 : h[k]? = some (.inr (ci, fs))) (hck : ab_pf y idx ci kf ti = true) (hkl : kf < fs.length) (hfit : ∀ ty, ty = ab_fty ci kf → narrow ty (ab_v X v) = ab_v X v ∧ fits ty (ab_v X v) = true) (hdg : decode cc pc = .ok (.putfield idx, 3))
    (kk : ∀ (H1 : Heap) (locs1 : List Loc), ab_Rel X (h.set k (.inr (ci, fs.set kf v))) H1 → va_S (ab_A X) s.heap H1 locs1 → W p l e R s m args below meth c H1 locs1 cells slots Q (F0 m (pc + 3) ls rest)) : W p l e R s m args below meth c H locs cells slots Q (F0 m pc ls (ab_v X v :: .ref (ab_b X + k) :: rest)) := by
  obtain ⟨C, T, N, hcl, hkN, hl⟩ := ab_pf_inv hck
  obtain ⟨hin, hty, hnms⟩ := ab_cls hcl
  obtain ⟨cell, q1, q2, q3, q4⟩ := ab_obj hK hRel hc0 hcl
  obtain ⟨hSl, hfc, kC, hkC, hkind⟩ := hK.1 ci _ hcl
  obtain ⟨cf, kc, fi, f, hi, hsl⟩ := hSl kf hkN
  have hap := va_apart (own := y.cls) hts hin (ab_tyq (C, T, N)) hty hnms hK hcl
  have hst := (u_facts hfc hkC (u_lays hts hin hkN) hi).1
  have htyE : ab_fty ci kf = ab_tyq (C, T, N) kf := by unfold ab_fty; rw [hcl]; rfl
  obtain ⟨hn, hf⟩ := hfit _ htyE.symm
  have hd := hty kf hkN
  have fin : ∀ H' : Heap, H'[ab_b X + k]? = some (cell.setSlot f.slot (ab_v X v)) → H'.size = H.size → (∀ q, q ≠ ab_b X + k → H'[q]? = H[q]?) → W p l e R s m args below meth c H' (locs ++ [⟨ab_b X + k, f.slot⟩]) cells slots Q (F0 m (pc + 3) ls rest) := by
    intro H' e1 e2 e3
    rw [hsl] at e1 ⊢
    refine kk H' _ (hRel.set hc0 ⟨_, hcl, ?_⟩ e2 e3) (hS.put e2 e3 (Nat.le_add_right _ _))
    refine t_OB.to (V := updV (vp_V (fs.map (ab_v X))) kf (ab_v X v)) ⟨_, e1, q2, q3, t_set q4 hap hkN (ab_v X v)⟩ (fun j _ => ?_)
    rw [vp_updV_set (by rw [List.length_map]; exact hkl), ← List.map_set]
  rcases hl with ⟨hfin, hyn, hyc, hlk⟩ | ⟨hfin, hlk⟩
  · have hlay := hts _ (hin _ (u_in_lay hkN))
    unfold u_lay at hlay
    rw [if_pos hfin] at hlay
    have hcf : m.cls = cf := by
      obtain ⟨_, _, c', _, _, _, -, -, hf', -, -, -, hown2, -⟩ := Cond.laysFinal_spec hlay
      have e1 : c' = cf := by have := hi.symm.trans hf'; simp at this; exact this.1.symm
      rw [hyc] at hown2
      rw [← e1]; exact Option.some.inj (hown.symm.trans hown2)
    exact W.putFinK hx hb hown (hts _ (ab_in hlk rfl)) hi hst hcf (hnm.trans hyn) (by rw [q2]; exact u_fits hfc hkC hkind (Or.inr hlay) hi hd hn hf) q1 q3 (by rw [hsl]; exact k2_hasslot (q4 kf hkN)) rfl rfl hdg fin
  · have hlay := hts _ (hin _ (u_in_lay hkN))
    unfold u_lay at hlay
    rw [if_neg (by rw [hfin]; decide)] at hlay
    have h6 := u_store hfc hkC hkind hlay hi hd hn hf
    exact W.putK hx hb (f := f) ⟨hown, hts _ (ab_in hlk rfl), ⟨_, _, _, hi⟩, hst⟩ (by rw [q2]; exact h6) q1 q3 (by rw [hsl]; exact k2_hasslot (q4 kf hkN)) rfl rfl hdg fin
theorem ab_Wiast {X : ab_C} {h : ab_H} (hx : p.tables.exec = Jvm.exec) (hb : c.code = cc) (hK : va_K X.2.1 vwCl (ab_tys X) s) (hRel : ab_Rel X h H) (hS : va_S (ab_A X) s.heap H locs) {k n : Nat} {f : Nat → Int32} {i x : Int32} (hc1 : h[k]? = some (.inl (0, n, .inl f))) (hin : vp_in i n) (hd : decode cc pc = .ok (.iastore, 1))
    (kk : ∀ (H1 : Heap) (locs1 : List Loc), ab_Rel X (h.set k (.inl (0, n, .inl (upd f i.toNatClampNeg x)))) H1 → va_S (ab_A X) s.heap H1 locs1 → W p l e R s m args below meth c H1 locs1 cells slots Q (F0 m (pc + 1) ls rest)) : W p l e R s m args below meth c H locs cells slots Q (F0 m pc ls (.int x :: .int i :: .ref (ab_b X + k) :: rest)) := by
  have hcell : H[ab_b X + k]? = some (arrV (X.2.2.1 0) n (fun j => .int (f j))) := hRel.2 _ _ (ab_ws_at hc1)
  refine W.iast hx hb hcell ((hK.2 0 _ rfl).1 n (fun j => .int (f j))) (fun q => by cases q) (by rw [arrV_size]; exact hin) rfl rfl hd fun H1 e1 z oq => ?_
  refine kk H1 _ (hRel.set hc1 ?_ z oq) (hS.put z oq (Nat.le_add_right _ _))
  show H1[ab_b X + k]? = some (arrV (X.2.2.1 0) n (fun j => .int (upd f i.toNatClampNeg x j)))
  rw [e1, arrV_store]
  congr 2
  funext q
  by_cases hq : q = i.toNatClampNeg <;> simp [updV, upd, hq]
theorem ab_Wlast {X : ab_C} {h : ab_H} (hx : p.tables.exec = Jvm.exec) (hb : c.code = cc) (hK : va_K X.2.1 vwCl (ab_tys X) s) (hRel : ab_Rel X h H) (hS : va_S (ab_A X) s.heap H locs) {k n : Nat} {f : Nat → Int64} {i : Int32} {x : Int64} (hc1 : h[k]? = some (.inl (1, n, .inr (.inl f)))) (hin : vp_in i n) (hd : decode cc pc = .ok (.lastore, 1))
    (kk : ∀ (H1 : Heap) (locs1 : List Loc), ab_Rel X (h.set k (.inl (1, n, .inr (.inl (vp_updL f i.toNatClampNeg x))))) H1 → va_S (ab_A X) s.heap H1 locs1 → W p l e R s m args below meth c H1 locs1 cells slots Q (F0 m (pc + 1) ls rest)) : W p l e R s m args below meth c H locs cells slots Q (F0 m pc ls (.long x :: .int i :: .ref (ab_b X + k) :: rest)) := by
  have hcell : H[ab_b X + k]? = some (arrV (X.2.2.1 1) n (fun j => .long (f j))) := hRel.2 _ _ (ab_ws_at hc1)
  refine W.last hx hb hcell ((hK.2 1 _ rfl).1 n (fun j => .long (f j))) (fun q => by cases q) (by rw [arrV_size]; exact hin) rfl rfl hd fun H1 e1 z oq => ?_
  refine kk H1 _ (hRel.set hc1 ?_ z oq) (hS.put z oq (Nat.le_add_right _ _))
  show H1[ab_b X + k]? = some (arrV (X.2.2.1 1) n (fun j => .long (vp_updL f i.toNatClampNeg x j)))
  rw [e1, arrV_store]
  congr 2
  funext q
  by_cases hq : q = i.toNatClampNeg <;> simp [updV, vp_updL, hq]
theorem ab_Waald {X : ab_C} {h : ab_H} (hx : p.tables.exec = Jvm.exec) (hb : c.code = cc) (hK : va_K X.2.1 vwCl (ab_tys X) s) (hRel : ab_Rel X h H) {k n : Nat} {f : Nat → Option Nat} {i : Int32} (hc1 : h[k]? = some (.inl (2, n, .inr (.inr (.inr (.inr f)))))) (hin : vp_in i n) {q : Nat} (hq : f i.toNatClampNeg = some q) (hd : decode cc pc = .ok (.aaload, 1))
    (kk : W p l e R s m args below meth c H locs cells slots Q (F0 m (pc + 1) ls (ab_v X (.ref q) :: rest))) : W p l e R s m args below meth c H locs cells slots Q (F0 m pc ls (.int i :: .ref (ab_b X + k) :: rest)) := by
  have hcell : H[ab_b X + k]? = some (arrV (X.2.2.1 2) n (fun j => va_rf ((f j).map (ab_ad X)))) := hRel.2 _ _ (ab_ws_at hc1)
  have hlt : i.toNatClampNeg < n := Nat.not_le.mp fun q => hin (Or.inr q)
  refine W.aald (v := ab_v X (.ref q)) (ty := .array .int) hx hb hcell ((hK.2 2 _ rfl).1 n _) rfl (fun q => by cases q) (by rw [arrV_size]; exact hin) (by rw [arrV_read _ _ hlt, hq]; rfl) rfl rfl hd kk
end ABP

set_option maxHeartbeats 4000000 in
theorem ab_step_ok {X : ab_C} {M : ab_Mt} {d bc bs pc : Nat} {lo lo' : ab_Lo} {st st' : List Value} {h h' : ab_H} {Q : Option Value → ab_H → Prop} {j : ab_J} (hd : decode M.2.1 pc = .ok (j.1, j.2.1)) (hc : ab_ck1 M.1 j = true) (hs : ab_step j lo st h = some (lo', st', h')) (k : ab_W X M d bc bs (pc + j.2.1) lo' st' h' Q) : ab_W X M d bc bs pc lo st h Q := by
  obtain ⟨ins, len, cv, ci, kf⟩ := j
  intro p e R s m args below meth c H locs cells slots ls F V
  have k := fun H locs ls V => k p e R s m args below meth c H locs cells slots ls F V
  obtain ⟨hx, hb, hr, hml, hown, hts, hlk, hnm, hok, hfr, hlo⟩ := F
  obtain ⟨v1, v2, hS, hRel, hLR⟩ := V
  dsimp only at hd
  cases ins with
  | iconst n =>
    have hs : some (lo, cv :: st, h) = some (lo', st', h') := hs
    cases hs
    have hc : (len == 1 && decide (cv = .int (Int32.ofInt n))) = true := hc
    simp only [Bool.and_eq_true, beq_iff_eq, decide_eq_true_eq] at hc
    obtain ⟨rfl, rfl⟩ := hc
    exact lv_iconst hx hb hd rfl (k H locs ls ⟨v1, v2, hS, hRel, hLR⟩)
  | bipush n =>
    have hs : some (lo, cv :: st, h) = some (lo', st', h') := hs
    cases hs
    have hc : (len == 2 && decide (cv = .int (Int8.ofInt n).toInt32)) = true := hc
    simp only [Bool.and_eq_true, beq_iff_eq, decide_eq_true_eq] at hc
    obtain ⟨rfl, rfl⟩ := hc
    exact lv_bipush hx hb hd rfl (k H locs ls ⟨v1, v2, hS, hRel, hLR⟩)
  | sipush n =>
    have hs : some (lo, cv :: st, h) = some (lo', st', h') := hs
    cases hs
    have hc : (len == 3 && decide (cv = .int (Int16.ofInt n).toInt32)) = true := hc
    simp only [Bool.and_eq_true, beq_iff_eq, decide_eq_true_eq] at hc
    obtain ⟨rfl, rfl⟩ := hc
    exact lv_sipush hx hb hd rfl (k H locs ls ⟨v1, v2, hS, hRel, hLR⟩)
  | lconst n =>
    have hs : some (lo, cv :: st, h) = some (lo', st', h') := hs
    cases hs
    have hc : (len == 1 && decide (cv = .long (Int64.ofNat n.val))) = true := hc
    simp only [Bool.and_eq_true, beq_iff_eq, decide_eq_true_eq] at hc
    obtain ⟨rfl, rfl⟩ := hc
    exact lv_lconst hx hb hd rfl (k H locs ls ⟨v1, v2, hS, hRel, hLR⟩)
  | ldc i =>
    have hs : some (lo, cv :: st, h) = some (lo', st', h') := hs
    cases hs
    have hc : (len == 2 && ab_cI M.1.cls i cv kf) = true := hc
    simp only [Bool.and_eq_true, beq_iff_eq] at hc
    obtain ⟨rfl, hc⟩ := hc
    obtain ⟨v, rfl, hcm⟩ := ab_cI_inv hc
    exact lv_ldc hx hb hown (hts _ (ab_in hcm rfl)) hd (k H locs ls ⟨v1, v2, hS, hRel, hLR⟩)
  | ldc_w i =>
    have hs : some (lo, cv :: st, h) = some (lo', st', h') := hs
    cases hs
    have hc : (len == 3 && ab_cI M.1.cls i cv kf) = true := hc
    simp only [Bool.and_eq_true, beq_iff_eq] at hc
    obtain ⟨rfl, hc⟩ := hc
    obtain ⟨v, rfl, hcm⟩ := ab_cI_inv hc
    exact lv_ldcw hx hb hown (hts _ (ab_in hcm rfl)) hd (k H locs ls ⟨v1, v2, hS, hRel, hLR⟩)
  | ldc2_w i =>
    have hs : some (lo, cv :: st, h) = some (lo', st', h') := hs
    cases hs
    have hc : (len == 3 && ab_cL M.1.cls i cv kf) = true := hc
    simp only [Bool.and_eq_true, beq_iff_eq] at hc
    obtain ⟨rfl, hc⟩ := hc
    obtain ⟨v, rfl, hcm⟩ := ab_cL_inv hc
    exact lv_ldc2 hx hb hown (hts _ (ab_in hcm rfl)) hd (k H locs ls ⟨v1, v2, hS, hRel, hLR⟩)
  | iload_n i =>
    obtain ⟨x, hx0, rfl, rfl, rfl⟩ := ab_ldI_inv (i := i.val) hs
    obtain rfl : len = 1 := eq_of_beq (show (len == 1) = true from hc)
    exact lv_iload_n hx hb hd rfl (hLR.get hx0) (k H locs ls ⟨v1, v2, hS, hRel, hLR⟩)
  | iload i =>
    obtain ⟨x, hx0, rfl, rfl, rfl⟩ := ab_ldI_inv (i := i) hs
    obtain rfl : len = 2 := eq_of_beq (show (len == 2) = true from hc)
    exact lv_iload hx hb hd (hLR.get hx0) (k H locs ls ⟨v1, v2, hS, hRel, hLR⟩)
  | lload_n i =>
    obtain ⟨x, hx0, rfl, rfl, rfl⟩ := ab_ldL_inv (i := i.val) hs
    obtain rfl : len = 1 := eq_of_beq (show (len == 1) = true from hc)
    exact lv_lload_n hx hb hd rfl (hLR.get hx0) (k H locs ls ⟨v1, v2, hS, hRel, hLR⟩)
  | lload i =>
    obtain ⟨x, hx0, rfl, rfl, rfl⟩ := ab_ldL_inv (i := i) hs
    obtain rfl : len = 2 := eq_of_beq (show (len == 2) = true from hc)
    exact lv_lload hx hb hd (hLR.get hx0) (k H locs ls ⟨v1, v2, hS, hRel, hLR⟩)
  | aload_n i =>
    obtain ⟨x, hx0, rfl, rfl, rfl⟩ := ab_ldA_inv (i := i.val) hs
    obtain rfl : len = 1 := eq_of_beq (show (len == 1) = true from hc)
    exact lv_aload_n hx hb hd rfl (hLR.get hx0) (k H locs ls ⟨v1, v2, hS, hRel, hLR⟩)
  | aload i =>
    obtain ⟨x, hx0, rfl, rfl, rfl⟩ := ab_ldA_inv (i := i) hs
    obtain rfl : len = 2 := eq_of_beq (show (len == 2) = true from hc)
    exact lv_aload hx hb hd (hLR.get hx0) (k H locs ls ⟨v1, v2, hS, hRel, hLR⟩)
  | istore_n i =>
    obtain ⟨x, rfl, hi, rfl, rfl⟩ := ab_stI_inv (i := i.val) hs
    obtain rfl : len = 1 := eq_of_beq (show (len == 1) = true from hc)
    obtain ⟨hn, lv, h1, h2⟩ := hLR
    exact lv_istore_n hx hb hd rfl h1 (by omega) rfl (fun ls' g => k H locs ls' ⟨v1, v2, hS, hRel, ab_LR.of1 (v := .int x) hn h2 hi g⟩)
  | istore i =>
    obtain ⟨x, rfl, hi, rfl, rfl⟩ := ab_stI_inv (i := i) hs
    obtain rfl : len = 2 := eq_of_beq (show (len == 2) = true from hc)
    obtain ⟨hn, lv, h1, h2⟩ := hLR
    exact lv_istore hx hb hd h1 (by omega) rfl (fun ls' g => k H locs ls' ⟨v1, v2, hS, hRel, ab_LR.of1 (v := .int x) hn h2 hi g⟩)
  | lstore_n i =>
    obtain ⟨x, rfl, hi, rfl, rfl⟩ := ab_stL_inv (i := i.val) hs
    obtain rfl : len = 1 := eq_of_beq (show (len == 1) = true from hc)
    obtain ⟨hn, lv, h1, h2⟩ := hLR
    exact lv_lstore_n hx hb hd rfl h1 (by omega) rfl (fun ls' g => k H locs ls' ⟨v1, v2, hS, hRel, ab_LR.of2 (v := .long x) hn h2 hi g⟩)
  | lstore i =>
    obtain ⟨x, rfl, hi, rfl, rfl⟩ := ab_stL_inv (i := i) hs
    obtain rfl : len = 2 := eq_of_beq (show (len == 2) = true from hc)
    obtain ⟨hn, lv, h1, h2⟩ := hLR
    exact lv_lstore hx hb hd h1 (by omega) rfl (fun ls' g => k H locs ls' ⟨v1, v2, hS, hRel, ab_LR.of2 (v := .long x) hn h2 hi g⟩)
  | astore_n i =>
    obtain ⟨x, rfl, hi, rfl, rfl⟩ := ab_stA_inv (i := i.val) hs
    obtain rfl : len = 1 := eq_of_beq (show (len == 1) = true from hc)
    obtain ⟨hn, lv, h1, h2⟩ := hLR
    exact lv_astore_n hx hb hd rfl h1 (by omega) rfl (fun ls' g => k H locs ls' ⟨v1, v2, hS, hRel, ab_LR.of1 (v := .ref x) hn h2 hi g⟩)
  | astore i =>
    obtain ⟨x, rfl, hi, rfl, rfl⟩ := ab_stA_inv (i := i) hs
    obtain rfl : len = 2 := eq_of_beq (show (len == 2) = true from hc)
    obtain ⟨hn, lv, h1, h2⟩ := hLR
    exact lv_astore hx hb hd h1 (by omega) rfl (fun ls' g => k H locs ls' ⟨v1, v2, hS, hRel, ab_LR.of1 (v := .ref x) hn h2 hi g⟩)
  | iinc i n =>
    obtain ⟨x, y, hx0, rfl, hi, rfl, rfl, rfl⟩ := ab_inc_inv (i := i) hs
    have hc : ((len == 3 || len == 6) && decide (Value.int y = .int (Int32.ofInt n))) = true := hc
    simp only [Bool.and_eq_true, Bool.or_eq_true, beq_iff_eq, decide_eq_true_eq, Value.int.injEq] at hc
    obtain ⟨hlen, rfl⟩ := hc
    obtain ⟨hn, lv, h1, h2⟩ := hLR
    obtain ⟨kk, hkk⟩ := List.getElem?_of_mem (h2 i _ hx0)
    rcases hlen with rfl | rfl
    · exact lv_iinc hx hb hd h1 hkk rfl (by omega) rfl (fun ls' g => k H locs ls' ⟨v1, v2, hS, hRel, ab_LR.of1 (v := .int (x + Int32.ofInt n)) hn h2 hi g⟩)
    · exact lv_iincW hx hb hd h1 hkk rfl (by omega) rfl (fun ls' g => k H locs ls' ⟨v1, v2, hS, hRel, ab_LR.of1 (v := .int (x + Int32.ofInt n)) hn h2 hi g⟩)
  | iadd =>
    obtain ⟨x, y, r, rfl, rfl, rfl, rfl⟩ := ab_i2_inv hs
    obtain rfl : len = 1 := eq_of_beq (show (len == 1) = true from hc)
    exact lv_iadd hx hb hd (k H locs ls ⟨v1, v2, hS, hRel, hLR⟩)
  | isub =>
    obtain ⟨x, y, r, rfl, rfl, rfl, rfl⟩ := ab_i2_inv hs
    obtain rfl : len = 1 := eq_of_beq (show (len == 1) = true from hc)
    exact lv_isub hx hb hd (k H locs ls ⟨v1, v2, hS, hRel, hLR⟩)
  | imul =>
    obtain ⟨x, y, r, rfl, rfl, rfl, rfl⟩ := ab_i2_inv hs
    obtain rfl : len = 1 := eq_of_beq (show (len == 1) = true from hc)
    exact lv_imul hx hb hd (k H locs ls ⟨v1, v2, hS, hRel, hLR⟩)
  | iand =>
    obtain ⟨x, y, r, rfl, rfl, rfl, rfl⟩ := ab_i2_inv hs
    obtain rfl : len = 1 := eq_of_beq (show (len == 1) = true from hc)
    exact lv_iand hx hb hd (k H locs ls ⟨v1, v2, hS, hRel, hLR⟩)
  | ior =>
    obtain ⟨x, y, r, rfl, rfl, rfl, rfl⟩ := ab_i2_inv hs
    obtain rfl : len = 1 := eq_of_beq (show (len == 1) = true from hc)
    exact lv_ior hx hb hd (k H locs ls ⟨v1, v2, hS, hRel, hLR⟩)
  | ixor =>
    obtain ⟨x, y, r, rfl, rfl, rfl, rfl⟩ := ab_i2_inv hs
    obtain rfl : len = 1 := eq_of_beq (show (len == 1) = true from hc)
    exact lv_ixor hx hb hd (k H locs ls ⟨v1, v2, hS, hRel, hLR⟩)
  | ishl =>
    obtain ⟨x, y, r, rfl, rfl, rfl, rfl⟩ := ab_i2_inv hs
    obtain rfl : len = 1 := eq_of_beq (show (len == 1) = true from hc)
    exact lv_ishl hx hb hd (k H locs ls ⟨v1, v2, hS, hRel, hLR⟩)
  | ishr =>
    obtain ⟨x, y, r, rfl, rfl, rfl, rfl⟩ := ab_i2_inv hs
    obtain rfl : len = 1 := eq_of_beq (show (len == 1) = true from hc)
    exact lv_ishr hx hb hd (k H locs ls ⟨v1, v2, hS, hRel, hLR⟩)
  | iushr =>
    obtain ⟨x, y, r, rfl, rfl, rfl, rfl⟩ := ab_i2_inv hs
    obtain rfl : len = 1 := eq_of_beq (show (len == 1) = true from hc)
    exact lv_iushr hx hb hd rfl (k H locs ls ⟨v1, v2, hS, hRel, hLR⟩)
  | ladd =>
    obtain ⟨x, y, r, rfl, rfl, rfl, rfl⟩ := ab_l2_inv hs
    obtain rfl : len = 1 := eq_of_beq (show (len == 1) = true from hc)
    exact lv_ladd hx hb hd (k H locs ls ⟨v1, v2, hS, hRel, hLR⟩)
  | lsub =>
    obtain ⟨x, y, r, rfl, rfl, rfl, rfl⟩ := ab_l2_inv hs
    obtain rfl : len = 1 := eq_of_beq (show (len == 1) = true from hc)
    exact lv_lsub hx hb hd (k H locs ls ⟨v1, v2, hS, hRel, hLR⟩)
  | lmul =>
    obtain ⟨x, y, r, rfl, rfl, rfl, rfl⟩ := ab_l2_inv hs
    obtain rfl : len = 1 := eq_of_beq (show (len == 1) = true from hc)
    exact lv_lmul hx hb hd (k H locs ls ⟨v1, v2, hS, hRel, hLR⟩)
  | land =>
    obtain ⟨x, y, r, rfl, rfl, rfl, rfl⟩ := ab_l2_inv hs
    obtain rfl : len = 1 := eq_of_beq (show (len == 1) = true from hc)
    exact lv_land hx hb hd (k H locs ls ⟨v1, v2, hS, hRel, hLR⟩)
  | lor =>
    obtain ⟨x, y, r, rfl, rfl, rfl, rfl⟩ := ab_l2_inv hs
    obtain rfl : len = 1 := eq_of_beq (show (len == 1) = true from hc)
    exact lv_lor hx hb hd (k H locs ls ⟨v1, v2, hS, hRel, hLR⟩)
  | lxor =>
    obtain ⟨x, y, r, rfl, rfl, rfl, rfl⟩ := ab_l2_inv hs
    obtain rfl : len = 1 := eq_of_beq (show (len == 1) = true from hc)
    exact lv_lxor hx hb hd (k H locs ls ⟨v1, v2, hS, hRel, hLR⟩)
  | lshl =>
    obtain ⟨x, y, r, rfl, rfl, rfl, rfl⟩ := ab_ls_inv hs
    obtain rfl : len = 1 := eq_of_beq (show (len == 1) = true from hc)
    exact lv_lshl hx hb hd rfl (k H locs ls ⟨v1, v2, hS, hRel, hLR⟩)
  | lshr =>
    obtain ⟨x, y, r, rfl, rfl, rfl, rfl⟩ := ab_ls_inv hs
    obtain rfl : len = 1 := eq_of_beq (show (len == 1) = true from hc)
    exact lv_lshr hx hb hd rfl (k H locs ls ⟨v1, v2, hS, hRel, hLR⟩)
  | lushr =>
    obtain ⟨x, y, r, rfl, rfl, rfl, rfl⟩ := ab_ls_inv hs
    obtain rfl : len = 1 := eq_of_beq (show (len == 1) = true from hc)
    exact lv_lushr hx hb hd rfl (k H locs ls ⟨v1, v2, hS, hRel, hLR⟩)
  | ineg =>
    obtain ⟨x, r, rfl, rfl, rfl, rfl⟩ := ab_i1_inv hs
    obtain rfl : len = 1 := eq_of_beq (show (len == 1) = true from hc)
    exact lv_ineg hx hb hd (k H locs ls ⟨v1, v2, hS, hRel, hLR⟩)
  | i2l =>
    obtain ⟨x, r, rfl, rfl, rfl, rfl⟩ := ab_i1_inv hs
    obtain rfl : len = 1 := eq_of_beq (show (len == 1) = true from hc)
    exact lv_i2l hx hb hd rfl (k H locs ls ⟨v1, v2, hS, hRel, hLR⟩)
  | i2b =>
    obtain ⟨x, r, rfl, rfl, rfl, rfl⟩ := ab_i1_inv hs
    obtain rfl : len = 1 := eq_of_beq (show (len == 1) = true from hc)
    exact lv_i2b hx hb hd rfl (k H locs ls ⟨v1, v2, hS, hRel, hLR⟩)
  | i2s =>
    obtain ⟨x, r, rfl, rfl, rfl, rfl⟩ := ab_i1_inv hs
    obtain rfl : len = 1 := eq_of_beq (show (len == 1) = true from hc)
    exact lv_i2s hx hb hd rfl (k H locs ls ⟨v1, v2, hS, hRel, hLR⟩)
  | i2c =>
    obtain ⟨x, r, rfl, rfl, rfl, rfl⟩ := ab_i1_inv hs
    obtain rfl : len = 1 := eq_of_beq (show (len == 1) = true from hc)
    exact lv_i2c hx hb hd rfl (k H locs ls ⟨v1, v2, hS, hRel, hLR⟩)
  | lneg =>
    obtain ⟨x, r, rfl, rfl, rfl, rfl⟩ := ab_l1_inv hs
    obtain rfl : len = 1 := eq_of_beq (show (len == 1) = true from hc)
    exact lv_lneg hx hb hd (k H locs ls ⟨v1, v2, hS, hRel, hLR⟩)
  | l2i =>
    obtain ⟨x, r, rfl, rfl, rfl, rfl⟩ := ab_l1_inv hs
    obtain rfl : len = 1 := eq_of_beq (show (len == 1) = true from hc)
    exact lv_l2i hx hb hd rfl (k H locs ls ⟨v1, v2, hS, hRel, hLR⟩)
  | lcmp =>
    obtain ⟨x, y, r, rfl, rfl, rfl, rfl⟩ := ab_lc_inv hs
    obtain rfl : len = 1 := eq_of_beq (show (len == 1) = true from hc)
    exact W.lcmp hx hb hd (k H locs ls ⟨v1, v2, hS, hRel, hLR⟩)
  | dup =>
    obtain rfl : len = 1 := eq_of_beq (show (len == 1) = true from hc)
    have hs2 : ab_dup lo st h = some (lo', st', h') := hs
    clear hs
    unfold ab_dup at hs2
    split at hs2
    · cases hs2
      exact lv_dup hx hb hd rfl (k H locs ls ⟨v1, v2, hS, hRel, hLR⟩)
    · cases hs2
      exact lv_dup hx hb hd rfl (k H locs ls ⟨v1, v2, hS, hRel, hLR⟩)
    · cases hs2
  | dup2 =>
    obtain rfl : len = 1 := eq_of_beq (show (len == 1) = true from hc)
    have hs2 : ab_dup2 lo st h = some (lo', st', h') := hs
    clear hs
    unfold ab_dup2 at hs2
    split at hs2
    · cases hs2
      exact lv_dup2_11 hx hb hd rfl rfl (k H locs ls ⟨v1, v2, hS, hRel, hLR⟩)
    · cases hs2
      exact lv_dup2_11 hx hb hd rfl rfl (k H locs ls ⟨v1, v2, hS, hRel, hLR⟩)
    · cases hs2
  | dup_x1 =>
    obtain rfl : len = 1 := eq_of_beq (show (len == 1) = true from hc)
    have hs2 : ab_dupx1 lo st h = some (lo', st', h') := hs
    clear hs
    unfold ab_dupx1 at hs2
    split at hs2
    · cases hs2
      exact lv_dup_x1 hx hb hd rfl rfl (k H locs ls ⟨v1, v2, hS, hRel, hLR⟩)
    · cases hs2
      exact lv_dup_x1 hx hb hd rfl rfl (k H locs ls ⟨v1, v2, hS, hRel, hLR⟩)
    · cases hs2
  | dup_x2 =>
    obtain rfl : len = 1 := eq_of_beq (show (len == 1) = true from hc)
    have hs2 : ab_dupx2 lo st h = some (lo', st', h') := hs
    clear hs
    unfold ab_dupx2 at hs2
    split at hs2
    · cases hs2
      exact lv_dup_x2 hx hb hd rfl rfl rfl (k H locs ls ⟨v1, v2, hS, hRel, hLR⟩)
    · cases hs2
  | pop =>
    obtain rfl : len = 1 := eq_of_beq (show (len == 1) = true from hc)
    have hs2 : ab_pop lo st h = some (lo', st', h') := hs
    clear hs
    unfold ab_pop at hs2
    split at hs2
    · cases hs2
      exact lv_pop hx hb hd rfl (k H locs ls ⟨v1, v2, hS, hRel, hLR⟩)
    · cases hs2
      exact lv_pop hx hb hd rfl (k H locs ls ⟨v1, v2, hS, hRel, hLR⟩)
    · cases hs2
  | getfield i =>
    obtain ⟨a, r, fs, v, rfl, ha, hc0, hv, rfl, rfl, rfl⟩ := ab_gf_inv (ci := ci) (k := kf) hs
    have hc : (len == 3 && ab_fl M.1.cls i ci kf (ab_ti cv)) = true := hc
    simp only [Bool.and_eq_true, beq_iff_eq] at hc
    obtain ⟨rfl, hc⟩ := hc
    obtain ⟨C, T, N, hcl, hkN, hl⟩ := ab_fl_inv hc
    have hkk := k H locs ls ⟨v1, v2, hS, hRel, hLR⟩
    show W _ _ _ _ _ _ _ _ _ _ _ _ _ _ _ (F0 m pc ls (ab_v X (.ref a) :: r.map (ab_v X)))
    rw [ab_ad_own ha]
    have hv' : (fs.map (ab_v X))[kf]? = some (ab_v X v) := by rw [List.getElem?_map, hv]; rfl
    exact va_get hx hb hts (ab_cls hcl).1 hown hok.1 hRel.2 (a - ab_NT) (ab_ws_at hc0) hcl kf hkN (hts _ (ab_in hl rfl)) (fun _ h9 => h9) hv' hd hkk
  | putfield i =>
    have hs2 : ab_pu lo st h ci kf = some (lo', st', h') := by
      cases cv with
      | retAddr q => exact absurd (show none = some (lo', st', h') from hs) (fun q => by cases q)
      | _ => exact hs
    clear hs
    obtain ⟨a, fs, v, rfl, ha, hc0, hkl, hfit, rfl, rfl⟩ := ab_pu_inv (ci := ci) (k := kf) hs2
    have hc : (len == 3 && ab_pf M.1 i ci kf (ab_ti cv)) = true := hc
    simp only [Bool.and_eq_true, beq_iff_eq] at hc
    obtain ⟨rfl, hc⟩ := hc
    show W _ _ _ _ _ _ _ _ _ _ _ _ _ _ _ (F0 m pc ls (ab_v X v :: ab_v X (.ref a) :: st'.map (ab_v X)))
    rw [ab_ad_own ha]
    exact ab_putf hx hb hts hown hnm hok.1 hRel hS hc0 hc hkl (fun ty e => by subst e; exact ab_fit_ok hfit) hd (fun H1 locs1 hR1 hS1 => k H1 locs1 ls ⟨v1, v2, hS1, hR1, hLR⟩)
  | getstatic i =>
    have hs : (if kf < ab_NT then some (lo, .ref kf :: st, h) else none) = some (lo', st', h') := hs
    split at hs
    · rename_i hkf
      cases hs
      have hc : (len == 3 && ab_sts.any (fun q => q.2.2.2 == kf && ab_wd (ab_ti cv) (Cond.fieldLink M.1.cls i q.1 q.2.1 q.2.2.1))) = true := hc
      simp only [Bool.and_eq_true, beq_iff_eq, List.any_eq_true, Bool.or_eq_true, decide_eq_true_eq] at hc
      obtain ⟨rfl, q, hq, hqk, hl⟩ := hc
      have hl := ab_wd_in hl
      have hkk := k H locs ls ⟨v1, v2, hS, hRel, hLR⟩
      have hZ := hok.2.2.1 q hq
      rw [hqk] at hZ
      have hv : ab_v X (.ref kf) = .ref (X.2.2.2.2.1 kf) := by
        show Value.ref (ab_ad X kf) = _
        unfold ab_ad
        rw [if_pos hkf]
      have hkk : W p X.1 e R s m args below meth c H locs cells slots (MQ below (ab_Q X Q) args s R.cells R.slots (ab_A X)) (F0 m (pc + 3) ls (ab_v X (.ref kf) :: st.map (ab_v X))) := hkk
      rw [hv] at hkk
      exact va_gets hx hb hZ hS hown (hts _ (ab_in hl rfl)) (fun _ h9 => h9) hd hkk
    · cases hs
  | iaload =>
    have hs : (if ci = 1 then ab_ial lo st h else none) = some (lo', st', h') := hs
    split at hs
    · obtain ⟨i, a, r, n, f, rfl, hc0, hin, rfl, rfl, rfl⟩ := ab_ial_inv hs
      obtain rfl : len = 1 := eq_of_beq (show (len == 1) = true from hc)
      obtain ⟨ha, hc1⟩ := ab_at_own hc0
      show W _ _ _ _ _ _ _ _ _ _ _ _ _ _ _ (F0 m pc ls (.int i :: ab_v X (.ref a) :: r.map (ab_v X)))
      rw [ab_ad_own ha]
      exact va_iald hx hb hok.1 hRel.2 (a - ab_NT) 0 (ab_ws_at hc1) rfl hin hd (k H locs ls ⟨v1, v2, hS, hRel, hLR⟩)
    · cases hs
  | iastore =>
    have hs : (if ci = 1 then ab_ias lo st h else none) = some (lo', st', h') := hs
    split at hs
    · obtain ⟨i, x, a, n, f, rfl, hc0, hin, rfl, rfl⟩ := ab_ias_inv hs
      obtain rfl : len = 1 := eq_of_beq (show (len == 1) = true from hc)
      obtain ⟨ha, hc1⟩ := ab_at_own hc0
      show W _ _ _ _ _ _ _ _ _ _ _ _ _ _ _ (F0 m pc ls (.int x :: .int i :: ab_v X (.ref a) :: st'.map (ab_v X)))
      rw [ab_ad_own ha]
      exact ab_Wiast hx hb hok.1 hRel hS hc1 hin hd (fun H1 locs1 hR1 hS1 => k H1 locs1 ls ⟨v1, v2, hS1, hR1, hLR⟩)
    · cases hs
  | aaload =>
    have hs : (if ci = 1 then ab_aal lo st h else none) = some (lo', st', h') := hs
    split at hs
    · obtain ⟨i, a, r, n, f, q, rfl, hc0, hin, hq, rfl, rfl, rfl⟩ := ab_aal_inv hs
      obtain rfl : len = 1 := eq_of_beq (show (len == 1) = true from hc)
      obtain ⟨ha, hc1⟩ := ab_at_own hc0
      show W _ _ _ _ _ _ _ _ _ _ _ _ _ _ _ (F0 m pc ls (.int i :: ab_v X (.ref a) :: r.map (ab_v X)))
      rw [ab_ad_own ha]
      exact ab_Waald hx hb hok.1 hRel hc1 hin hq hd (k H locs ls ⟨v1, v2, hS, hRel, hLR⟩)
    · cases hs
  | idiv =>
    have hs : (if ci = 1 then ab_div lo st h else none) = some (lo', st', h') := hs
    split at hs
    · obtain ⟨x, y, r, rfl, hy, rfl, rfl, rfl⟩ := ab_div_inv hs
      obtain rfl : len = 1 := eq_of_beq (show (len == 1) = true from hc)
      exact lv_idiv hx hb hd hy (k H locs ls ⟨v1, v2, hS, hRel, hLR⟩)
    · cases hs
  | irem =>
    have hs : (if ci = 1 then ab_rem lo st h else none) = some (lo', st', h') := hs
    split at hs
    · obtain ⟨x, y, r, rfl, hy, rfl, rfl, rfl⟩ := ab_rem_inv hs
      obtain rfl : len = 1 := eq_of_beq (show (len == 1) = true from hc)
      exact lv_irem hx hb hd hy (k H locs ls ⟨v1, v2, hS, hRel, hLR⟩)
    · cases hs
  | _ => exact absurd (show none = some (lo', st', h') from hs) (fun q => by cases q)
end
section
/-! Runs of plain instructions, branches, arrays, ends, calls -/
abbrev ab_Cd : Type := List (Nat × ab_J)
def ab_fetch (code : ab_Cd) (pc : Nat) : Option ab_J := match code with
  | [] => none
  | q :: r => if q.1 = pc then some q.2 else ab_fetch r pc
def ab_ckp (y : MethodName) (pc : Nat) (j : ab_J) : Bool := match j.1 with
  | .goto off => j.2.1 == 3 && decide ((pc : Int) + off = (j.2.2.2.2 : Int))
  | .ifCond _ off => j.2.1 == 3 && decide ((pc : Int) + off = (j.2.2.2.2 : Int))
  | .if_icmp _ off => j.2.1 == 3 && decide ((pc : Int) + off = (j.2.2.2.2 : Int))
  | .invokestatic _ => j.2.1 == 3
  | .invokevirtual _ => j.2.1 == 3
  | .invokespecial _ => j.2.1 == 3
  | .new _ => j.2.1 == 3
  | .newarray _ => j.2.1 == 2
  | .multianewarray _ _ => j.2.1 == 4
  | .tableswitch _ _ _ _ => true
  | .lookupswitch _ _ => true
  | _ => ab_ck1 y j
def ab_ckM (M : ab_Mt) (code : ab_Cd) : Bool := code.all (fun q => decide (decode M.2.1 q.1 = .ok (q.2.1, q.2.2.1)) && ab_ckp M.1 q.1 q.2)
theorem ab_fetch_mem {code : ab_Cd} {pc : Nat} {j : ab_J} (h : ab_fetch code pc = some j) : (pc, j) ∈ code := by
  induction code with
  | nil => cases h
  | cons q r ih =>
    unfold ab_fetch at h
    split at h
    · rename_i hq
      cases h
      subst hq
      exact List.mem_cons_self
    · exact List.mem_cons_of_mem _ (ih h)
theorem ab_ck_at {M : ab_Mt} {code : ab_Cd} {pc : Nat} {j : ab_J} (hck : ab_ckM M code = true) (h : ab_fetch code pc = some j) : decode M.2.1 pc = .ok (j.1, j.2.1) ∧ ab_ckp M.1 pc j = true := by
  have h1 := List.all_eq_true.mp hck _ (ab_fetch_mem h)
  simp only [Bool.and_eq_true, decide_eq_true_eq] at h1
  exact h1
/-- a plain instruction or a jump -/
def ab_next (pc : Nat) (j : ab_J) (lo : ab_Lo) (st : List Value) (h : ab_H) : Option (Nat × ab_Lo × List Value × ab_H) := match j.1 with
  | .goto _ => some (j.2.2.2.2, lo, st, h)
  | _ => match ab_step j lo st h with
    | some r => some (pc + j.2.1, r)
    | none => none
def ab_run (n : Nat) (stops : List Nat) (code : ab_Cd) (pc : Nat) (lo : ab_Lo) (st : List Value) (h : ab_H) : Option (Nat × ab_Lo × List Value × ab_H) := match n with
  | 0 => some (pc, lo, st, h)
  | n + 1 => match ab_fetch code pc with
    | some j => match ab_next pc j lo st h with
      | some (pc', lo', st', h') => if stops.contains pc' = true then some (pc', lo', st', h') else ab_run n stops code pc' lo' st' h'
      | none => some (pc, lo, st, h)
    | none => none
section ABR
variable {X : ab_C} {M : ab_Mt} {code : ab_Cd} {d bc bs pc : Nat} {lo : ab_Lo} {st : List Value} {h : ab_H} {Q : Option Value → ab_H → Prop}
theorem ab_ck1_of {y : MethodName} {pc : Nat} {j : ab_J} {lo lo' : ab_Lo} {st st' : List Value} {h h' : ab_H} (hs : ab_step j lo st h = some (lo', st', h')) (hc : ab_ckp y pc j = true) : ab_ck1 y j = true := by
  obtain ⟨ins, len, cv, ci, kf⟩ := j
  cases ins with
  | goto off => exact absurd (show none = some (lo', st', h') from hs) (fun q => by cases q)
  | ifCond c off => exact absurd (show none = some (lo', st', h') from hs) (fun q => by cases q)
  | if_icmp c off => exact absurd (show none = some (lo', st', h') from hs) (fun q => by cases q)
  | invokestatic i => exact absurd (show none = some (lo', st', h') from hs) (fun q => by cases q)
  | invokevirtual i => exact absurd (show none = some (lo', st', h') from hs) (fun q => by cases q)
  | invokespecial i => exact absurd (show none = some (lo', st', h') from hs) (fun q => by cases q)
  | new i => exact absurd (show none = some (lo', st', h') from hs) (fun q => by cases q)
  | newarray i => exact absurd (show none = some (lo', st', h') from hs) (fun q => by cases q)
  | multianewarray i n => exact absurd (show none = some (lo', st', h') from hs) (fun q => by cases q)
  | tableswitch a b c2 d2 => exact absurd (show none = some (lo', st', h') from hs) (fun q => by cases q)
  | lookupswitch a b => exact absurd (show none = some (lo', st', h') from hs) (fun q => by cases q)
  | _ => exact hc
theorem ab_goto {off : Int} (hd : decode M.2.1 pc = .ok (.goto off, 3)) {tgt : Nat} (ht : (pc : Int) + off = (tgt : Int)) (k : ab_W X M d bc bs tgt lo st h Q) : ab_W X M d bc bs pc lo st h Q := by
  intro p e R s m args below meth c H locs cells slots ls F V
  exact lv_goto F.1 F.2.1 hd ht (k p e R s m args below meth c H locs cells slots ls F V)
theorem ab_next_ok {pc' : Nat} {j : ab_J} {lo' : ab_Lo} {st' : List Value} {h' : ab_H} (hd : decode M.2.1 pc = .ok (j.1, j.2.1)) (hc : ab_ckp M.1 pc j = true) (hs : ab_next pc j lo st h = some (pc', lo', st', h')) (k : ab_W X M d bc bs pc' lo' st' h' Q) : ab_W X M d bc bs pc lo st h Q := by
  unfold ab_next at hs
  split at hs
  · rename_i off hj
    cases hs
    obtain ⟨ins, len, cv, ci, kf⟩ := j
    dsimp only at hj
    subst hj
    have hc : (len == 3 && decide ((pc : Int) + off = (kf : Int))) = true := hc
    simp only [Bool.and_eq_true, beq_iff_eq, decide_eq_true_eq] at hc
    obtain ⟨rfl, ht⟩ := hc
    exact ab_goto hd ht k
  · split at hs
    · rename_i r hr
      obtain ⟨l2, s2, h2⟩ := r
      cases hs
      exact ab_step_ok hd (ab_ck1_of hr hc) hr k
    · cases hs
/-- plain instructions, up to n, up to the first that isn't plain, or to a stop: they are computed -/
theorem ab_go (n : Nat) (stops : List Nat) {pc' : Nat} {lo' : ab_Lo} {st' : List Value} {h' : ab_H} (hck : ab_ckM M code = true) (hs : ab_run n stops code pc lo st h = some (pc', lo', st', h')) (k : ab_W X M d bc bs pc' lo' st' h' Q) : ab_W X M d bc bs pc lo st h Q := by
  induction n generalizing pc lo st h with
  | zero =>
    unfold ab_run at hs
    cases hs
    exact k
  | succ n ih =>
    unfold ab_run at hs
    split at hs
    · rename_i j hj
      split at hs
      · rename_i pc2 lo2 st2 h2 hn
        obtain ⟨hd, hc⟩ := ab_ck_at hck hj
        refine ab_next_ok hd hc hn ?_
        split at hs
        · cases hs
          exact k
        · exact ih hs
      · cases hs
        exact k
    · cases hs
theorem ab_if_eq {x : Int32} {off : Int} {len ci tgt : Nat} {cv : Value} (hck : ab_ckM M code = true) (hf : ab_fetch code pc = some (.ifCond .eq off, len, cv, ci, tgt)) (kt : x = 0 → ab_W X M d bc bs tgt lo st h Q) (kf : ¬ x = 0 → ab_W X M d bc bs (pc + 3) lo st h Q) : ab_W X M d bc bs pc lo (.int x :: st) h Q := by
  obtain ⟨hd, hc⟩ := ab_ck_at hck hf
  have hc : (len == 3 && decide ((pc : Int) + off = (tgt : Int))) = true := hc
  simp only [Bool.and_eq_true, beq_iff_eq, decide_eq_true_eq] at hc
  obtain ⟨rfl, ht⟩ := hc
  intro p e R s m args below meth c H locs cells slots ls F V
  exact lv_if_eq F.1 F.2.1 hd ht (fun g => kt g p e R s m args below meth c H locs cells slots ls F V) (fun g => kf g p e R s m args below meth c H locs cells slots ls F V)
theorem ab_icmp_eq {x y : Int32} {off : Int} {len ci tgt : Nat} {cv : Value} (hck : ab_ckM M code = true) (hf : ab_fetch code pc = some (.if_icmp .eq off, len, cv, ci, tgt)) (kt : x = y → ab_W X M d bc bs tgt lo st h Q) (kf : ¬ x = y → ab_W X M d bc bs (pc + 3) lo st h Q) : ab_W X M d bc bs pc lo (.int y :: .int x :: st) h Q := by
  obtain ⟨hd, hc⟩ := ab_ck_at hck hf
  have hc : (len == 3 && decide ((pc : Int) + off = (tgt : Int))) = true := hc
  simp only [Bool.and_eq_true, beq_iff_eq, decide_eq_true_eq] at hc
  obtain ⟨rfl, ht⟩ := hc
  intro p e R s m args below meth c H locs cells slots ls F V
  exact lv_icmp_eq F.1 F.2.1 hd ht (fun g => kt g p e R s m args below meth c H locs cells slots ls F V) (fun g => kf g p e R s m args below meth c H locs cells slots ls F V)
theorem ab_if_ne {x : Int32} {off : Int} {len ci tgt : Nat} {cv : Value} (hck : ab_ckM M code = true) (hf : ab_fetch code pc = some (.ifCond .ne off, len, cv, ci, tgt)) (kt : ¬ x = 0 → ab_W X M d bc bs tgt lo st h Q) (kf : x = 0 → ab_W X M d bc bs (pc + 3) lo st h Q) : ab_W X M d bc bs pc lo (.int x :: st) h Q := by
  obtain ⟨hd, hc⟩ := ab_ck_at hck hf
  have hc : (len == 3 && decide ((pc : Int) + off = (tgt : Int))) = true := hc
  simp only [Bool.and_eq_true, beq_iff_eq, decide_eq_true_eq] at hc
  obtain ⟨rfl, ht⟩ := hc
  intro p e R s m args below meth c H locs cells slots ls F V
  exact lv_if_ne F.1 F.2.1 hd ht (fun g => kt g p e R s m args below meth c H locs cells slots ls F V) (fun g => kf g p e R s m args below meth c H locs cells slots ls F V)
theorem ab_icmp_ne {x y : Int32} {off : Int} {len ci tgt : Nat} {cv : Value} (hck : ab_ckM M code = true) (hf : ab_fetch code pc = some (.if_icmp .ne off, len, cv, ci, tgt)) (kt : ¬ x = y → ab_W X M d bc bs tgt lo st h Q) (kf : x = y → ab_W X M d bc bs (pc + 3) lo st h Q) : ab_W X M d bc bs pc lo (.int y :: .int x :: st) h Q := by
  obtain ⟨hd, hc⟩ := ab_ck_at hck hf
  have hc : (len == 3 && decide ((pc : Int) + off = (tgt : Int))) = true := hc
  simp only [Bool.and_eq_true, beq_iff_eq, decide_eq_true_eq] at hc
  obtain ⟨rfl, ht⟩ := hc
  intro p e R s m args below meth c H locs cells slots ls F V
  exact lv_icmp_ne F.1 F.2.1 hd ht (fun g => kt g p e R s m args below meth c H locs cells slots ls F V) (fun g => kf g p e R s m args below meth c H locs cells slots ls F V)
theorem ab_if_lt {x : Int32} {off : Int} {len ci tgt : Nat} {cv : Value} (hck : ab_ckM M code = true) (hf : ab_fetch code pc = some (.ifCond .lt off, len, cv, ci, tgt)) (kt : x < 0 → ab_W X M d bc bs tgt lo st h Q) (kf : ¬ x < 0 → ab_W X M d bc bs (pc + 3) lo st h Q) : ab_W X M d bc bs pc lo (.int x :: st) h Q := by
  obtain ⟨hd, hc⟩ := ab_ck_at hck hf
  have hc : (len == 3 && decide ((pc : Int) + off = (tgt : Int))) = true := hc
  simp only [Bool.and_eq_true, beq_iff_eq, decide_eq_true_eq] at hc
  obtain ⟨rfl, ht⟩ := hc
  intro p e R s m args below meth c H locs cells slots ls F V
  exact lv_if_lt F.1 F.2.1 hd ht (fun g => kt g p e R s m args below meth c H locs cells slots ls F V) (fun g => kf g p e R s m args below meth c H locs cells slots ls F V)
theorem ab_icmp_lt {x y : Int32} {off : Int} {len ci tgt : Nat} {cv : Value} (hck : ab_ckM M code = true) (hf : ab_fetch code pc = some (.if_icmp .lt off, len, cv, ci, tgt)) (kt : x < y → ab_W X M d bc bs tgt lo st h Q) (kf : ¬ x < y → ab_W X M d bc bs (pc + 3) lo st h Q) : ab_W X M d bc bs pc lo (.int y :: .int x :: st) h Q := by
  obtain ⟨hd, hc⟩ := ab_ck_at hck hf
  have hc : (len == 3 && decide ((pc : Int) + off = (tgt : Int))) = true := hc
  simp only [Bool.and_eq_true, beq_iff_eq, decide_eq_true_eq] at hc
  obtain ⟨rfl, ht⟩ := hc
  intro p e R s m args below meth c H locs cells slots ls F V
  exact lv_icmp_lt F.1 F.2.1 hd ht (fun g => kt g p e R s m args below meth c H locs cells slots ls F V) (fun g => kf g p e R s m args below meth c H locs cells slots ls F V)
theorem ab_if_ge {x : Int32} {off : Int} {len ci tgt : Nat} {cv : Value} (hck : ab_ckM M code = true) (hf : ab_fetch code pc = some (.ifCond .ge off, len, cv, ci, tgt)) (kt : 0 ≤ x → ab_W X M d bc bs tgt lo st h Q) (kf : ¬ 0 ≤ x → ab_W X M d bc bs (pc + 3) lo st h Q) : ab_W X M d bc bs pc lo (.int x :: st) h Q := by
  obtain ⟨hd, hc⟩ := ab_ck_at hck hf
  have hc : (len == 3 && decide ((pc : Int) + off = (tgt : Int))) = true := hc
  simp only [Bool.and_eq_true, beq_iff_eq, decide_eq_true_eq] at hc
  obtain ⟨rfl, ht⟩ := hc
  intro p e R s m args below meth c H locs cells slots ls F V
  exact lv_if_ge F.1 F.2.1 hd ht (fun g => kt g p e R s m args below meth c H locs cells slots ls F V) (fun g => kf g p e R s m args below meth c H locs cells slots ls F V)
theorem ab_icmp_ge {x y : Int32} {off : Int} {len ci tgt : Nat} {cv : Value} (hck : ab_ckM M code = true) (hf : ab_fetch code pc = some (.if_icmp .ge off, len, cv, ci, tgt)) (kt : y ≤ x → ab_W X M d bc bs tgt lo st h Q) (kf : ¬ y ≤ x → ab_W X M d bc bs (pc + 3) lo st h Q) : ab_W X M d bc bs pc lo (.int y :: .int x :: st) h Q := by
  obtain ⟨hd, hc⟩ := ab_ck_at hck hf
  have hc : (len == 3 && decide ((pc : Int) + off = (tgt : Int))) = true := hc
  simp only [Bool.and_eq_true, beq_iff_eq, decide_eq_true_eq] at hc
  obtain ⟨rfl, ht⟩ := hc
  intro p e R s m args below meth c H locs cells slots ls F V
  exact lv_icmp_ge F.1 F.2.1 hd ht (fun g => kt g p e R s m args below meth c H locs cells slots ls F V) (fun g => kf g p e R s m args below meth c H locs cells slots ls F V)
theorem ab_if_gt {x : Int32} {off : Int} {len ci tgt : Nat} {cv : Value} (hck : ab_ckM M code = true) (hf : ab_fetch code pc = some (.ifCond .gt off, len, cv, ci, tgt)) (kt : 0 < x → ab_W X M d bc bs tgt lo st h Q) (kf : ¬ 0 < x → ab_W X M d bc bs (pc + 3) lo st h Q) : ab_W X M d bc bs pc lo (.int x :: st) h Q := by
  obtain ⟨hd, hc⟩ := ab_ck_at hck hf
  have hc : (len == 3 && decide ((pc : Int) + off = (tgt : Int))) = true := hc
  simp only [Bool.and_eq_true, beq_iff_eq, decide_eq_true_eq] at hc
  obtain ⟨rfl, ht⟩ := hc
  intro p e R s m args below meth c H locs cells slots ls F V
  exact lv_if_gt F.1 F.2.1 hd ht (fun g => kt g p e R s m args below meth c H locs cells slots ls F V) (fun g => kf g p e R s m args below meth c H locs cells slots ls F V)
theorem ab_icmp_gt {x y : Int32} {off : Int} {len ci tgt : Nat} {cv : Value} (hck : ab_ckM M code = true) (hf : ab_fetch code pc = some (.if_icmp .gt off, len, cv, ci, tgt)) (kt : y < x → ab_W X M d bc bs tgt lo st h Q) (kf : ¬ y < x → ab_W X M d bc bs (pc + 3) lo st h Q) : ab_W X M d bc bs pc lo (.int y :: .int x :: st) h Q := by
  obtain ⟨hd, hc⟩ := ab_ck_at hck hf
  have hc : (len == 3 && decide ((pc : Int) + off = (tgt : Int))) = true := hc
  simp only [Bool.and_eq_true, beq_iff_eq, decide_eq_true_eq] at hc
  obtain ⟨rfl, ht⟩ := hc
  intro p e R s m args below meth c H locs cells slots ls F V
  exact lv_icmp_gt F.1 F.2.1 hd ht (fun g => kt g p e R s m args below meth c H locs cells slots ls F V) (fun g => kf g p e R s m args below meth c H locs cells slots ls F V)
theorem ab_if_le {x : Int32} {off : Int} {len ci tgt : Nat} {cv : Value} (hck : ab_ckM M code = true) (hf : ab_fetch code pc = some (.ifCond .le off, len, cv, ci, tgt)) (kt : x ≤ 0 → ab_W X M d bc bs tgt lo st h Q) (kf : ¬ x ≤ 0 → ab_W X M d bc bs (pc + 3) lo st h Q) : ab_W X M d bc bs pc lo (.int x :: st) h Q := by
  obtain ⟨hd, hc⟩ := ab_ck_at hck hf
  have hc : (len == 3 && decide ((pc : Int) + off = (tgt : Int))) = true := hc
  simp only [Bool.and_eq_true, beq_iff_eq, decide_eq_true_eq] at hc
  obtain ⟨rfl, ht⟩ := hc
  intro p e R s m args below meth c H locs cells slots ls F V
  exact lv_if_le F.1 F.2.1 hd ht (fun g => kt g p e R s m args below meth c H locs cells slots ls F V) (fun g => kf g p e R s m args below meth c H locs cells slots ls F V)
theorem ab_icmp_le {x y : Int32} {off : Int} {len ci tgt : Nat} {cv : Value} (hck : ab_ckM M code = true) (hf : ab_fetch code pc = some (.if_icmp .le off, len, cv, ci, tgt)) (kt : x ≤ y → ab_W X M d bc bs tgt lo st h Q) (kf : ¬ x ≤ y → ab_W X M d bc bs (pc + 3) lo st h Q) : ab_W X M d bc bs pc lo (.int y :: .int x :: st) h Q := by
  obtain ⟨hd, hc⟩ := ab_ck_at hck hf
  have hc : (len == 3 && decide ((pc : Int) + off = (tgt : Int))) = true := hc
  simp only [Bool.and_eq_true, beq_iff_eq, decide_eq_true_eq] at hc
  obtain ⟨rfl, ht⟩ := hc
  intro p e R s m args below meth c H locs cells slots ls F V
  exact lv_icmp_le F.1 F.2.1 hd ht (fun g => kt g p e R s m args below meth c H locs cells slots ls F V) (fun g => kf g p e R s m args below meth c H locs cells slots ls F V)
theorem ab_iald {a n : Nat} {f : Nat → Int32} {i : Int32} {len ci kf : Nat} {cv : Value} (hck : ab_ckM M code = true) (hf : ab_fetch code pc = some (.iaload, len, cv, ci, kf)) (hc0 : ab_at h a = some (.inl (0, n, .inl f))) (hin : vp_in i n) (k : ab_W X M d bc bs (pc + 1) lo (.int (f i.toNatClampNeg) :: st) h Q) : ab_W X M d bc bs pc lo (.int i :: .ref a :: st) h Q := by
  obtain ⟨hd, hc⟩ := ab_ck_at hck hf
  obtain rfl : len = 1 := eq_of_beq (show (len == 1) = true from hc)
  obtain ⟨ha, hc1⟩ := ab_at_own hc0
  intro p e R s m args below meth c H locs cells slots ls F V
  have hkk := k p e R s m args below meth c H locs cells slots ls F V
  obtain ⟨hx, hb, hr, hml, hown, hts, hlk, hnm, hok, hfr, hlo⟩ := F
  obtain ⟨v1, v2, hS, hRel, hLR⟩ := V
  show W _ _ _ _ _ _ _ _ _ _ _ _ _ _ _ (F0 m pc ls (.int i :: ab_v X (.ref a) :: st.map (ab_v X)))
  rw [ab_ad_own ha]
  exact va_iald hx hb hok.1 hRel.2 (a - ab_NT) 0 (ab_ws_at hc1) rfl hin hd hkk
theorem ab_lald {a n : Nat} {f : Nat → Int64} {i : Int32} {len ci kf : Nat} {cv : Value} (hck : ab_ckM M code = true) (hf : ab_fetch code pc = some (.laload, len, cv, ci, kf)) (hc0 : ab_at h a = some (.inl (1, n, .inr (.inl f)))) (hin : vp_in i n) (k : ab_W X M d bc bs (pc + 1) lo (.long (f i.toNatClampNeg) :: st) h Q) : ab_W X M d bc bs pc lo (.int i :: .ref a :: st) h Q := by
  obtain ⟨hd, hc⟩ := ab_ck_at hck hf
  obtain rfl : len = 1 := eq_of_beq (show (len == 1) = true from hc)
  obtain ⟨ha, hc1⟩ := ab_at_own hc0
  intro p e R s m args below meth c H locs cells slots ls F V
  have hkk := k p e R s m args below meth c H locs cells slots ls F V
  obtain ⟨hx, hb, hr, hml, hown, hts, hlk, hnm, hok, hfr, hlo⟩ := F
  obtain ⟨v1, v2, hS, hRel, hLR⟩ := V
  show W _ _ _ _ _ _ _ _ _ _ _ _ _ _ _ (F0 m pc ls (.int i :: ab_v X (.ref a) :: st.map (ab_v X)))
  rw [ab_ad_own ha]
  exact va_lald hx hb hok.1 hRel.2 (a - ab_NT) 1 (ab_ws_at hc1) rfl hin hd hkk
/-- a place of a table that was there before -/
theorem ab_tald {a n : Nat} {f : Nat → Int32} {i : Int32} {len ci kf : Nat} {cv : Value} (hck : ab_ckM M code = true) (hf : ab_fetch code pc = some (.iaload, len, cv, ci, kf)) (ha : a < ab_NT) (hc0 : X.2.2.2.2.2[a]? = some (n, f)) (hin : vp_in i n) (k : ab_W X M d bc bs (pc + 1) lo (.int (f i.toNatClampNeg) :: st) h Q) : ab_W X M d bc bs pc lo (.int i :: .ref a :: st) h Q := by
  obtain ⟨hd, hc⟩ := ab_ck_at hck hf
  obtain rfl : len = 1 := eq_of_beq (show (len == 1) = true from hc)
  intro p e R s m args below meth c H locs cells slots ls F V
  have hkk := k p e R s m args below meth c H locs cells slots ls F V
  obtain ⟨hx, hb, hr, hml, hown, hts, hlk, hnm, hok, hfr, hlo⟩ := F
  obtain ⟨v1, v2, hS, hRel, hLR⟩ := V
  show W _ _ _ _ _ _ _ _ _ _ _ _ _ _ _ (F0 m pc ls (.int i :: ab_v X (.ref a) :: st.map (ab_v X)))
  rw [ab_ad_tab ha]
  exact va_ti hx hb (hok.2.1 a n f hc0) hS hin rfl hd hkk
theorem ab_iast {a n : Nat} {f : Nat → Int32} {i x : Int32} {len ci kf : Nat} {cv : Value} (hck : ab_ckM M code = true) (hf : ab_fetch code pc = some (.iastore, len, cv, ci, kf)) (hc0 : ab_at h a = some (.inl (0, n, .inl f))) (hin : vp_in i n) (k : ab_W X M d bc bs (pc + 1) lo st (h.set (a - ab_NT) (.inl (0, n, .inl (upd f i.toNatClampNeg x)))) Q) : ab_W X M d bc bs pc lo (.int x :: .int i :: .ref a :: st) h Q := by
  obtain ⟨hd, hc⟩ := ab_ck_at hck hf
  obtain rfl : len = 1 := eq_of_beq (show (len == 1) = true from hc)
  obtain ⟨ha, hc1⟩ := ab_at_own hc0
  intro p e R s m args below meth c H locs cells slots ls F V
  have hkk := fun H locs V => k p e R s m args below meth c H locs cells slots ls F V
  obtain ⟨hx, hb, hr, hml, hown, hts, hlk, hnm, hok, hfr, hlo⟩ := F
  obtain ⟨v1, v2, hS, hRel, hLR⟩ := V
  show W _ _ _ _ _ _ _ _ _ _ _ _ _ _ _ (F0 m pc ls (.int x :: .int i :: ab_v X (.ref a) :: st.map (ab_v X)))
  rw [ab_ad_own ha]
  exact ab_Wiast hx hb hok.1 hRel hS hc1 hin hd (fun H1 locs1 hR1 hS1 => hkk H1 locs1 ⟨v1, v2, hS1, hR1, hLR⟩)
theorem ab_last {a n : Nat} {f : Nat → Int64} {i : Int32} {x : Int64} {len ci kf : Nat} {cv : Value} (hck : ab_ckM M code = true) (hf : ab_fetch code pc = some (.lastore, len, cv, ci, kf)) (hc0 : ab_at h a = some (.inl (1, n, .inr (.inl f)))) (hin : vp_in i n) (k : ab_W X M d bc bs (pc + 1) lo st (h.set (a - ab_NT) (.inl (1, n, .inr (.inl (vp_updL f i.toNatClampNeg x))))) Q) : ab_W X M d bc bs pc lo (.long x :: .int i :: .ref a :: st) h Q := by
  obtain ⟨hd, hc⟩ := ab_ck_at hck hf
  obtain rfl : len = 1 := eq_of_beq (show (len == 1) = true from hc)
  obtain ⟨ha, hc1⟩ := ab_at_own hc0
  intro p e R s m args below meth c H locs cells slots ls F V
  have hkk := fun H locs V => k p e R s m args below meth c H locs cells slots ls F V
  obtain ⟨hx, hb, hr, hml, hown, hts, hlk, hnm, hok, hfr, hlo⟩ := F
  obtain ⟨v1, v2, hS, hRel, hLR⟩ := V
  show W _ _ _ _ _ _ _ _ _ _ _ _ _ _ _ (F0 m pc ls (.long x :: .int i :: ab_v X (.ref a) :: st.map (ab_v X)))
  rw [ab_ad_own ha]
  exact ab_Wlast hx hb hok.1 hRel hS hc1 hin hd (fun H1 locs1 hR1 hS1 => hkk H1 locs1 ⟨v1, v2, hS1, hR1, hLR⟩)
theorem ab_aald {a n : Nat} {f : Nat → Option Nat} {i : Int32} {q len ci kf : Nat} {cv : Value} (hck : ab_ckM M code = true) (hf : ab_fetch code pc = some (.aaload, len, cv, ci, kf)) (hc0 : ab_at h a = some (.inl (2, n, .inr (.inr (.inr (.inr f)))))) (hin : vp_in i n) (hq : f i.toNatClampNeg = some q) (k : ab_W X M d bc bs (pc + 1) lo (.ref q :: st) h Q) : ab_W X M d bc bs pc lo (.int i :: .ref a :: st) h Q := by
  obtain ⟨hd, hc⟩ := ab_ck_at hck hf
  obtain rfl : len = 1 := eq_of_beq (show (len == 1) = true from hc)
  obtain ⟨ha, hc1⟩ := ab_at_own hc0
  intro p e R s m args below meth c H locs cells slots ls F V
  have hkk := k p e R s m args below meth c H locs cells slots ls F V
  obtain ⟨hx, hb, hr, hml, hown, hts, hlk, hnm, hok, hfr, hlo⟩ := F
  obtain ⟨v1, v2, hS, hRel, hLR⟩ := V
  show W _ _ _ _ _ _ _ _ _ _ _ _ _ _ _ (F0 m pc ls (.int i :: ab_v X (.ref a) :: st.map (ab_v X)))
  rw [ab_ad_own ha]
  exact ab_Waald hx hb hok.1 hRel hc1 hin hq hd hkk
/-- putfield of a value that fits by a proof -/
theorem ab_putfR {a idx len ci kf : Nat} {cv v : Value} {fs : List Value} (hck : ab_ckM M code = true) (hf : ab_fetch code pc = some (.putfield idx, len, cv, ci, kf)) (hc0 : ab_at h a = some (.inr (ci, fs))) (hkl : kf < fs.length) (hfit : narrow (ab_fty ci kf) v = v ∧ fits (ab_fty ci kf) v = true) (hv : ∀ q, v ≠ .ref q) (k : ab_W X M d bc bs (pc + 3) lo st (h.set (a - ab_NT) (.inr (ci, fs.set kf v))) Q) : ab_W X M d bc bs pc lo (v :: .ref a :: st) h Q := by
  obtain ⟨hd, hc⟩ := ab_ck_at hck hf
  have hc : (len == 3 && ab_pf M.1 idx ci kf (ab_ti cv)) = true := hc
  simp only [Bool.and_eq_true, beq_iff_eq] at hc
  obtain ⟨rfl, hc⟩ := hc
  obtain ⟨ha, hc1⟩ := ab_at_own hc0
  intro p e R s m args below meth c H locs cells slots ls F V
  have hkk := fun H locs V => k p e R s m args below meth c H locs cells slots ls F V
  obtain ⟨hx, hb, hr, hml, hown, hts, hlk, hnm, hok, hfr, hlo⟩ := F
  obtain ⟨v1, v2, hS, hRel, hLR⟩ := V
  have hvv : ab_v X v = v := by
    cases v with
    | ref q => exact absurd rfl (hv q)
    | _ => rfl
  show W _ _ _ _ _ _ _ _ _ _ _ _ _ _ _ (F0 m pc ls (ab_v X v :: ab_v X (.ref a) :: st.map (ab_v X)))
  rw [ab_ad_own ha]
  exact ab_putf hx hb hts hown hnm hok.1 hRel hS hc1 hc hkl (fun ty e => by subst e; rw [hvv]; exact hfit) hd (fun H1 locs1 hR1 hS1 => hkk H1 locs1 ⟨v1, v2, hS1, hR1, hLR⟩)
theorem ab_idiv {x y : Int32} {len ci kf : Nat} {cv : Value} (hck : ab_ckM M code = true) (hf : ab_fetch code pc = some (.idiv, len, cv, ci, kf)) (hy : ¬ y = 0) (k : ab_W X M d bc bs (pc + 1) lo (.int (x / y) :: st) h Q) : ab_W X M d bc bs pc lo (.int y :: .int x :: st) h Q := by
  obtain ⟨hd, hc⟩ := ab_ck_at hck hf
  obtain rfl : len = 1 := eq_of_beq (show (len == 1) = true from hc)
  intro p e R s m args below meth c H locs cells slots ls F V
  exact lv_idiv F.1 F.2.1 hd hy (k p e R s m args below meth c H locs cells slots ls F V)
theorem ab_irem {x y : Int32} {len ci kf : Nat} {cv : Value} (hck : ab_ckM M code = true) (hf : ab_fetch code pc = some (.irem, len, cv, ci, kf)) (hy : ¬ y = 0) (k : ab_W X M d bc bs (pc + 1) lo (.int (x - x / y * y) :: st) h Q) : ab_W X M d bc bs pc lo (.int y :: .int x :: st) h Q := by
  obtain ⟨hd, hc⟩ := ab_ck_at hck hf
  obtain rfl : len = 1 := eq_of_beq (show (len == 1) = true from hc)
  intro p e R s m args below meth c H locs cells slots ls F V
  exact lv_irem F.1 F.2.1 hd hy (k p e R s m args below meth c H locs cells slots ls F V)
/-! ends -/
theorem ab_iret {x : Int32} {len ci kf : Nat} {cv : Value} (hck : ab_ckM M code = true) (hf : ab_fetch code pc = some (.ireturn, len, cv, ci, kf)) (hr : M.2.2.2 = some .int) (hq : Q (some (.int x)) h) : ab_W X M d bc bs pc lo [.int x] h Q := by
  obtain ⟨hd, hc⟩ := ab_ck_at hck hf
  obtain rfl : len = 1 := eq_of_beq (show (len == 1) = true from hc)
  intro p e R s m args below meth c H locs cells slots ls F V
  obtain ⟨hx, hb, hr0, hml, hown, hts, hlk, hnm, hok, hfr, hlo⟩ := F
  obtain ⟨v1, v2, hS, hRel, hLR⟩ := V
  refine W.widen (k := R.cells) (n := R.slots) (by omega) (by omega) ?_
  exact W.iret (v := x) hx hb (hr0.trans hr) (fun t ht hW => ⟨some (.int x), h, rfl, hq, by rw [ht]; exact hRel, hS.F ht⟩) hS.2.2 hd
theorem ab_zret {x : Int32} {len ci kf : Nat} {cv : Value} (hck : ab_ckM M code = true) (hf : ab_fetch code pc = some (.ireturn, len, cv, ci, kf)) (hr : M.2.2.2 = some .boolean) (hx01 : x = 0 ∨ x = 1) (hq : Q (some (.int x)) h) : ab_W X M d bc bs pc lo [.int x] h Q := by
  obtain ⟨hd, hc⟩ := ab_ck_at hck hf
  obtain rfl : len = 1 := eq_of_beq (show (len == 1) = true from hc)
  intro p e R s m args below meth c H locs cells slots ls F V
  obtain ⟨hx, hb, hr0, hml, hown, hts, hlk, hnm, hok, hfr, hlo⟩ := F
  obtain ⟨v1, v2, hS, hRel, hLR⟩ := V
  refine W.widen (k := R.cells) (n := R.slots) (by omega) (by omega) ?_
  exact W.zret (v := x) hx hb (hr0.trans hr) (by rcases hx01 with rfl | rfl <;> decide) (fun t ht hW => ⟨some (.int x), h, rfl, hq, by rw [ht]; exact hRel, hS.F ht⟩) hS.2.2 hd
theorem ab_lret {x : Int64} {len ci kf : Nat} {cv : Value} (hck : ab_ckM M code = true) (hf : ab_fetch code pc = some (.lreturn, len, cv, ci, kf)) (hr : M.2.2.2 = some .long) (hq : Q (some (.long x)) h) : ab_W X M d bc bs pc lo [.long x] h Q := by
  obtain ⟨hd, hc⟩ := ab_ck_at hck hf
  obtain rfl : len = 1 := eq_of_beq (show (len == 1) = true from hc)
  intro p e R s m args below meth c H locs cells slots ls F V
  obtain ⟨hx, hb, hr0, hml, hown, hts, hlk, hnm, hok, hfr, hlo⟩ := F
  obtain ⟨v1, v2, hS, hRel, hLR⟩ := V
  refine W.widen (k := R.cells) (n := R.slots) (by omega) (by omega) ?_
  exact W.lret (v := x) hx hb (hr0.trans hr) (fun t ht hW => ⟨some (.long x), h, rfl, hq, by rw [ht]; exact hRel, hS.F ht⟩) hS.2.2 hd
theorem ab_vret {len ci kf : Nat} {cv : Value} (hck : ab_ckM M code = true) (hf : ab_fetch code pc = some (.return_, len, cv, ci, kf)) (hr : M.2.2.2 = none) (hq : Q none h) : ab_W X M d bc bs pc lo [] h Q := by
  obtain ⟨hd, hc⟩ := ab_ck_at hck hf
  obtain rfl : len = 1 := eq_of_beq (show (len == 1) = true from hc)
  intro p e R s m args below meth c H locs cells slots ls F V
  obtain ⟨hx, hb, hr0, hml, hown, hts, hlk, hnm, hok, hfr, hlo⟩ := F
  obtain ⟨v1, v2, hS, hRel, hLR⟩ := V
  refine W.widen (k := R.cells) (n := R.slots) (by omega) (by omega) ?_
  exact W.vret hx hb (hr0.trans hr) (fun t ht hW => ⟨none, h, rfl, hq, by rw [ht]; exact hRel, hS.F ht⟩) hS.2.2 hd
theorem ab_W.mono {Q' : Option Value → ab_H → Prop} (hq : ∀ r h, Q r h → Q' r h) (k : ab_W X M d bc bs pc lo st h Q) : ab_W X M d bc bs pc lo st h Q' := by
  intro p e R s m args below meth c H locs cells slots ls F V T hT Z
  obtain ⟨t, a1, o, b1, b2, ⟨r, h', c1, c2, c3⟩, b4⟩ := k p e R s m args below meth c H locs cells slots ls F V T hT Z
  exact ⟨t, a1, o, b1, b2, ⟨r, h', c1, hq _ _ c2, c3⟩, b4⟩
end ABR
end
section
/-! A method's entry, calls, new cells -/
theorem ab_goodIn {M : ab_Mt} (hM : Cond.code M.1 M.2.1 M.2.2.1 M.2.2.2 ∈ lw_tbl) : GoodIn ab_tb (ab_wsM M) := by
  intro w hw
  rcases List.mem_cons.mp hw with rfl | hw
  · exact ⟨ab_in hM rfl, good_of_word rfl⟩
  · exact ⟨hw, good_of_word (List.mem_filter.mp hw).2⟩
theorem ab_Nw_moved {u U : State} (hW : u.WarmedH U.vm) (h : ∀ w ∈ ab_nst, va_Nw w u) : ∀ w ∈ ab_nst, va_Nw w U := by
  intro w hw
  have h1 := h w hw
  have h2 := (List.mem_filter.mp hw).2
  unfold ab_isN at h2
  split at h2
  · exact va_Nw.warmM hW h1
  · cases h2
theorem ab_Ok.moved {X : ab_C} {u U : State} (hW : u.WarmedH U.vm) (hq : ∀ a : Nat, a < u.heap.size → ¬ ab_A X a → U.heap[a]? = u.heap[a]?) (hb : ab_b X ≤ U.heap.size) (h : ab_Ok X u) : ab_Ok X U := by
  refine ⟨va_K.moved hW.alike h.1, fun j n f hj => ((h.2.1 j n f hj).moved hW.alike).kept hq, fun q hq2 => ((h.2.2.1 q hq2).moved hW.alike).kept hq, hb, ab_Nw_moved hW h.2.2.2.2.1, ?_⟩
  obtain ⟨k, h1, h2⟩ := h.2.2.2.2.2
  obtain ⟨k', hk', he⟩ := hW.alike.2.2 _ _ h1
  exact ⟨k', hk', by rw [he]; exact h2⟩
theorem ab_blind {X : ab_C} {as : List Value} {h : ab_H} : FrameBlind (va_Pc (as.map (ab_v X)) (fun U => ab_Ok X U ∧ ab_Rel X h U.heap)) := by
  intro a U g mk q
  obtain ⟨q0, q1, q2⟩ := q
  exact ⟨q0, ab_Ok.moved (u := U) (U := U.calling g mk a) (State.WarmedH.refl U) (fun _ _ _ => rfl) q1.2.2.2.1 q1, q2⟩
def ab_lo0 (as : List Value) : ab_Lo := match as with
  | [] => []
  | v :: r => if v.category = 2 then some v :: none :: ab_lo0 r else some v :: ab_lo0 r
theorem ab_lo0_len {X : ab_C} (as : List Value) : (ab_lo0 as).length = (lg_sl (as.map (ab_v X))).length := by
  induction as with
  | nil => rfl
  | cons v r ih =>
    have e : lg_sl ((v :: r).map (ab_v X)) = (if (ab_v X v).category = 2 then [Slot.val (ab_v X v), .second] else [.val (ab_v X v)]) ++ lg_sl (r.map (ab_v X)) := rfl
    rw [e, ab_v_cat]
    unfold ab_lo0
    split
    · simp [ih]
    · simp [ih]
theorem ab_lo0_in {X : ab_C} (as : List Value) : ∀ (o i : Nat) (v : Value), (ab_lo0 as)[i]? = some (some v) → (o + i, ab_v X v) ∈ lv_args o (as.map (ab_v X)) := by
  induction as with
  | nil => intro o i v h; simp [ab_lo0] at h
  | cons w r ih =>
    intro o i v h
    rw [List.map_cons]
    unfold ab_lo0 at h
    unfold lv_args
    split at h
    · rename_i hw
      cases i with
      | zero => simp at h; subst h; exact List.mem_cons_self
      | succ i =>
        cases i with
        | zero => simp at h
        | succ i =>
          simp at h
          refine List.mem_cons_of_mem _ ?_
          have := ih (o + 2) i v h
          have e : o + (i + 1 + 1) = o + 2 + i := by omega
          rw [e]
          simpa [ab_v_cat, hw] using this
    · rename_i hw
      cases i with
      | zero => simp at h; subst h; exact List.mem_cons_self
      | succ i =>
        simp at h
        refine List.mem_cons_of_mem _ ?_
        have hc1 : w.category = 1 := (lv_cat w).resolve_right hw
        have := ih (o + 1) i v h
        have e : o + (i + 1) = o + 1 + i := by omega
        rw [e]
        simpa [ab_v_cat, hc1] using this
/-- a method's contract out of its body -/
theorem ab_entry {X : ab_C} {M : ab_Mt} {d bc bs : Nat} {as : List Value} {h : ab_H} {Q : Option Value → ab_H → Prop} (hy : plainName M.1.cls = true) (hn : (ab_lo0 as).length ≤ M.2.2.1)
    (k : ab_W X M d bc bs 0 (ab_lo0 as ++ List.replicate (M.2.2.1 - (ab_lo0 as).length) none) [] h Q) : ab_M X M d bc bs as h Q := by
  refine Met.ofW (cc := M.2.1) (maxL := M.2.2.1) (ret := M.2.2.2) hy rfl ?_
  intro p e s m args below meth c s₁ B hml hv
  obtain ⟨rfl, hok, hRel⟩ := hv
  have hts0 := atoms_spec (ws := ab_wsM M) B.pre
  have hts : ∀ w ∈ ab_tb, w.before _ s = true := fun w hw => hts0 w (List.mem_cons_of_mem _ hw)
  have hown : s.vm.findClass M.1.cls = some m.cls := findClass_of_methodNamed B.named
  have hl := lv_entry (as.map (ab_v X)) (n := M.2.2.1) (by rw [← ab_lo0_len]; exact hn)
  rw [lg_entry_eq]
  generalize hls : (lg_sl (as.map (ab_v X)) ++ List.replicate (M.2.2.1 - (lg_sl (as.map (ab_v X))).length) Slot.unset).toArray = ls at hl
  refine k p e _ s m _ below meth c s.heap [] 0 0 ls ⟨B.exec, B.bytes, B.returns, hml, hown, hts, B.notSynchronized, (name_of_methodNamed B.named B.method).1, hok, Nat.le_refl _, Nat.le_refl _⟩ ⟨by show 0 + bc ≤ bc; omega, by show 0 + bs ≤ bs; omega, va_S.rf, hRel, ?_, _, hl, fun i v hi => ?_⟩
  · simp; omega
  · have hlt : i < (ab_lo0 as).length := by
      apply Decidable.byContradiction
      intro hge
      rw [List.getElem?_append_right (by omega)] at hi
      have := List.mem_of_getElem? hi
      rw [List.mem_replicate] at this
      exact absurd this.2 (by simp)
    rw [List.getElem?_append_left hlt] at hi
    have := ab_lo0_in (X := X) as 0 i v hi
    rwa [Nat.zero_add] at this
theorem ab_M.mono {X : ab_C} {M : ab_Mt} {d bc bs : Nat} {as : List Value} {h : ab_H} {Q Q' : Option Value → ab_H → Prop} (hq : ∀ r h, Q r h → Q' r h) (k : ab_M X M d bc bs as h Q) : ab_M X M d bc bs as h Q' := by
  intro p e ha hc hk s m args below hf hfit hP hK
  obtain ⟨t, o, a1, a2, a3, ⟨r, h', c1, c2, c3⟩, a5⟩ := k p e ha hc hk s m args below hf hfit hP hK
  exact ⟨t, o, a1, a2, a3, ⟨r, h', c1, hq _ _ c2, c3⟩, a5⟩
section ABC
variable {p : Program} {l : Launch} {e : Env} {R : Room} {s : State} {m : MethodId} {args : Array Value} {below : List Frame} {meth : Method} {c : Code} {H : Heap} {locs : List Loc} {cells slots : Nat} {Qw : State → Prop}
/-- behind a call -/
theorem ab_back {X : ab_C} {Q' : Option Value → ab_H → Prop} {mc ms pc : Nat} {ls : Array Slot} {st0 rest : List Value} {a : Array Value} (hr : va_Run p l e R s m args below meth c H locs cells slots mc ms (F0 m pc ls st0) rest (ab_Q X Q' a) (ab_A X)) (hS : va_S (ab_A X) s.heap H locs)
    (kk : ∀ (r : Option Value) (h' : ab_H) (H1 : Heap) (locs1 : List Loc), Q' r h' → ab_Rel X h' H1 → va_S (ab_A X) s.heap H1 locs1 → W p l e R s m args below meth c H1 locs1 (cells + mc) (slots + ms) Qw (F0 m (pc + 3) ls ((r.map (ab_v X)).toList ++ rest))) : W p l e R s m args below meth c H locs cells slots Qw (F0 m pc ls st0) := by
  intro T hT Z
  obtain ⟨v, st₀, t, T', L, h0, Z', hL, e1, e2, ⟨r, h', hv, hq, hRel, hz, hk⟩, st⟩ := hr T hT Z
  cases hv
  rw [h0] at hz hk
  obtain ⟨t2, a1, b1⟩ := kk r h' T'.heap (locs ++ L) hq (by rw [e1]; exact hRel)
    ⟨Nat.le_trans hS.1 (by rw [e1]; exact hz), fun q h1 h2 => by rw [e1, hk q (Nat.lt_of_lt_of_le h1 hS.1) h2]; exact hS.2.1 q h1 h2, fun q hq => by
      rcases List.mem_append.mp hq with h | h
      · exact hS.2.2 q h
      · exact hL q h⟩ T' rfl Z'
  exact ⟨t2, st t2 a1, b1⟩
end ABC
/-- the words of a method as a callee: kind 0 static, 1 virtual, 2 special; n arguments; places of the words 'initialized', 'static' or 'instanceMethod', 'selects' -/
def ab_mw (M : ab_Mt) (kind n i1 i2 i3 : Nat) : Bool :=
  ab_wd i1 (Cond.initialized M.1.cls) && decide (M.1.cls ≠ "java/lang/invoke/MethodHandle") && decide (M.1.cls ≠ "java/lang/invoke/VarHandle") && decide ((parseMethodDescriptor M.1.desc).map (fun d => d.parameters.length) = some n) && decide (M.2.2.1 ≤ 45) &&
  (match kind with
    | 0 => ab_wd i2 (Cond.static M.1)
    | 1 => ab_wd i2 (Cond.instanceMethod M.1) && ab_wd i3 (Cond.selects M.1.cls M.1 M.1)
    | _ => ab_wd i2 (Cond.instanceMethod M.1) && M.1.name == "<init>")
/-- what they say -/
def ab_MW (M : ab_Mt) (kind n : Nat) : Prop := Cond.initialized M.1.cls ∈ lw_tbl ∧ M.1.cls ≠ "java/lang/invoke/MethodHandle" ∧ M.1.cls ≠ "java/lang/invoke/VarHandle" ∧ (parseMethodDescriptor M.1.desc).map (fun d => d.parameters.length) = some n ∧ Cond.code M.1 M.2.1 M.2.2.1 M.2.2.2 ∈ lw_tbl ∧ M.2.2.1 ≤ 45 ∧
  (match kind with
    | 0 => Cond.static M.1 ∈ lw_tbl
    | 1 => Cond.instanceMethod M.1 ∈ lw_tbl ∧ Cond.selects M.1.cls M.1 M.1 ∈ lw_tbl
    | _ => Cond.instanceMethod M.1 ∈ lw_tbl ∧ M.1.name = "<init>")
theorem ab_t1 {w : Cond} (h : w ∈ tables_1_1) : w ∈ lw_tbl := List.mem_append_right _ (List.mem_append_left _ h)
theorem ab_t2 {w : Cond} (h : w ∈ tables_1_2) : w ∈ lw_tbl := List.mem_append_right _ (List.mem_append_right _ (List.mem_append_left _ h))
theorem ab_t3 {w : Cond} (h : w ∈ tables_1_3) : w ∈ lw_tbl := List.mem_append_right _ (List.mem_append_right _ (List.mem_append_right _ (List.mem_append_left _ h)))
theorem ab_t4 {w : Cond} (h : w ∈ tables_1_4) : w ∈ lw_tbl := List.mem_append_right _ (List.mem_append_right _ (List.mem_append_right _ (List.mem_append_right _ (List.mem_append_left _ h))))
theorem ab_t5 {w : Cond} (h : w ∈ tables_1_5) : w ∈ lw_tbl := List.mem_append_right _ (List.mem_append_right _ (List.mem_append_right _ (List.mem_append_right _ (List.mem_append_right _ h))))
theorem ab_ck_app {M : ab_Mt} {a b : ab_Cd} (h1 : ab_ckM M a = true) (h2 : ab_ckM M b = true) : ab_ckM M (a ++ b) = true := by
  unfold ab_ckM at *
  rw [List.all_append, h1, h2]; rfl
theorem ab_mw_ok {M : ab_Mt} {kind n i1 i2 i3 : Nat} (h : ab_mw M kind n i1 i2 i3 = true) (hcode : Cond.code M.1 M.2.1 M.2.2.1 M.2.2.2 ∈ lw_tbl) : ab_MW M kind n := by
  unfold ab_mw at h
  simp only [Bool.and_eq_true, decide_eq_true_eq] at h
  obtain ⟨⟨⟨⟨⟨h1, h2⟩, h3⟩, h4⟩, h6⟩, h7⟩ := h
  refine ⟨ab_wd_in h1, h2, h3, h4, hcode, h6, ?_⟩
  split at h7
  · exact ab_wd_in h7
  · simp only [Bool.and_eq_true] at h7
    exact ⟨ab_wd_in h7.1, ab_wd_in h7.2⟩
  · simp only [Bool.and_eq_true, beq_iff_eq] at h7
    exact ⟨ab_wd_in h7.1, h7.2⟩
/-- the link of a call: the word at place (ab_ti cv); ci 1: a nest mate's -/
def ab_lk (own : String) (idx ci : Nat) (cv : Value) (y : MethodName) : Bool := if ci = 1 then ab_hosts.any (fun ho => ab_wd (ab_ti cv) (Cond.methodLinkNest own idx y ho)) else ab_wd (ab_ti cv) (Cond.methodLink own idx y)
theorem ab_lk_inv {own : String} {idx ci : Nat} {cv : Value} {y : MethodName} (h : ab_lk own idx ci cv y = true) : Cond.methodLink own idx y ∈ lw_tbl ∨ ∃ ho, Cond.methodLinkNest own idx y ho ∈ lw_tbl := by
  unfold ab_lk at h
  split at h
  · obtain ⟨ho, -, h⟩ := List.any_eq_true.mp h
    exact Or.inr ⟨ho, ab_wd_in h⟩
  · exact Or.inl (ab_wd_in h)
theorem ab_cat_sum (X : ab_C) (rest : List Value) : ((rest.map (ab_v X)).map fun v => v.category).sum = (rest.map fun v => v.category).sum := by
  induction rest with
  | nil => rfl
  | cons v r ih => simp only [List.map_cons, List.sum_cons, ih, ab_v_cat]
section ABD
variable {X : ab_C} {M M' : ab_Mt} {code : ab_Cd} {d d' bc bs bc' bs' bc2 bs2 pc : Nat} {lo : ab_Lo} {rest as : List Value} {h : ab_H} {Q Q' : Option Value → ab_H → Prop} {idx n len ci kf : Nat} {cv : Value}
theorem ab_pre {s : State} {args : Array Value} {H : Heap} {locs : List Loc} (hok : ab_Ok X s) (hS : va_S (ab_A X) s.heap H locs) (hRel : ab_Rel X h H) : PreS s H (va_Pc (as.map (ab_v X)) (fun U => ab_Ok X U ∧ ab_Rel X h U.heap)) (as.map (ab_v X)) := by
  refine ⟨ab_blind, fun U hU hW => ⟨rfl, ab_Ok.moved hW (fun a h1 h2 => ?_) ?_ hok, by rw [hU]; exact hRel⟩⟩
  · rw [hU]; exact hS.2.1 a h1 h2
  · rw [hU]; exact Nat.le_trans hok.2.2.2.1 hS.1
theorem ab_rev (X : ab_C) (as rest : List Value) : (as.reverse ++ rest).map (ab_v X) = (as.map (ab_v X)).reverse ++ rest.map (ab_v X) := by simp
/-- invokestatic -/
theorem ab_callS (hck : ab_ckM M code = true) (hf : ab_fetch code pc = some (.invokestatic idx, len, cv, ci, kf)) (hw : ab_lk M.1.cls idx ci cv M'.1 = true) (hmw : ab_MW M' 0 as.length) (hM : ab_M X M' d' bc' bs' as h Q') (hd : d' + 1 ≤ d) (hb1 : bc' + bc2 ≤ bc ∧ bs' + bs2 ≤ bs) (hrest : (rest.map fun v => v.category).sum ≤ 8)
    (k : ∀ r h', Q' r h' → ab_W X M d bc2 bs2 (pc + 3) lo (r.toList ++ rest) h' Q) : ab_W X M d bc bs pc lo (as.reverse ++ rest) h Q := by
  obtain ⟨hdc, hc⟩ := ab_ck_at hck hf
  obtain rfl : len = 3 := eq_of_beq (show (len == 3) = true from hc)
  intro p e R s m args below meth c H locs cells slots ls F V
  have hk := fun r h' hq H locs V => k r h' hq p e R s m args below meth c H locs (cells + bc') (slots + bs') ls F V
  obtain ⟨hx, hb, hr, hml, hown, hts, hlk, hnm, hok, hfr, hlo⟩ := F
  obtain ⟨v1, v2, hS, hRel, hLR⟩ := V
  have hl := ab_lk_inv hw
  obtain ⟨hini, hm1, hm2, hpl, hcm, hml2, hstat⟩ := hmw
  have hstat : Cond.static M'.1 ∈ lw_tbl := hstat
  rw [ab_rev]
  have hroom : 2 * (F0 m pc ls ((as.map (ab_v X)).reverse ++ rest.map (ab_v X))).monitorRoom + ((rest.map (ab_v X)).map fun v => v.category).sum ≤ 8 := lv_room (by rw [ab_cat_sum]; exact hrest)
  have hsz : ls.size = M.2.2.1 := by obtain ⟨-, lv, g, -⟩ := hLR; exact g.1
  have fin : ∀ (r : Option Value) (h' : ab_H) (H1 : Heap) (locs1 : List Loc), Q' r h' → ab_Rel X h' H1 → va_S (ab_A X) s.heap H1 locs1 → W p X.1 e R s m args below meth c H1 locs1 (cells + bc') (slots + bs') (MQ below (ab_Q X Q) args s R.cells R.slots (ab_A X)) (F0 m (pc + 3) ls ((r.map (ab_v X)).toList ++ rest.map (ab_v X))) := by
    intro r h' H1 locs1 hq hR1 hS1
    have := hk r h' hq H1 locs1 ⟨by omega, by omega, hS1, hR1, hLR⟩
    rw [List.map_append] at this
    cases r with
    | none => exact this
    | some v => exact this
  rcases hl with hl | ⟨ho, hl⟩
  · exact ab_back (va_runS (As := as.map (ab_v X)) (rest := rest.map (ab_v X)) ⟨hx, hb, hml, hown, hts⟩ hM ⟨callB_of as.length hts (ab_goodIn hcm) rfl rfl rfl (hts _ (ab_in hini rfl)) (hts _ (ab_in hl rfl)) ⟨hm1, hm2, hpl⟩ ⟨by show d' + 1 ≤ R.frames; omega, by show 8 + (M'.2.2.1 + 11) + 64 * d' ≤ R.locals; omega⟩, hts _ (ab_in hstat rfl)⟩ (ab_pre (args := args) hok hS hRel) rfl (by rw [List.length_map]) hsz rfl hroom hdc ⟨by omega, by omega⟩) hS fin
  · exact ab_back (va_runSN (As := as.map (ab_v X)) (rest := rest.map (ab_v X)) ⟨hx, hb, hml, hown, hts⟩ hM ⟨va_cnB as.length hts (ab_goodIn hcm) rfl rfl rfl (hok.2.2.2.2.1 _ (List.mem_filter.mpr ⟨hl, rfl⟩)) (hts _ (ab_in hini rfl)) ⟨hm1, hm2, hpl⟩ ⟨by show d' + 1 ≤ R.frames; omega, by show 8 + (M'.2.2.1 + 11) + 64 * d' ≤ R.locals; omega⟩, hts _ (ab_in hstat rfl), trivial⟩ (ab_pre (args := args) hok hS hRel) rfl (by rw [List.length_map]) hsz rfl hroom hdc ⟨by omega, by omega⟩) hS fin
/-- invokevirtual, the receiver an object of the class that has the method -/
theorem ab_callV {b cix : Nat} {fs : List Value} (hck : ab_ckM M code = true) (hf : ab_fetch code pc = some (.invokevirtual idx, len, cv, ci, kf)) (hw : ab_lk M.1.cls idx ci cv M'.1 = true) (hmw : ab_MW M' 1 as.length) (hM : ab_M X M' d' bc' bs' (.ref b :: as) h Q') (hob : ab_at h b = some (.inr (cix, fs))) (hcx : (vwCl[cix]?).map (fun q => q.1) = some M'.1.cls) (hd : d' + 1 ≤ d) (hb1 : bc' + bc2 ≤ bc ∧ bs' + bs2 ≤ bs) (hrest : (rest.map fun v => v.category).sum ≤ 8)
    (k : ∀ r h', Q' r h' → ab_W X M d bc2 bs2 (pc + 3) lo (r.toList ++ rest) h' Q) : ab_W X M d bc bs pc lo (as.reverse ++ .ref b :: rest) h Q := by
  obtain ⟨hdc, hc⟩ := ab_ck_at hck hf
  obtain rfl : len = 3 := eq_of_beq (show (len == 3) = true from hc)
  obtain ⟨hbn, hob1⟩ := ab_at_own hob
  intro p e R s m args below meth c H locs cells slots ls F V
  have hk := fun r h' hq H locs V => k r h' hq p e R s m args below meth c H locs (cells + bc') (slots + bs') ls F V
  obtain ⟨hx, hb, hr, hml, hown, hts, hlk, hnm, hok, hfr, hlo⟩ := F
  obtain ⟨v1, v2, hS, hRel, hLR⟩ := V
  have hl := ab_lk_inv hw
  obtain ⟨hini, hm1, hm2, hpl, hcm, hml2, hiv⟩ := hmw
  obtain ⟨hinst, hsel⟩ : Cond.instanceMethod M'.1 ∈ lw_tbl ∧ Cond.selects M'.1.cls M'.1 M'.1 ∈ lw_tbl := hiv
  rw [ab_rev, List.map_cons]
  have hroom : 2 * (F0 m pc ls ((as.map (ab_v X)).reverse ++ ab_v X (.ref b) :: rest.map (ab_v X))).monitorRoom + ((rest.map (ab_v X)).map fun v => v.category).sum ≤ 8 := lv_room (by rw [ab_cat_sum]; exact hrest)
  have hsz : ls.size = M.2.2.1 := by obtain ⟨-, lv, g, -⟩ := hLR; exact g.1
  have fin : ∀ (r : Option Value) (h' : ab_H) (H1 : Heap) (locs1 : List Loc), Q' r h' → ab_Rel X h' H1 → va_S (ab_A X) s.heap H1 locs1 → W p X.1 e R s m args below meth c H1 locs1 (cells + bc') (slots + bs') (MQ below (ab_Q X Q) args s R.cells R.slots (ab_A X)) (F0 m (pc + 3) ls ((r.map (ab_v X)).toList ++ rest.map (ab_v X))) := by
    intro r h' H1 locs1 hq hR1 hS1
    have := hk r h' hq H1 locs1 ⟨by omega, by omega, hS1, hR1, hLR⟩
    rw [List.map_append] at this
    cases r with
    | none => exact this
    | some v => exact this
  obtain ⟨q, hq1, hq2⟩ : ∃ q, vwCl[cix]? = some q ∧ q.1 = M'.1.cls := by
    cases hq : vwCl[cix]? with
    | none => rw [hq] at hcx; cases hcx
    | some q => rw [hq] at hcx; exact ⟨q, rfl, Option.some.inj hcx⟩
  have hrecv := va_recv hok.1 hRel.2 hq1 (ab_ws_at hob1)
  rw [hq2] at hrecv
  have hpre := ab_pre (X := X) (h := h) (as := .ref b :: as) (args := args) hok hS hRel
  have e0 : ab_v X (.ref b) = .ref (ab_b X + (b - ab_NT)) := ab_ad_own hbn
  rw [List.map_cons] at hpre
  have hM2 : Met X.1 M'.1 (ab_wsM M') { frames := d', cells := bc', slots := bs', locals := 64 * d' } (va_Pc (ab_v X (.ref b) :: as.map (ab_v X)) (fun U => ab_Ok X U ∧ ab_Rel X h U.heap)) (ab_Q X Q') bc' bs' (ab_A X) := hM
  rw [e0] at hpre hM2 ⊢
  rw [e0] at hroom
  rcases hl with hl | ⟨ho, hl⟩
  · exact ab_back (va_runV (C := M'.1.cls) (As := as.map (ab_v X)) (rest := rest.map (ab_v X)) ⟨hx, hb, hml, hown, hts⟩ hM2 ⟨callB_of as.length hts (ab_goodIn hcm) rfl rfl rfl (hts _ (ab_in hini rfl)) (hts _ (ab_in hl rfl)) ⟨hm1, hm2, hpl⟩ ⟨by show d' + 1 ≤ R.frames; omega, by show 8 + (M'.2.2.1 + 11) + 64 * d' ≤ R.locals; omega⟩, hts _ (ab_in hinst rfl), hts _ (ab_in hsel rfl)⟩ ⟨hpre.1, hrecv, hpre.2⟩ rfl (by rw [List.length_map]) hsz rfl hroom hdc ⟨by omega, by omega⟩) hS fin
  · exact ab_back (va_runVN (C := M'.1.cls) (As := as.map (ab_v X)) (rest := rest.map (ab_v X)) ⟨hx, hb, hml, hown, hts⟩ hM2 ⟨va_cnB as.length hts (ab_goodIn hcm) rfl rfl rfl (hok.2.2.2.2.1 _ (List.mem_filter.mpr ⟨hl, rfl⟩)) (hts _ (ab_in hini rfl)) ⟨hm1, hm2, hpl⟩ ⟨by show d' + 1 ≤ R.frames; omega, by show 8 + (M'.2.2.1 + 11) + 64 * d' ≤ R.locals; omega⟩, hts _ (ab_in hinst rfl), hts _ (ab_in hsel rfl)⟩ ⟨hpre.1, hrecv, hpre.2⟩ rfl (by rw [List.length_map]) hsz rfl hroom hdc ⟨by omega, by omega⟩) hS fin
/-- invokespecial: a constructor -/
theorem ab_callI {b : Nat} (hck : ab_ckM M code = true) (hf : ab_fetch code pc = some (.invokespecial idx, len, cv, ci, kf)) (hw : ab_lk M.1.cls idx ci cv M'.1 = true) (hmw : ab_MW M' 2 as.length) (hret : M'.2.2.2 = none) (hM : ab_M X M' d' bc' bs' (.ref b :: as) h Q') (hbn : ¬ b < ab_NT) (hd : d' + 1 ≤ d) (hb1 : bc' + bc2 ≤ bc ∧ bs' + bs2 ≤ bs) (hrest : (rest.map fun v => v.category).sum ≤ 8)
    (k : ∀ r h', Q' r h' → ab_W X M d bc2 bs2 (pc + 3) lo (r.toList ++ rest) h' Q) : ab_W X M d bc bs pc lo (as.reverse ++ .ref b :: rest) h Q := by
  obtain ⟨hdc, hc⟩ := ab_ck_at hck hf
  obtain rfl : len = 3 := eq_of_beq (show (len == 3) = true from hc)
  obtain ⟨y', cc', ml', ret'⟩ := M'
  dsimp only at hret
  subst hret
  intro p e R s m args below meth c H locs cells slots ls F V
  have hk := fun r h' hq H locs V => k r h' hq p e R s m args below meth c H locs (cells + bc') (slots + bs') ls F V
  obtain ⟨hx, hb, hr, hml, hown, hts, hlk, hnm, hok, hfr, hlo⟩ := F
  obtain ⟨v1, v2, hS, hRel, hLR⟩ := V
  have hl := ab_lk_inv hw
  obtain ⟨hini, hm1, hm2, hpl, hcm, hml2, hiv⟩ := hmw
  obtain ⟨hinst, hyi⟩ : Cond.instanceMethod y' ∈ lw_tbl ∧ y'.name = "<init>" := hiv
  dsimp only at hini hm1 hm2 hpl hcm hml2 hl
  rw [ab_rev, List.map_cons]
  have hroom : 2 * (F0 m pc ls ((as.map (ab_v X)).reverse ++ ab_v X (.ref b) :: rest.map (ab_v X))).monitorRoom + ((rest.map (ab_v X)).map fun v => v.category).sum ≤ 8 := lv_room (by rw [ab_cat_sum]; exact hrest)
  have hsz : ls.size = M.2.2.1 := by obtain ⟨-, lv, g, -⟩ := hLR; exact g.1
  have fin : ∀ (r : Option Value) (h' : ab_H) (H1 : Heap) (locs1 : List Loc), Q' r h' → ab_Rel X h' H1 → va_S (ab_A X) s.heap H1 locs1 → W p X.1 e R s m args below meth c H1 locs1 (cells + bc') (slots + bs') (MQ below (ab_Q X Q) args s R.cells R.slots (ab_A X)) (F0 m (pc + 3) ls ((r.map (ab_v X)).toList ++ rest.map (ab_v X))) := by
    intro r h' H1 locs1 hq hR1 hS1
    have := hk r h' hq H1 locs1 ⟨by omega, by omega, hS1, hR1, hLR⟩
    rw [List.map_append] at this
    cases r with
    | none => exact this
    | some v => exact this
  have hpre := ab_pre (X := X) (h := h) (as := .ref b :: as) (args := args) hok hS hRel
  have e0 : ab_v X (.ref b) = .ref (ab_b X + (b - ab_NT)) := ab_ad_own hbn
  rw [List.map_cons] at hpre
  have hM2 : Met X.1 y' (ab_wsM (y', cc', ml', none)) { frames := d', cells := bc', slots := bs', locals := 64 * d' } (va_Pc (ab_v X (.ref b) :: as.map (ab_v X)) (fun U => ab_Ok X U ∧ ab_Rel X h U.heap)) (ab_Q X Q') bc' bs' (ab_A X) := hM
  rw [e0] at hpre hM2 ⊢
  rw [e0] at hroom
  rcases hl with hl | ⟨ho, hl⟩
  · exact ab_back (va_runI (As := as.map (ab_v X)) (rest := rest.map (ab_v X)) ⟨hx, hb, hml, hown, hts⟩ hM2 ⟨callB_of as.length hts (ab_goodIn hcm) rfl rfl rfl (hts _ (ab_in hini rfl)) (hts _ (ab_in hl rfl)) ⟨hm1, hm2, hpl⟩ ⟨by show d' + 1 ≤ R.frames; omega, by show 8 + (ml' + 11) + 64 * d' ≤ R.locals; omega⟩, hyi, hts _ (ab_in hinst rfl)⟩ hpre rfl (by rw [List.length_map]) hsz rfl hroom hdc ⟨by omega, by omega⟩) hS fin
  · exact ab_back (va_runIN (As := as.map (ab_v X)) (rest := rest.map (ab_v X)) ⟨hx, hb, hml, hown, hts⟩ hM2 ⟨va_cnB as.length hts (ab_goodIn hcm) rfl rfl rfl (hok.2.2.2.2.1 _ (List.mem_filter.mpr ⟨hl, rfl⟩)) (hts _ (ab_in hini rfl)) ⟨hm1, hm2, hpl⟩ ⟨by show d' + 1 ≤ R.frames; omega, by show 8 + (ml' + 11) + 64 * d' ≤ R.locals; omega⟩, hyi, hts _ (ab_in hinst rfl)⟩ hpre rfl (by rw [List.length_map]) hsz rfl hroom hdc ⟨by omega, by omega⟩) hS fin
end ABD
end
section
/-! New cells, Object's constructor, Math, switches -/
theorem ab_Rel.push {X : ab_C} {h : ab_H} {H H1 : Heap} (hRel : ab_Rel X h H) {c1 : va_E} (he : va_at X.2.1 vwCl (ab_b X + h.length, ab_c X c1) H1) (hz : H1.size = H.size + 1) (oq : ∀ q : Nat, q < H.size → H1[q]? = H[q]?) : ab_Rel X (h ++ [c1]) H1 := by
  refine ⟨by rw [hz, List.length_append, hRel.1]; simp; omega, ?_⟩
  rw [← ab_ws_push]
  refine va_P.app (hRel.2.kept (fun k q hk => oq q.1 (hRel.2 k q hk).lt)) (fun k q hk => ?_)
  have hz : k < 1 := (List.getElem?_eq_some_iff.mp hk).1
  rw [show k = 0 by omega] at hk
  cases hk
  exact he
def ab_dfl (ci : Nat) : List Value := match vwCl[ci]? with
  | some q => (List.range q.2.2).map (fun k => defaultValue (ab_tyq q k))
  | none => []
def ab_ckn (own : String) (idx ci : Nat) : Bool := match vwCl[ci]? with
  | some q => decide (Cond.classLink own idx q.1 ∈ lw_tbl) && decide (Cond.instantiable q.1 q.2.2 ∈ lw_tbl) && decide (Cond.initialized q.1 ∈ lw_tbl)
  | none => false
theorem ab_dv (X : ab_C) (ty : FieldType) : ab_v X (defaultValue ty) = defaultValue ty := by cases ty <;> rfl
section ABN
variable {X : ab_C} {M : ab_Mt} {code : ab_Cd} {d bc bs bc2 bs2 pc : Nat} {lo : ab_Lo} {st : List Value} {h : ab_H} {Q : Option Value → ab_H → Prop} {idx len ci kf : Nat} {cv : Value}
theorem ab_new (hck : ab_ckM M code = true) (hf : ab_fetch code pc = some (.new idx, len, cv, ci, kf)) (hw : ab_ckn M.1.cls idx ci = true) (hb1 : 1 + bc2 ≤ bc ∧ (ab_dfl ci).length + bs2 ≤ bs) (k : ab_W X M d bc2 bs2 (pc + 3) lo (.ref (ab_NT + h.length) :: st) (h ++ [.inr (ci, ab_dfl ci)]) Q) : ab_W X M d bc bs pc lo st h Q := by
  obtain ⟨hdc, hc⟩ := ab_ck_at hck hf
  obtain rfl : len = 3 := eq_of_beq (show (len == 3) = true from hc)
  intro p e R s m args below meth c H locs cells slots ls F V
  have hk := fun H V => k p e R s m args below meth c H locs (cells + 1) (slots + (ab_dfl ci).length) ls F V
  obtain ⟨hx, hb, hr, hml, hown, hts, hlk, hnm, hok, hfr, hlo⟩ := F
  obtain ⟨v1, v2, hS, hRel, hLR⟩ := V
  unfold ab_ckn at hw
  split at hw
  · rename_i q hq
    obtain ⟨C, T, N⟩ := q
    simp only [Bool.and_eq_true, decide_eq_true_eq] at hw
    obtain ⟨⟨w1, w2⟩, w3⟩ := hw
    have hdf : ab_dfl ci = (List.range N).map (fun k => defaultValue (ab_tyq (C, T, N) k)) := by unfold ab_dfl; rw [hq]
    have hlen : (ab_dfl ci).length = N := by rw [hdf]; simp
    rw [hlen] at hb1 hk
    obtain ⟨hin, hty, hnms⟩ := ab_cls hq
    have hKn := hok.1.1 ci _ hq
    refine W.newcK hx hb hown (hts _ (ab_in w1 rfl)) (hts _ (ab_in w2 rfl)) (hts _ (ab_in w3 rfl)) rfl hdc (by omega) (by omega) hKn.2.1 rfl fun H1 kC hkC e1 z1 o1 => ?_
    have e0 : ab_v X (.ref (ab_NT + h.length)) = .ref H.size := by
      rw [ab_ad_own (by omega), hRel.1]
      congr 2
      omega
    have hkk := hk H1 ⟨by omega, by omega, ⟨Nat.le_trans hS.1 (by omega), fun x h1 h2 => (o1 x (Nat.lt_of_lt_of_le h1 hS.1)).trans (hS.2.1 x h1 h2), hS.2.2⟩, hRel.push ?_ z1 o1, hLR⟩
    · rw [List.map_cons, e0] at hkk
      exact hkk
    · refine ⟨_, hq, (u_born (ab_tyq (C, T, N)) hts hin hKn hkC (by rw [← hRel.1]; exact e1) hty).to (fun j hj => ?_)⟩
      show defaultValue (ab_tyq (C, T, N) j) = vp_V ((ab_dfl ci).map (ab_v X)) j
      rw [hdf]
      simp [vp_V, hj, ab_dv]
  · cases hw
theorem ab_newaI {n : Int32} (N : Nat) (hck : ab_ckM M code = true) (hf : ab_fetch code pc = some (.newarray .int, len, cv, ci, kf)) (hw : decide (Cond.arrayClass .int ∈ lw_tbl) = true) (hn : ¬ n < 0) (hN : n.toNatClampNeg = N) (hN2 : N ≤ 100000) (hb1 : 1 + bc2 ≤ bc ∧ N + bs2 ≤ bs) (k : ab_W X M d bc2 bs2 (pc + 2) lo (.ref (ab_NT + h.length) :: st) (h ++ [.inl (0, N, .inl (fun _ => 0))]) Q) : ab_W X M d bc bs pc lo (.int n :: st) h Q := by
  obtain ⟨hdc, hc⟩ := ab_ck_at hck hf
  obtain rfl : len = 2 := eq_of_beq (show (len == 2) = true from hc)
  intro p e R s m args below meth c H locs cells slots ls F V
  have hk := fun H V => k p e R s m args below meth c H locs (cells + 1) (slots + N) ls F V
  obtain ⟨hx, hb, hr, hml, hown, hts, hlk, hnm, hok, hfr, hlo⟩ := F
  obtain ⟨v1, v2, hS, hRel, hLR⟩ := V
  have w := hts _ (ab_in (of_decide_eq_true hw) rfl)
  refine va_newaK hx hb (atype := .int) w rfl hdc rfl hn hN (by show N * 4 ≤ 536870912; omega) (by omega) (by omega) rfl fun H1 cA e1 z1 o1 hAr hNm => ?_
  have hcA : cA = X.2.2.1 0 := by
    have h2 : s.vm.findClass ("[" ++ FieldType.int.toString) = some (X.2.2.1 0) := (hok.1.2 0 _ rfl).2
    exact Option.some.inj (hNm.symm.trans h2)
  subst hcA
  have e0 : ab_v X (.ref (ab_NT + h.length)) = .ref H.size := by
    rw [ab_ad_own (by omega), hRel.1]
    congr 2
    omega
  have hkk := hk H1 ⟨by omega, by omega, ⟨Nat.le_trans hS.1 (by omega), fun x h1 h2 => (o1 x (Nat.lt_of_lt_of_le h1 hS.1)).trans (hS.2.1 x h1 h2), hS.2.2⟩, hRel.push (by show H1[_]? = _; rw [← hRel.1]; exact e1) z1 o1, hLR⟩
  rw [List.map_cons, e0] at hkk
  exact hkk
theorem ab_newaL {n : Int32} (N : Nat) (hck : ab_ckM M code = true) (hf : ab_fetch code pc = some (.newarray .long, len, cv, ci, kf)) (hw : decide (Cond.arrayClass .long ∈ lw_tbl) = true) (hn : ¬ n < 0) (hN : n.toNatClampNeg = N) (hN2 : N ≤ 100000) (hb1 : 1 + bc2 ≤ bc ∧ N + bs2 ≤ bs) (k : ab_W X M d bc2 bs2 (pc + 2) lo (.ref (ab_NT + h.length) :: st) (h ++ [.inl (1, N, .inr (.inl (fun _ => 0)))]) Q) : ab_W X M d bc bs pc lo (.int n :: st) h Q := by
  obtain ⟨hdc, hc⟩ := ab_ck_at hck hf
  obtain rfl : len = 2 := eq_of_beq (show (len == 2) = true from hc)
  intro p e R s m args below meth c H locs cells slots ls F V
  have hk := fun H V => k p e R s m args below meth c H locs (cells + 1) (slots + N) ls F V
  obtain ⟨hx, hb, hr, hml, hown, hts, hlk, hnm, hok, hfr, hlo⟩ := F
  obtain ⟨v1, v2, hS, hRel, hLR⟩ := V
  have w := hts _ (ab_in (of_decide_eq_true hw) rfl)
  refine va_newaK hx hb (atype := .long) w rfl hdc rfl hn hN (by show N * 8 ≤ 536870912; omega) (by omega) (by omega) rfl fun H1 cA e1 z1 o1 hAr hNm => ?_
  have hcA : cA = X.2.2.1 1 := by
    have h2 : s.vm.findClass ("[" ++ FieldType.long.toString) = some (X.2.2.1 1) := (hok.1.2 1 _ rfl).2
    exact Option.some.inj (hNm.symm.trans h2)
  subst hcA
  have e0 : ab_v X (.ref (ab_NT + h.length)) = .ref H.size := by
    rw [ab_ad_own (by omega), hRel.1]
    congr 2
    omega
  have hkk := hk H1 ⟨by omega, by omega, ⟨Nat.le_trans hS.1 (by omega), fun x h1 h2 => (o1 x (Nat.lt_of_lt_of_le h1 hS.1)).trans (hS.2.1 x h1 h2), hS.2.2⟩, hRel.push (by show H1[_]? = _; rw [← hRel.1]; exact e1) z1 o1, hLR⟩
  rw [List.map_cons, e0] at hkk
  exact hkk
def ab_cko (own : String) (idx : Nat) : Bool := decide (Cond.methodLink own idx objectInit ∈ lw_tbl)
theorem ab_objW : Cond.instanceMethod objectInit ∈ lw_tbl ∧ Cond.code objectInit ⟨#[0xb1]⟩ 1 none ∈ lw_tbl := by decide +kernel
theorem ab_objInit {a : Nat} (hck : ab_ckM M code = true) (hf : ab_fetch code pc = some (.invokespecial idx, len, cv, ci, kf)) (hw : ab_cko M.1.cls idx = true) (hd : 1 ≤ d) (hrest : (st.map fun v => v.category).sum ≤ 8) (k : ab_W X M d bc bs (pc + 3) lo st h Q) : ab_W X M d bc bs pc lo (.ref a :: st) h Q := by
  obtain ⟨hdc, hc⟩ := ab_ck_at hck hf
  obtain rfl : len = 3 := eq_of_beq (show (len == 3) = true from hc)
  intro p e R s m args below meth c H locs cells slots ls F V
  have hkk := k p e R s m args below meth c H locs cells slots ls F V
  obtain ⟨hx, hb, hr, hml, hown, hts, hlk, hnm, hok, hfr, hlo⟩ := F
  obtain ⟨v1, v2, hS, hRel, hLR⟩ := V
  have hsz : ls.size = M.2.2.1 := by obtain ⟨-, lv, g, -⟩ := hLR; exact g.1
  have hroom : 2 * (F0 m pc ls ((Value.ref a :: st).map (ab_v X))).monitorRoom + ((st.map (ab_v X)).map fun v => v.category).sum ≤ 8 := lv_room (by rw [ab_cat_sum]; exact hrest)
  exact W.objInit hx hb hown (hts _ (ab_in (of_decide_eq_true hw) rfl)) (hts _ (ab_in ab_objW.1 rfl)) (hts _ (ab_in ab_objW.2 rfl)) rfl (hsz.trans hml.symm) rfl hdc (by omega) (by omega) hkk
end ABN
end
section
/-! methods and their code, by program -/
abbrev mC_find : ab_Mt := (⟨"BusServo$Catalog", "find", "(II)I"⟩, prog_2_method_2_code, 4, (some .int))
def kC_find : ab_Cd := [
  (0, (.iload_n 0, 1, .null, 0, 0)),
  (1, (.ifCond .lt 20, 3, .null, 0, 21)),
  (4, (.iload_n 0, 1, .null, 0, 0)),
  (5, (.ldc 7, 2, .int 65535, 0, 335)),
  (7, (.if_icmp .gt 14, 3, .null, 0, 21)),
  (10, (.iload_n 1, 1, .null, 0, 0)),
  (11, (.ifCond .lt 10, 3, .null, 0, 21)),
  (14, (.iload_n 1, 1, .null, 0, 0)),
  (15, (.sipush 255, 3, .int 255, 0, 0)),
  (18, (.if_icmp .le 5, 3, .null, 0, 23)),
  (21, (.iconst (-1), 1, .int (-1), 0, 0)),
  (22, (.ireturn, 1, .null, 0, 0)),
  (23, (.iload_n 0, 1, .null, 0, 0)),
  (24, (.sipush 256, 3, .int 256, 0, 0)),
  (27, (.imul, 1, .null, 0, 0)),
  (28, (.iload_n 1, 1, .null, 0, 0)),
  (29, (.iadd, 1, .null, 0, 0)),
  (30, (.istore_n 2, 1, .null, 0, 0)),
  (31, (.iconst 0, 1, .int 0, 0, 0)),
  (32, (.istore_n 3, 1, .null, 0, 0)),
  (33, (.iload_n 3, 1, .null, 0, 0)),
  (34, (.bipush 30, 2, .int 30, 0, 0)),
  (36, (.if_icmp .ge 23, 3, .null, 0, 59)),
  (39, (.getstatic 10, 3, .ref 204, 0, 0)),
  (42, (.iload_n 3, 1, .null, 0, 0)),
  (43, (.bipush 6, 2, .int 6, 0, 0)),
  (45, (.imul, 1, .null, 0, 0)),
  (46, (.iaload, 1, .null, 0, 0)),
  (47, (.iload_n 2, 1, .null, 0, 0)),
  (48, (.if_icmp .ne 5, 3, .null, 0, 53)),
  (51, (.iload_n 3, 1, .null, 0, 0)),
  (52, (.ireturn, 1, .null, 0, 0)),
  (53, (.iinc 3 1, 3, .int 1, 0, 0)),
  (56, (.goto (-23), 3, .null, 0, 33)),
  (59, (.iconst (-1), 1, .int (-1), 0, 0)),
  (60, (.ireturn, 1, .null, 0, 0))]
set_option maxRecDepth 100000 in
theorem ckC_find : ab_ckM mC_find kC_find = true := by decide +kernel
set_option maxRecDepth 100000 in
theorem wC_find : ab_MW mC_find 0 2 := ab_mw_ok (i1 := 67) (i2 := 333) (i3 := 0) (by decide +kernel) (ab_t2 (List.mem_of_getElem? (i := 35) rfl))
abbrev mC_hasIndex : ab_Mt := (⟨"BusServo$Catalog", "hasIndex", "(I)Z"⟩, prog_2_method_3_code, 2, (some .boolean))
def kC_hasIndex : ab_Cd := [
  (0, (.iconst 0, 1, .int 0, 0, 0)),
  (1, (.istore_n 1, 1, .null, 0, 0)),
  (2, (.iload_n 1, 1, .null, 0, 0)),
  (3, (.bipush 30, 2, .int 30, 0, 0)),
  (5, (.if_icmp .ge 26, 3, .null, 0, 31)),
  (8, (.getstatic 10, 3, .ref 204, 0, 0)),
  (11, (.iload_n 1, 1, .null, 0, 0)),
  (12, (.bipush 6, 2, .int 6, 0, 0)),
  (14, (.imul, 1, .null, 0, 0)),
  (15, (.iaload, 1, .null, 0, 0)),
  (16, (.bipush 8, 2, .int 8, 0, 0)),
  (18, (.ishr, 1, .null, 0, 0)),
  (19, (.iload_n 0, 1, .null, 0, 0)),
  (20, (.if_icmp .ne 5, 3, .null, 0, 25)),
  (23, (.iconst 1, 1, .int 1, 0, 0)),
  (24, (.ireturn, 1, .null, 0, 0)),
  (25, (.iinc 1 1, 3, .int 1, 0, 0)),
  (28, (.goto (-26), 3, .null, 0, 2)),
  (31, (.iconst 0, 1, .int 0, 0, 0)),
  (32, (.ireturn, 1, .null, 0, 0))]
set_option maxRecDepth 100000 in
theorem ckC_hasIndex : ab_ckM mC_hasIndex kC_hasIndex = true := by decide +kernel
set_option maxRecDepth 100000 in
theorem wC_hasIndex : ab_MW mC_hasIndex 0 1 := ab_mw_ok (i1 := 67) (i2 := 387) (i3 := 0) (by decide +kernel) (ab_t2 (List.mem_of_getElem? (i := 89) rfl))
abbrev mC_bytes : ab_Mt := (⟨"BusServo$Catalog", "bytes", "(I)I"⟩, prog_2_method_4_code, 1, (some .int))
def kC_bytes : ab_Cd := [
  (0, (.getstatic 10, 3, .ref 204, 0, 0)),
  (3, (.iload_n 0, 1, .null, 0, 0)),
  (4, (.bipush 6, 2, .int 6, 0, 0)),
  (6, (.imul, 1, .null, 0, 0)),
  (7, (.iconst 1, 1, .int 1, 0, 0)),
  (8, (.iadd, 1, .null, 0, 0)),
  (9, (.iaload, 1, .null, 0, 0)),
  (10, (.ireturn, 1, .null, 0, 0))]
set_option maxRecDepth 100000 in
theorem ckC_bytes : ab_ckM mC_bytes kC_bytes = true := by decide +kernel
set_option maxRecDepth 100000 in
theorem wC_bytes : ab_MW mC_bytes 0 1 := ab_mw_ok (i1 := 67) (i2 := 337) (i3 := 0) (by decide +kernel) (ab_t2 (List.mem_of_getElem? (i := 39) rfl))
abbrev mC_kind : ab_Mt := (⟨"BusServo$Catalog", "kind", "(I)I"⟩, prog_2_method_5_code, 1, (some .int))
def kC_kind : ab_Cd := [
  (0, (.getstatic 10, 3, .ref 204, 0, 0)),
  (3, (.iload_n 0, 1, .null, 0, 0)),
  (4, (.bipush 6, 2, .int 6, 0, 0)),
  (6, (.imul, 1, .null, 0, 0)),
  (7, (.iconst 2, 1, .int 2, 0, 0)),
  (8, (.iadd, 1, .null, 0, 0)),
  (9, (.iaload, 1, .null, 0, 0)),
  (10, (.ireturn, 1, .null, 0, 0))]
set_option maxRecDepth 100000 in
theorem ckC_kind : ab_ckM mC_kind kC_kind = true := by decide +kernel
set_option maxRecDepth 100000 in
theorem wC_kind : ab_MW mC_kind 0 1 := ab_mw_ok (i1 := 67) (i2 := 401) (i3 := 0) (by decide +kernel) (ab_t2 (List.mem_of_getElem? (i := 103) rfl))
abbrev mC_start : ab_Mt := (⟨"BusServo$Catalog", "start", "(I)I"⟩, prog_2_method_6_code, 1, (some .int))
def kC_start : ab_Cd := [
  (0, (.getstatic 10, 3, .ref 204, 0, 0)),
  (3, (.iload_n 0, 1, .null, 0, 0)),
  (4, (.bipush 6, 2, .int 6, 0, 0)),
  (6, (.imul, 1, .null, 0, 0)),
  (7, (.iconst 3, 1, .int 3, 0, 0)),
  (8, (.iadd, 1, .null, 0, 0)),
  (9, (.iaload, 1, .null, 0, 0)),
  (10, (.ireturn, 1, .null, 0, 0))]
set_option maxRecDepth 100000 in
theorem ckC_start : ab_ckM mC_start kC_start = true := by decide +kernel
set_option maxRecDepth 100000 in
theorem wC_start : ab_MW mC_start 0 1 := ab_mw_ok (i1 := 67) (i2 := 202) (i3 := 0) (by decide +kernel) (ab_t1 (List.mem_of_getElem? (i := 144) rfl))
abbrev mC_least : ab_Mt := (⟨"BusServo$Catalog", "least", "(I)I"⟩, prog_2_method_7_code, 1, (some .int))
def kC_least : ab_Cd := [
  (0, (.getstatic 10, 3, .ref 204, 0, 0)),
  (3, (.iload_n 0, 1, .null, 0, 0)),
  (4, (.bipush 6, 2, .int 6, 0, 0)),
  (6, (.imul, 1, .null, 0, 0)),
  (7, (.iconst 4, 1, .int 4, 0, 0)),
  (8, (.iadd, 1, .null, 0, 0)),
  (9, (.iaload, 1, .null, 0, 0)),
  (10, (.ireturn, 1, .null, 0, 0))]
set_option maxRecDepth 100000 in
theorem ckC_least : ab_ckM mC_least kC_least = true := by decide +kernel
set_option maxRecDepth 100000 in
theorem wC_least : ab_MW mC_least 0 1 := ab_mw_ok (i1 := 67) (i2 := 369) (i3 := 0) (by decide +kernel) (ab_t2 (List.mem_of_getElem? (i := 71) rfl))
abbrev mC_greatest : ab_Mt := (⟨"BusServo$Catalog", "greatest", "(I)I"⟩, prog_2_method_8_code, 1, (some .int))
def kC_greatest : ab_Cd := [
  (0, (.getstatic 10, 3, .ref 204, 0, 0)),
  (3, (.iload_n 0, 1, .null, 0, 0)),
  (4, (.bipush 6, 2, .int 6, 0, 0)),
  (6, (.imul, 1, .null, 0, 0)),
  (7, (.iconst 5, 1, .int 5, 0, 0)),
  (8, (.iadd, 1, .null, 0, 0)),
  (9, (.iaload, 1, .null, 0, 0)),
  (10, (.ireturn, 1, .null, 0, 0))]
set_option maxRecDepth 100000 in
theorem ckC_greatest : ab_ckM mC_greatest kC_greatest = true := by decide +kernel
set_option maxRecDepth 100000 in
theorem wC_greatest : ab_MW mC_greatest 0 1 := ab_mw_ok (i1 := 67) (i2 := 365) (i3 := 0) (by decide +kernel) (ab_t2 (List.mem_of_getElem? (i := 67) rfl))
abbrev mC_kept : ab_Mt := (⟨"BusServo$Catalog", "kept", "(I)I"⟩, prog_2_method_9_code, 1, (some .int))
def kC_kept : ab_Cd := [
  (0, (.getstatic 14, 3, .ref 209, 0, 1)),
  (3, (.iload_n 0, 1, .null, 0, 0)),
  (4, (.iaload, 1, .null, 0, 0)),
  (5, (.ireturn, 1, .null, 0, 0))]
set_option maxRecDepth 100000 in
theorem ckC_kept : ab_ckM mC_kept kC_kept = true := by decide +kernel
set_option maxRecDepth 100000 in
theorem wC_kept : ab_MW mC_kept 0 1 := ab_mw_ok (i1 := 67) (i2 := 207) (i3 := 0) (by decide +kernel) (ab_t1 (List.mem_of_getElem? (i := 149) rfl))
abbrev mC_isCount : ab_Mt := (⟨"BusServo$Catalog", "isCount", "(I)Z"⟩, prog_2_method_10_code, 1, (some .boolean))
def kC_isCount : ab_Cd := [
  (0, (.iload_n 0, 1, .null, 0, 0)),
  (1, (.iconst 5, 1, .int 5, 0, 0)),
  (2, (.if_icmp .eq 9, 3, .null, 0, 11)),
  (5, (.iload_n 0, 1, .null, 0, 0)),
  (6, (.bipush 12, 2, .int 12, 0, 0)),
  (8, (.if_icmp .ne 7, 3, .null, 0, 15)),
  (11, (.iconst 1, 1, .int 1, 0, 0)),
  (12, (.goto 4, 3, .null, 0, 16)),
  (15, (.iconst 0, 1, .int 0, 0, 0)),
  (16, (.ireturn, 1, .null, 0, 0))]
set_option maxRecDepth 100000 in
theorem ckC_isCount : ab_ckM mC_isCount kC_isCount = true := by decide +kernel
set_option maxRecDepth 100000 in
theorem wC_isCount : ab_MW mC_isCount 0 1 := ab_mw_ok (i1 := 67) (i2 := 429) (i3 := 0) (by decide +kernel) (ab_t2 (List.mem_of_getElem? (i := 131) rfl))
abbrev mC_countOf : ab_Mt := (⟨"BusServo$Catalog", "countOf", "(I)I"⟩, prog_2_method_11_code, 1, (some .int))
def kC_countOf : ab_Cd := [
  (0, (.iload_n 0, 1, .null, 0, 0)),
  (1, (.bipush 12, 2, .int 12, 0, 0)),
  (3, (.if_icmp .ge 7, 3, .null, 0, 10)),
  (6, (.iconst 5, 1, .int 5, 0, 0)),
  (7, (.goto 5, 3, .null, 0, 12)),
  (10, (.bipush 12, 2, .int 12, 0, 0)),
  (12, (.ireturn, 1, .null, 0, 0))]
set_option maxRecDepth 100000 in
theorem ckC_countOf : ab_ckM mC_countOf kC_countOf = true := by decide +kernel
set_option maxRecDepth 100000 in
theorem wC_countOf : ab_MW mC_countOf 0 1 := ab_mw_ok (i1 := 67) (i2 := 432) (i3 := 0) (by decide +kernel) (ab_t2 (List.mem_of_getElem? (i := 134) rfl))
abbrev mN_bytesWritten : ab_Mt := (⟨"BusServo$Channel", "bytesWritten", "(I)I"⟩, prog_3_method_2_code, 1, (some .int))
def kN_bytesWritten : ab_Cd := [
  (0, (.iload_n 0, 1, .null, 0, 0)),
  (1, (.lookupswitch 51 #[(35, 49), (39, 47), (43, 45), (47, 43)], 43, .null, 0, 0)),
  (44, (.iconst 1, 1, .int 1, 0, 0)),
  (45, (.ireturn, 1, .null, 0, 0)),
  (46, (.iconst 2, 1, .int 2, 0, 0)),
  (47, (.ireturn, 1, .null, 0, 0)),
  (48, (.iconst 3, 1, .int 3, 0, 0)),
  (49, (.ireturn, 1, .null, 0, 0)),
  (50, (.iconst 4, 1, .int 4, 0, 0)),
  (51, (.ireturn, 1, .null, 0, 0)),
  (52, (.iconst 0, 1, .int 0, 0, 0)),
  (53, (.ireturn, 1, .null, 0, 0))]
set_option maxRecDepth 100000 in
theorem ckN_bytesWritten : ab_ckM mN_bytesWritten kN_bytesWritten = true := by decide +kernel
set_option maxRecDepth 100000 in
theorem wN_bytesWritten : ab_MW mN_bytesWritten 0 1 := ab_mw_ok (i1 := 71) (i2 := 383) (i3 := 0) (by decide +kernel) (ab_t2 (List.mem_of_getElem? (i := 85) rfl))
abbrev mN_readAnswer : ab_Mt := (⟨"BusServo$Channel", "readAnswer", "(I)I"⟩, prog_3_method_3_code, 1, (some .int))
def kN_readAnswer : ab_Cd := [
  (0, (.iload_n 0, 1, .null, 0, 0)),
  (1, (.iconst 1, 1, .int 1, 0, 0)),
  (2, (.if_icmp .ne 6, 3, .null, 0, 8)),
  (5, (.bipush 79, 2, .int 79, 0, 0)),
  (7, (.ireturn, 1, .null, 0, 0)),
  (8, (.iload_n 0, 1, .null, 0, 0)),
  (9, (.iconst 2, 1, .int 2, 0, 0)),
  (10, (.if_icmp .ne 8, 3, .null, 0, 18)),
  (13, (.bipush 75, 2, .int 75, 0, 0)),
  (15, (.goto 5, 3, .null, 0, 20)),
  (18, (.bipush 67, 2, .int 67, 0, 0)),
  (20, (.ireturn, 1, .null, 0, 0))]
set_option maxRecDepth 100000 in
theorem ckN_readAnswer : ab_ckM mN_readAnswer kN_readAnswer = true := by decide +kernel
set_option maxRecDepth 100000 in
theorem wN_readAnswer : ab_MW mN_readAnswer 0 1 := ab_mw_ok (i1 := 71) (i2 := 406) (i3 := 0) (by decide +kernel) (ab_t2 (List.mem_of_getElem? (i := 108) rfl))
abbrev mN_refusalOfAddress : ab_Mt := (⟨"BusServo$Channel", "refusalOfAddress", "(III)I"⟩, prog_3_method_4_code, 3, (some .int))
def kN_refusalOfAddress : ab_Cd := [
  (0, (.iload_n 0, 1, .null, 0, 0)),
  (1, (.bipush 64, 2, .int 64, 0, 0)),
  (3, (.if_icmp .eq 13, 3, .null, 0, 16)),
  (6, (.iload_n 0, 1, .null, 0, 0)),
  (7, (.invokestatic 9, 3, .ref 382, 0, 0)),
  (10, (.ifCond .ne 6, 3, .null, 0, 16)),
  (13, (.ldc 13, 2, .int 84148225, 0, 385)),
  (15, (.ireturn, 1, .null, 0, 0)),
  (16, (.iload_n 2, 1, .null, 0, 0)),
  (17, (.iconst (-1), 1, .int (-1), 0, 0)),
  (18, (.if_icmp .eq 5, 3, .null, 0, 23)),
  (21, (.iconst 0, 1, .int 0, 0, 0)),
  (22, (.ireturn, 1, .null, 0, 0)),
  (23, (.iload_n 1, 1, .null, 0, 0)),
  (24, (.invokestatic 16, 3, .ref 386, 0, 0)),
  (27, (.ifCond .eq 8, 3, .null, 0, 35)),
  (30, (.ldc 20, 2, .int 101253137, 0, 389)),
  (32, (.goto 5, 3, .null, 0, 37)),
  (35, (.ldc 21, 2, .int 100794368, 0, 390)),
  (37, (.ireturn, 1, .null, 0, 0))]
set_option maxRecDepth 100000 in
theorem ckN_refusalOfAddress : ab_ckM mN_refusalOfAddress kN_refusalOfAddress = true := by decide +kernel
set_option maxRecDepth 100000 in
theorem wN_refusalOfAddress : ab_MW mN_refusalOfAddress 0 3 := ab_mw_ok (i1 := 71) (i2 := 380) (i3 := 0) (by decide +kernel) (ab_t2 (List.mem_of_getElem? (i := 82) rfl))
abbrev mN_refusalOfValue : ab_Mt := (⟨"BusServo$Channel", "refusalOfValue", "(II)I"⟩, prog_3_method_5_code, 2, (some .int))
def kN_refusalOfValue : ab_Cd := [
  (0, (.iload_n 1, 1, .null, 0, 0)),
  (1, (.iload_n 0, 1, .null, 0, 0)),
  (2, (.invokestatic 22, 3, .ref 364, 0, 0)),
  (5, (.if_icmp .le 6, 3, .null, 0, 11)),
  (8, (.ldc 25, 2, .int 101253169, 0, 367)),
  (10, (.ireturn, 1, .null, 0, 0)),
  (11, (.iload_n 1, 1, .null, 0, 0)),
  (12, (.iload_n 0, 1, .null, 0, 0)),
  (13, (.invokestatic 26, 3, .ref 368, 0, 0)),
  (16, (.if_icmp .ge 6, 3, .null, 0, 22)),
  (19, (.ldc 29, 2, .int 101253170, 0, 371)),
  (21, (.ireturn, 1, .null, 0, 0)),
  (22, (.iload_n 0, 1, .null, 0, 0)),
  (23, (.bipush 18, 2, .int 18, 0, 0)),
  (25, (.if_icmp .ne 13, 3, .null, 0, 38)),
  (28, (.iload_n 1, 1, .null, 0, 0)),
  (29, (.iconst 2, 1, .int 2, 0, 0)),
  (30, (.if_icmp .ne 8, 3, .null, 0, 38)),
  (33, (.ldc 30, 2, .int 101253168, 0, 372)),
  (35, (.goto 4, 3, .null, 0, 39)),
  (38, (.iconst 0, 1, .int 0, 0, 0)),
  (39, (.ireturn, 1, .null, 0, 0))]
set_option maxRecDepth 100000 in
theorem ckN_refusalOfValue : ab_ckM mN_refusalOfValue kN_refusalOfValue = true := by decide +kernel
set_option maxRecDepth 100000 in
theorem wN_refusalOfValue : ab_MW mN_refusalOfValue 0 2 := ab_mw_ok (i1 := 71) (i2 := 362) (i3 := 0) (by decide +kernel) (ab_t2 (List.mem_of_getElem? (i := 64) rfl))
abbrev mB_init : ab_Mt := (⟨"BusServo$Mailbox", "<init>", "()V"⟩, prog_4_method_1_code, 1, none)
def kB_init : ab_Cd := [
  (0, (.aload_n 0, 1, .null, 0, 0)),
  (1, (.invokespecial 1, 3, .ref 85, 0, 0)),
  (4, (.aload_n 0, 1, .null, 0, 0)),
  (5, (.bipush 12, 2, .int 12, 0, 0)),
  (7, (.newarray .int, 2, .null, 0, 0)),
  (9, (.putfield 9, 3, .ref 86, 1, 0)),
  (12, (.aload_n 0, 1, .null, 0, 0)),
  (13, (.bipush 12, 2, .int 12, 0, 0)),
  (15, (.newarray .int, 2, .null, 0, 0)),
  (17, (.putfield 13, 3, .ref 87, 1, 1)),
  (20, (.aload_n 0, 1, .null, 0, 0)),
  (21, (.bipush 12, 2, .int 12, 0, 0)),
  (23, (.newarray .long, 2, .null, 0, 0)),
  (25, (.putfield 16, 3, .ref 88, 1, 2)),
  (28, (.return_, 1, .null, 0, 0))]
set_option maxRecDepth 100000 in
theorem ckB_init : ab_ckM mB_init kB_init = true := by decide +kernel
set_option maxRecDepth 100000 in
theorem wB_init : ab_MW mB_init 2 0 := ab_mw_ok (i1 := 61) (i2 := 83) (i3 := 0) (by decide +kernel) (ab_t1 (List.mem_of_getElem? (i := 25) rfl))
abbrev mB_isBusOn : ab_Mt := (⟨"BusServo$Mailbox", "isBusOn", "()Z"⟩, prog_4_method_2_code, 1, (some .boolean))
def kB_isBusOn : ab_Cd := [
  (0, (.aload_n 0, 1, .null, 0, 0)),
  (1, (.getfield 20, 3, .ref 91, 1, 5)),
  (4, (.ireturn, 1, .null, 0, 0))]
set_option maxRecDepth 100000 in
theorem ckB_isBusOn : ab_ckM mB_isBusOn kB_isBusOn = true := by decide +kernel
set_option maxRecDepth 100000 in
theorem wB_isBusOn : ab_MW mB_isBusOn 1 0 := ab_mw_ok (i1 := 61) (i2 := 275) (i3 := 276) (by decide +kernel) (ab_t1 (List.mem_of_getElem? (i := 218) rfl))
abbrev mB_setBus : ab_Mt := (⟨"BusServo$Mailbox", "setBus", "(Z)V"⟩, prog_4_method_3_code, 2, none)
def kB_setBus : ab_Cd := [
  (0, (.aload_n 0, 1, .null, 0, 0)),
  (1, (.iload_n 1, 1, .null, 0, 0)),
  (2, (.putfield 20, 3, .retAddr 91, 1, 5)),
  (5, (.return_, 1, .null, 0, 0))]
set_option maxRecDepth 100000 in
theorem ckB_setBus : ab_ckM mB_setBus kB_setBus = true := by decide +kernel
set_option maxRecDepth 100000 in
theorem wB_setBus : ab_MW mB_setBus 1 1 := ab_mw_ok (i1 := 61) (i2 := 228) (i3 := 229) (by decide +kernel) (ab_t1 (List.mem_of_getElem? (i := 171) rfl))
abbrev mB_clear : ab_Mt := (⟨"BusServo$Mailbox", "clear", "()V"⟩, prog_4_method_4_code, 1, none)
def kB_clear : ab_Cd := [
  (0, (.aload_n 0, 1, .null, 0, 0)),
  (1, (.iconst 0, 1, .int 0, 0, 0)),
  (2, (.putfield 24, 3, .ref 89, 1, 3)),
  (5, (.return_, 1, .null, 0, 0))]
set_option maxRecDepth 100000 in
theorem ckB_clear : ab_ckM mB_clear kB_clear = true := by decide +kernel
set_option maxRecDepth 100000 in
theorem wB_clear : ab_MW mB_clear 1 0 := ab_mw_ok (i1 := 61) (i2 := 232) (i3 := 233) (by decide +kernel) (ab_t1 (List.mem_of_getElem? (i := 175) rfl))
abbrev mB_size : ab_Mt := (⟨"BusServo$Mailbox", "size", "()I"⟩, prog_4_method_5_code, 1, (some .int))
def kB_size : ab_Cd := [
  (0, (.aload_n 0, 1, .null, 0, 0)),
  (1, (.getfield 24, 3, .ref 89, 1, 3)),
  (4, (.ireturn, 1, .null, 0, 0))]
set_option maxRecDepth 100000 in
theorem ckB_size : ab_ckM mB_size kB_size = true := by decide +kernel
set_option maxRecDepth 100000 in
theorem wB_size : ab_MW mB_size 1 0 := ab_mw_ok (i1 := 61) (i2 := 655) (i3 := 656) (by decide +kernel) (ab_t3 (List.mem_of_getElem? (i := 118) rfl))
abbrev mB_lostFrames : ab_Mt := (⟨"BusServo$Mailbox", "lostFrames", "()I"⟩, prog_4_method_6_code, 1, (some .int))
def kB_lostFrames : ab_Cd := [
  (0, (.aload_n 0, 1, .null, 0, 0)),
  (1, (.getfield 28, 3, .ref 90, 1, 4)),
  (4, (.ireturn, 1, .null, 0, 0))]
set_option maxRecDepth 100000 in
theorem ckB_lostFrames : ab_ckM mB_lostFrames kB_lostFrames = true := by decide +kernel
set_option maxRecDepth 100000 in
theorem wB_lostFrames : ab_MW mB_lostFrames 1 0 := ab_mw_ok (i1 := 61) (i2 := 663) (i3 := 664) (by decide +kernel) (ab_t3 (List.mem_of_getElem? (i := 126) rfl))
abbrev mB_send : ab_Mt := (⟨"BusServo$Mailbox", "send", "(IIJ)V"⟩, prog_4_method_7_code, 6, none)
def kB_send_0 : ab_Cd := [
  (0, (.aload_n 0, 1, .null, 0, 0)),
  (1, (.getfield 20, 3, .ref 91, 1, 5)),
  (4, (.ifCond .eq 12, 3, .null, 0, 16)),
  (7, (.aload_n 0, 1, .null, 0, 0)),
  (8, (.getfield 24, 3, .ref 89, 1, 3)),
  (11, (.bipush 12, 2, .int 12, 0, 0)),
  (13, (.if_icmp .lt 14, 3, .null, 0, 27)),
  (16, (.aload_n 0, 1, .null, 0, 0)),
  (17, (.dup, 1, .null, 0, 0)),
  (18, (.getfield 28, 3, .ref 90, 1, 4)),
  (21, (.iconst 1, 1, .int 1, 0, 0)),
  (22, (.iadd, 1, .null, 0, 0)),
  (23, (.putfield 28, 3, .ref 90, 1, 4)),
  (26, (.return_, 1, .null, 0, 0)),
  (27, (.aload_n 0, 1, .null, 0, 0)),
  (28, (.getfield 24, 3, .ref 89, 1, 3)),
  (31, (.istore 5, 2, .null, 0, 0)),
  (33, (.iload 5, 2, .null, 0, 0)),
  (35, (.ifCond .le 70, 3, .null, 0, 105)),
  (38, (.aload_n 0, 1, .null, 0, 0)),
  (39, (.getfield 9, 3, .ref 86, 1, 0)),
  (42, (.iload 5, 2, .null, 0, 0)),
  (44, (.iconst 1, 1, .int 1, 0, 0)),
  (45, (.isub, 1, .null, 0, 0)),
  (46, (.iaload, 1, .null, 0, 0)),
  (47, (.iload_n 1, 1, .null, 0, 0)),
  (48, (.if_icmp .le 57, 3, .null, 0, 105)),
  (51, (.aload_n 0, 1, .null, 0, 0)),
  (52, (.getfield 9, 3, .ref 86, 1, 0)),
  (55, (.iload 5, 2, .null, 0, 0)),
  (57, (.aload_n 0, 1, .null, 0, 0)),
  (58, (.getfield 9, 3, .ref 86, 1, 0)),
  (61, (.iload 5, 2, .null, 0, 0)),
  (63, (.iconst 1, 1, .int 1, 0, 0)),
  (64, (.isub, 1, .null, 0, 0)),
  (65, (.iaload, 1, .null, 0, 0)),
  (66, (.iastore, 1, .null, 0, 0)),
  (67, (.aload_n 0, 1, .null, 0, 0)),
  (68, (.getfield 13, 3, .ref 87, 1, 1)),
  (71, (.iload 5, 2, .null, 0, 0)),
  (73, (.aload_n 0, 1, .null, 0, 0)),
  (74, (.getfield 13, 3, .ref 87, 1, 1)),
  (77, (.iload 5, 2, .null, 0, 0)),
  (79, (.iconst 1, 1, .int 1, 0, 0)),
  (80, (.isub, 1, .null, 0, 0)),
  (81, (.iaload, 1, .null, 0, 0)),
  (82, (.iastore, 1, .null, 0, 0)),
  (83, (.aload_n 0, 1, .null, 0, 0)),
  (84, (.getfield 16, 3, .ref 88, 1, 2)),
  (87, (.iload 5, 2, .null, 0, 0)),
  (89, (.aload_n 0, 1, .null, 0, 0)),
  (90, (.getfield 16, 3, .ref 88, 1, 2)),
  (93, (.iload 5, 2, .null, 0, 0)),
  (95, (.iconst 1, 1, .int 1, 0, 0)),
  (96, (.isub, 1, .null, 0, 0)),
  (97, (.laload, 1, .null, 0, 0)),
  (98, (.lastore, 1, .null, 0, 0)),
  (99, (.iinc 5 (-1), 3, .int (-1), 0, 0)),
  (102, (.goto (-69), 3, .null, 0, 33)),
  (105, (.aload_n 0, 1, .null, 0, 0)),
  (106, (.getfield 9, 3, .ref 86, 1, 0)),
  (109, (.iload 5, 2, .null, 0, 0)),
  (111, (.iload_n 1, 1, .null, 0, 0)),
  (112, (.iastore, 1, .null, 0, 0))]
set_option maxRecDepth 100000 in
theorem ckB_send_0 : ab_ckM mB_send kB_send_0 = true := by decide +kernel
def kB_send_1 : ab_Cd := [
  (113, (.aload_n 0, 1, .null, 0, 0)),
  (114, (.getfield 13, 3, .ref 87, 1, 1)),
  (117, (.iload 5, 2, .null, 0, 0)),
  (119, (.iload_n 2, 1, .null, 0, 0)),
  (120, (.iastore, 1, .null, 0, 0)),
  (121, (.aload_n 0, 1, .null, 0, 0)),
  (122, (.getfield 16, 3, .ref 88, 1, 2)),
  (125, (.iload 5, 2, .null, 0, 0)),
  (127, (.lload_n 3, 1, .null, 0, 0)),
  (128, (.lastore, 1, .null, 0, 0)),
  (129, (.aload_n 0, 1, .null, 0, 0)),
  (130, (.dup, 1, .null, 0, 0)),
  (131, (.getfield 24, 3, .ref 89, 1, 3)),
  (134, (.iconst 1, 1, .int 1, 0, 0)),
  (135, (.iadd, 1, .null, 0, 0)),
  (136, (.putfield 24, 3, .ref 89, 1, 3)),
  (139, (.return_, 1, .null, 0, 0))]
set_option maxRecDepth 100000 in
theorem ckB_send_1 : ab_ckM mB_send kB_send_1 = true := by decide +kernel
def kB_send : ab_Cd := kB_send_0 ++ (kB_send_1)
theorem ckB_send : ab_ckM mB_send kB_send = true := ab_ck_app ckB_send_0 (ckB_send_1)
set_option maxRecDepth 100000 in
theorem wB_send : ab_MW mB_send 1 3 := ab_mw_ok (i1 := 61) (i2 := 236) (i3 := 237) (by decide +kernel) (ab_t1 (List.mem_of_getElem? (i := 179) rfl))
abbrev mB_firstIdentifier : ab_Mt := (⟨"BusServo$Mailbox", "firstIdentifier", "()I"⟩, prog_4_method_8_code, 1, (some .int))
def kB_firstIdentifier : ab_Cd := [
  (0, (.aload_n 0, 1, .null, 0, 0)),
  (1, (.getfield 24, 3, .ref 89, 1, 3)),
  (4, (.ifCond .ne 7, 3, .null, 0, 11)),
  (7, (.iconst (-1), 1, .int (-1), 0, 0)),
  (8, (.goto 9, 3, .null, 0, 17)),
  (11, (.aload_n 0, 1, .null, 0, 0)),
  (12, (.getfield 9, 3, .ref 86, 1, 0)),
  (15, (.iconst 0, 1, .int 0, 0, 0)),
  (16, (.iaload, 1, .null, 1, 0)),
  (17, (.ireturn, 1, .null, 0, 0))]
set_option maxRecDepth 100000 in
theorem ckB_firstIdentifier : ab_ckM mB_firstIdentifier kB_firstIdentifier = true := by decide +kernel
set_option maxRecDepth 100000 in
theorem wB_firstIdentifier : ab_MW mB_firstIdentifier 1 0 := ab_mw_ok (i1 := 61) (i2 := 623) (i3 := 624) (by decide +kernel) (ab_t3 (List.mem_of_getElem? (i := 86) rfl))
abbrev mB_firstLength : ab_Mt := (⟨"BusServo$Mailbox", "firstLength", "()I"⟩, prog_4_method_9_code, 1, (some .int))
def kB_firstLength : ab_Cd := [
  (0, (.aload_n 0, 1, .null, 0, 0)),
  (1, (.getfield 24, 3, .ref 89, 1, 3)),
  (4, (.ifCond .ne 7, 3, .null, 0, 11)),
  (7, (.iconst (-1), 1, .int (-1), 0, 0)),
  (8, (.goto 9, 3, .null, 0, 17)),
  (11, (.aload_n 0, 1, .null, 0, 0)),
  (12, (.getfield 13, 3, .ref 87, 1, 1)),
  (15, (.iconst 0, 1, .int 0, 0, 0)),
  (16, (.iaload, 1, .null, 1, 0)),
  (17, (.ireturn, 1, .null, 0, 0))]
set_option maxRecDepth 100000 in
theorem ckB_firstLength : ab_ckM mB_firstLength kB_firstLength = true := by decide +kernel
set_option maxRecDepth 100000 in
theorem wB_firstLength : ab_MW mB_firstLength 1 0 := ab_mw_ok (i1 := 61) (i2 := 631) (i3 := 632) (by decide +kernel) (ab_t3 (List.mem_of_getElem? (i := 94) rfl))
abbrev mB_firstData : ab_Mt := (⟨"BusServo$Mailbox", "firstData", "()J"⟩, prog_4_method_10_code, 1, (some .long))
def kB_firstData : ab_Cd := [
  (0, (.aload_n 0, 1, .null, 0, 0)),
  (1, (.getfield 24, 3, .ref 89, 1, 3)),
  (4, (.ifCond .ne 7, 3, .null, 0, 11)),
  (7, (.lconst 0, 1, .long 0, 0, 0)),
  (8, (.goto 9, 3, .null, 0, 17)),
  (11, (.aload_n 0, 1, .null, 0, 0)),
  (12, (.getfield 16, 3, .ref 88, 1, 2)),
  (15, (.iconst 0, 1, .int 0, 0, 0)),
  (16, (.laload, 1, .null, 0, 0)),
  (17, (.lreturn, 1, .null, 0, 0))]
set_option maxRecDepth 100000 in
theorem ckB_firstData : ab_ckM mB_firstData kB_firstData = true := by decide +kernel
set_option maxRecDepth 100000 in
theorem wB_firstData : ab_MW mB_firstData 1 0 := ab_mw_ok (i1 := 61) (i2 := 639) (i3 := 640) (by decide +kernel) (ab_t3 (List.mem_of_getElem? (i := 102) rfl))
abbrev mB_dropFirst : ab_Mt := (⟨"BusServo$Mailbox", "dropFirst", "()Z"⟩, prog_4_method_11_code, 2, (some .boolean))
def kB_dropFirst : ab_Cd := [
  (0, (.aload_n 0, 1, .null, 0, 0)),
  (1, (.getfield 24, 3, .ref 89, 1, 3)),
  (4, (.ifCond .ne 5, 3, .null, 0, 9)),
  (7, (.iconst 0, 1, .int 0, 0, 0)),
  (8, (.ireturn, 1, .null, 0, 0)),
  (9, (.aload_n 0, 1, .null, 0, 0)),
  (10, (.dup, 1, .null, 0, 0)),
  (11, (.getfield 24, 3, .ref 89, 1, 3)),
  (14, (.iconst 1, 1, .int 1, 0, 0)),
  (15, (.isub, 1, .null, 0, 0)),
  (16, (.putfield 24, 3, .ref 89, 1, 3)),
  (19, (.iconst 0, 1, .int 0, 0, 0)),
  (20, (.istore_n 1, 1, .null, 0, 0)),
  (21, (.iload_n 1, 1, .null, 0, 0)),
  (22, (.aload_n 0, 1, .null, 0, 0)),
  (23, (.getfield 24, 3, .ref 89, 1, 3)),
  (26, (.if_icmp .ge 51, 3, .null, 0, 77)),
  (29, (.aload_n 0, 1, .null, 0, 0)),
  (30, (.getfield 9, 3, .ref 86, 1, 0)),
  (33, (.iload_n 1, 1, .null, 0, 0)),
  (34, (.aload_n 0, 1, .null, 0, 0)),
  (35, (.getfield 9, 3, .ref 86, 1, 0)),
  (38, (.iload_n 1, 1, .null, 0, 0)),
  (39, (.iconst 1, 1, .int 1, 0, 0)),
  (40, (.iadd, 1, .null, 0, 0)),
  (41, (.iaload, 1, .null, 0, 0)),
  (42, (.iastore, 1, .null, 0, 0)),
  (43, (.aload_n 0, 1, .null, 0, 0)),
  (44, (.getfield 13, 3, .ref 87, 1, 1)),
  (47, (.iload_n 1, 1, .null, 0, 0)),
  (48, (.aload_n 0, 1, .null, 0, 0)),
  (49, (.getfield 13, 3, .ref 87, 1, 1)),
  (52, (.iload_n 1, 1, .null, 0, 0)),
  (53, (.iconst 1, 1, .int 1, 0, 0)),
  (54, (.iadd, 1, .null, 0, 0)),
  (55, (.iaload, 1, .null, 0, 0)),
  (56, (.iastore, 1, .null, 0, 0)),
  (57, (.aload_n 0, 1, .null, 0, 0)),
  (58, (.getfield 16, 3, .ref 88, 1, 2)),
  (61, (.iload_n 1, 1, .null, 0, 0)),
  (62, (.aload_n 0, 1, .null, 0, 0)),
  (63, (.getfield 16, 3, .ref 88, 1, 2)),
  (66, (.iload_n 1, 1, .null, 0, 0)),
  (67, (.iconst 1, 1, .int 1, 0, 0)),
  (68, (.iadd, 1, .null, 0, 0)),
  (69, (.laload, 1, .null, 0, 0)),
  (70, (.lastore, 1, .null, 0, 0)),
  (71, (.iinc 1 1, 3, .int 1, 0, 0)),
  (74, (.goto (-53), 3, .null, 0, 21)),
  (77, (.iconst 1, 1, .int 1, 0, 0)),
  (78, (.ireturn, 1, .null, 0, 0))]
set_option maxRecDepth 100000 in
theorem ckB_dropFirst : ab_ckM mB_dropFirst kB_dropFirst = true := by decide +kernel
set_option maxRecDepth 100000 in
theorem wB_dropFirst : ab_MW mB_dropFirst 1 0 := ab_mw_ok (i1 := 61) (i2 := 647) (i3 := 648) (by decide +kernel) (ab_t3 (List.mem_of_getElem? (i := 110) rfl))
abbrev mG_number : ab_Mt := (⟨"BusServo$Mapping", "number", "(JI)I"⟩, prog_5_method_2_code, 3, (some .int))
def kG_number : ab_Cd := [
  (0, (.iload_n 2, 1, .null, 0, 0)),
  (1, (.iconst 4, 1, .int 4, 0, 0)),
  (2, (.if_icmp .lt 8, 3, .null, 0, 10)),
  (5, (.lload_n 0, 1, .null, 0, 0)),
  (6, (.l2i, 1, .null, 0, 0)),
  (7, (.goto 14, 3, .null, 0, 21)),
  (10, (.lload_n 0, 1, .null, 0, 0)),
  (11, (.l2i, 1, .null, 0, 0)),
  (12, (.iconst 1, 1, .int 1, 0, 0)),
  (13, (.bipush 8, 2, .int 8, 0, 0)),
  (15, (.iload_n 2, 1, .null, 0, 0)),
  (16, (.imul, 1, .null, 0, 0)),
  (17, (.ishl, 1, .null, 0, 0)),
  (18, (.iconst 1, 1, .int 1, 0, 0)),
  (19, (.isub, 1, .null, 0, 0)),
  (20, (.iand, 1, .null, 0, 0)),
  (21, (.ireturn, 1, .null, 0, 0))]
set_option maxRecDepth 100000 in
theorem ckG_number : ab_ckM mG_number kG_number = true := by decide +kernel
set_option maxRecDepth 100000 in
theorem wG_number : ab_MW mG_number 0 2 := ab_mw_ok (i1 := 70) (i2 := 359) (i3 := 0) (by decide +kernel) (ab_t2 (List.mem_of_getElem? (i := 61) rfl))
abbrev mG_refusalOfCount : ab_Mt := (⟨"BusServo$Mapping", "refusalOfCount", "([III)I"⟩, prog_5_method_3_code, 7, (some .int))
def kG_refusalOfCount : ab_Cd := [
  (0, (.iconst 0, 1, .int 0, 0, 0)),
  (1, (.istore_n 3, 1, .null, 0, 0)),
  (2, (.iconst 1, 1, .int 1, 0, 0)),
  (3, (.istore 4, 2, .null, 0, 0)),
  (5, (.iload 4, 2, .null, 0, 0)),
  (7, (.iload_n 2, 1, .null, 0, 0)),
  (8, (.if_icmp .gt 59, 3, .null, 0, 67)),
  (11, (.aload_n 0, 1, .null, 0, 0)),
  (12, (.iload_n 1, 1, .null, 0, 0)),
  (13, (.iload 4, 2, .null, 0, 0)),
  (15, (.iadd, 1, .null, 0, 0)),
  (16, (.iaload, 1, .null, 0, 0)),
  (17, (.istore 5, 2, .null, 0, 0)),
  (19, (.iload 5, 2, .null, 0, 0)),
  (21, (.invokestatic 7, 3, .ref 329, 0, 0)),
  (24, (.istore 6, 2, .null, 0, 0)),
  (26, (.iload 6, 2, .null, 0, 0)),
  (28, (.iconst (-1), 1, .int (-1), 0, 0)),
  (29, (.if_icmp .eq 12, 3, .null, 0, 41)),
  (32, (.iload 6, 2, .null, 0, 0)),
  (34, (.iload_n 1, 1, .null, 0, 0)),
  (35, (.invokestatic 15, 3, .ref 450, 0, 0)),
  (38, (.ifCond .ne 6, 3, .null, 0, 44)),
  (41, (.ldc 21, 2, .int 100925505, 0, 454)),
  (43, (.ireturn, 1, .null, 0, 0)),
  (44, (.iload_n 3, 1, .null, 0, 0)),
  (45, (.iload 6, 2, .null, 0, 0)),
  (47, (.invokestatic 22, 3, .ref 336, 0, 0)),
  (50, (.iadd, 1, .null, 0, 0)),
  (51, (.istore_n 3, 1, .null, 0, 0)),
  (52, (.iload_n 3, 1, .null, 0, 0)),
  (53, (.bipush 8, 2, .int 8, 0, 0)),
  (55, (.if_icmp .le 6, 3, .null, 0, 61)),
  (58, (.ldc 25, 2, .int 100925506, 0, 455)),
  (60, (.ireturn, 1, .null, 0, 0)),
  (61, (.iinc 4 1, 3, .int 1, 0, 0)),
  (64, (.goto (-59), 3, .null, 0, 5)),
  (67, (.iconst 0, 1, .int 0, 0, 0)),
  (68, (.ireturn, 1, .null, 0, 0))]
set_option maxRecDepth 100000 in
theorem ckG_refusalOfCount : ab_ckM mG_refusalOfCount kG_refusalOfCount = true := by decide +kernel
set_option maxRecDepth 100000 in
theorem wG_refusalOfCount : ab_MW mG_refusalOfCount 0 3 := ab_mw_ok (i1 := 70) (i2 := 448) (i3 := 0) (by decide +kernel) (ab_t2 (List.mem_of_getElem? (i := 150) rfl))
abbrev mG_slotOf : ab_Mt := (⟨"BusServo$Mapping", "slotOf", "(I)I"⟩, prog_5_method_4_code, 3, (some .int))
def kG_slotOf : ab_Cd := [
  (0, (.iload_n 0, 1, .null, 0, 0)),
  (1, (.bipush 16, 2, .int 16, 0, 0)),
  (3, (.iushr, 1, .null, 0, 0)),
  (4, (.istore_n 1, 1, .null, 0, 0)),
  (5, (.iload_n 1, 1, .null, 0, 0)),
  (6, (.iload_n 0, 1, .null, 0, 0)),
  (7, (.bipush 8, 2, .int 8, 0, 0)),
  (9, (.iushr, 1, .null, 0, 0)),
  (10, (.sipush 255, 3, .int 255, 0, 0)),
  (13, (.iand, 1, .null, 0, 0)),
  (14, (.invokestatic 26, 3, .ref 332, 0, 0)),
  (17, (.istore_n 2, 1, .null, 0, 0)),
  (18, (.iload_n 2, 1, .null, 0, 0)),
  (19, (.iconst (-1), 1, .int (-1), 0, 0)),
  (20, (.if_icmp .eq 25, 3, .null, 0, 45)),
  (23, (.iload_n 1, 1, .null, 0, 0)),
  (24, (.sipush 24576, 3, .int 24576, 0, 0)),
  (27, (.if_icmp .lt 18, 3, .null, 0, 45)),
  (30, (.iload_n 0, 1, .null, 0, 0)),
  (31, (.sipush 255, 3, .int 255, 0, 0)),
  (34, (.iand, 1, .null, 0, 0)),
  (35, (.bipush 8, 2, .int 8, 0, 0)),
  (37, (.iload_n 2, 1, .null, 0, 0)),
  (38, (.invokestatic 22, 3, .ref 336, 0, 0)),
  (41, (.imul, 1, .null, 0, 0)),
  (42, (.if_icmp .eq 5, 3, .null, 0, 47)),
  (45, (.iconst (-1), 1, .int (-1), 0, 0)),
  (46, (.ireturn, 1, .null, 0, 0)),
  (47, (.iload_n 2, 1, .null, 0, 0)),
  (48, (.ireturn, 1, .null, 0, 0))]
set_option maxRecDepth 100000 in
theorem ckG_slotOf : ab_ckM mG_slotOf kG_slotOf = true := by decide +kernel
set_option maxRecDepth 100000 in
theorem wG_slotOf : ab_MW mG_slotOf 0 1 := ab_mw_ok (i1 := 70) (i2 := 330) (i3 := 0) (by decide +kernel) (ab_t2 (List.mem_of_getElem? (i := 32) rfl))
abbrev mG_isMappable : ab_Mt := (⟨"BusServo$Mapping", "isMappable", "(II)Z"⟩, prog_5_method_5_code, 3, (some .boolean))
def kG_isMappable : ab_Cd := [
  (0, (.iload_n 0, 1, .null, 0, 0)),
  (1, (.invokestatic 30, 3, .ref 453, 0, 0)),
  (4, (.istore_n 2, 1, .null, 0, 0)),
  (5, (.iload_n 1, 1, .null, 0, 0)),
  (6, (.iconst 5, 1, .int 5, 0, 0)),
  (7, (.if_icmp .ne 14, 3, .null, 0, 21)),
  (10, (.iload_n 2, 1, .null, 0, 0)),
  (11, (.iconst 2, 1, .int 2, 0, 0)),
  (12, (.if_icmp .ne 7, 3, .null, 0, 19)),
  (15, (.iconst 1, 1, .int 1, 0, 0)),
  (16, (.goto 4, 3, .null, 0, 20)),
  (19, (.iconst 0, 1, .int 0, 0, 0)),
  (20, (.ireturn, 1, .null, 0, 0)),
  (21, (.iload_n 2, 1, .null, 0, 0)),
  (22, (.ifCond .eq 13, 3, .null, 0, 35)),
  (25, (.iload_n 2, 1, .null, 0, 0)),
  (26, (.iconst 2, 1, .int 2, 0, 0)),
  (27, (.if_icmp .eq 8, 3, .null, 0, 35)),
  (30, (.iload_n 2, 1, .null, 0, 0)),
  (31, (.iconst 3, 1, .int 3, 0, 0)),
  (32, (.if_icmp .ne 7, 3, .null, 0, 39)),
  (35, (.iconst 1, 1, .int 1, 0, 0)),
  (36, (.goto 4, 3, .null, 0, 40)),
  (39, (.iconst 0, 1, .int 0, 0, 0)),
  (40, (.ireturn, 1, .null, 0, 0))]
set_option maxRecDepth 100000 in
theorem ckG_isMappable : ab_ckM mG_isMappable kG_isMappable = true := by decide +kernel
set_option maxRecDepth 100000 in
theorem wG_isMappable : ab_MW mG_isMappable 0 2 := ab_mw_ok (i1 := 70) (i2 := 451) (i3 := 0) (by decide +kernel) (ab_t2 (List.mem_of_getElem? (i := 153) rfl))
abbrev mG_totalBytes : ab_Mt := (⟨"BusServo$Mapping", "totalBytes", "([II)I"⟩, prog_5_method_6_code, 5, (some .int))
def kG_totalBytes : ab_Cd := [
  (0, (.iconst 0, 1, .int 0, 0, 0)),
  (1, (.istore_n 2, 1, .null, 0, 0)),
  (2, (.aload_n 0, 1, .null, 0, 0)),
  (3, (.iload_n 1, 1, .null, 0, 0)),
  (4, (.iaload, 1, .null, 0, 0)),
  (5, (.istore_n 3, 1, .null, 0, 0)),
  (6, (.iconst 1, 1, .int 1, 0, 0)),
  (7, (.istore 4, 2, .null, 0, 0)),
  (9, (.iload 4, 2, .null, 0, 0)),
  (11, (.iload_n 3, 1, .null, 0, 0)),
  (12, (.if_icmp .gt 25, 3, .null, 0, 37)),
  (15, (.iload_n 2, 1, .null, 0, 0)),
  (16, (.aload_n 0, 1, .null, 0, 0)),
  (17, (.iload_n 1, 1, .null, 0, 0)),
  (18, (.iload 4, 2, .null, 0, 0)),
  (20, (.iadd, 1, .null, 0, 0)),
  (21, (.iaload, 1, .null, 0, 0)),
  (22, (.sipush 255, 3, .int 255, 0, 0)),
  (25, (.iand, 1, .null, 0, 0)),
  (26, (.bipush 8, 2, .int 8, 0, 0)),
  (28, (.idiv, 1, .null, 1, 0)),
  (29, (.iadd, 1, .null, 0, 0)),
  (30, (.istore_n 2, 1, .null, 0, 0)),
  (31, (.iinc 4 1, 3, .int 1, 0, 0)),
  (34, (.goto (-25), 3, .null, 0, 9)),
  (37, (.iload_n 2, 1, .null, 0, 0)),
  (38, (.ireturn, 1, .null, 0, 0))]
set_option maxRecDepth 100000 in
theorem ckG_totalBytes : ab_ckM mG_totalBytes kG_totalBytes = true := by decide +kernel
set_option maxRecDepth 100000 in
theorem wG_totalBytes : ab_MW mG_totalBytes 0 2 := ab_mw_ok (i1 := 70) (i2 := 341) (i3 := 0) (by decide +kernel) (ab_t2 (List.mem_of_getElem? (i := 43) rfl))
abbrev mG_pack : ab_Mt := (⟨"BusServo$Mapping", "pack", "([I)J"⟩, prog_5_method_7_code, 7, (some .long))
def kG_pack : ab_Cd := [
  (0, (.lconst 0, 1, .long 0, 0, 0)),
  (1, (.lstore_n 1, 1, .null, 0, 0)),
  (2, (.iconst 0, 1, .int 0, 0, 0)),
  (3, (.istore_n 3, 1, .null, 0, 0)),
  (4, (.aload_n 0, 1, .null, 0, 0)),
  (5, (.bipush 12, 2, .int 12, 0, 0)),
  (7, (.iaload, 1, .null, 1, 0)),
  (8, (.istore 4, 2, .null, 0, 0)),
  (10, (.iconst 1, 1, .int 1, 0, 0)),
  (11, (.istore 5, 2, .null, 0, 0)),
  (13, (.iload 5, 2, .null, 0, 0)),
  (15, (.iload 4, 2, .null, 0, 0)),
  (17, (.if_icmp .gt 52, 3, .null, 0, 69)),
  (20, (.aload_n 0, 1, .null, 0, 0)),
  (21, (.bipush 12, 2, .int 12, 0, 0)),
  (23, (.iload 5, 2, .null, 0, 0)),
  (25, (.iadd, 1, .null, 0, 0)),
  (26, (.iaload, 1, .null, 0, 0)),
  (27, (.invokestatic 7, 3, .ref 329, 0, 0)),
  (30, (.istore 6, 2, .null, 0, 0)),
  (32, (.iload 6, 2, .null, 0, 0)),
  (34, (.iconst (-1), 1, .int (-1), 0, 0)),
  (35, (.if_icmp .eq 28, 3, .null, 0, 63)),
  (38, (.lload_n 1, 1, .null, 0, 0)),
  (39, (.aload_n 0, 1, .null, 0, 0)),
  (40, (.iload 6, 2, .null, 0, 0)),
  (42, (.iaload, 1, .null, 0, 0)),
  (43, (.i2l, 1, .null, 0, 0)),
  (44, (.ldc2_w 33, 3, .long 4294967295, 0, 339)),
  (47, (.land, 1, .null, 0, 0)),
  (48, (.iload_n 3, 1, .null, 0, 0)),
  (49, (.lshl, 1, .null, 0, 0)),
  (50, (.lor, 1, .null, 0, 0)),
  (51, (.lstore_n 1, 1, .null, 0, 0)),
  (52, (.iload_n 3, 1, .null, 0, 0)),
  (53, (.bipush 8, 2, .int 8, 0, 0)),
  (55, (.iload 6, 2, .null, 0, 0)),
  (57, (.invokestatic 22, 3, .ref 336, 0, 0)),
  (60, (.imul, 1, .null, 0, 0)),
  (61, (.iadd, 1, .null, 0, 0)),
  (62, (.istore_n 3, 1, .null, 0, 0)),
  (63, (.iinc 5 1, 3, .int 1, 0, 0)),
  (66, (.goto (-53), 3, .null, 0, 13)),
  (69, (.lload_n 1, 1, .null, 0, 0)),
  (70, (.lreturn, 1, .null, 0, 0))]
set_option maxRecDepth 100000 in
theorem ckG_pack : ab_ckM mG_pack kG_pack = true := by decide +kernel
set_option maxRecDepth 100000 in
theorem wG_pack : ab_MW mG_pack 0 1 := ab_mw_ok (i1 := 70) (i2 := 327) (i3 := 0) (by decide +kernel) (ab_t2 (List.mem_of_getElem? (i := 29) rfl))
abbrev mG_unpack : ab_Mt := (⟨"BusServo$Mapping", "unpack", "([IJ)V"⟩, prog_5_method_8_code, 9, none)
def kG_unpack : ab_Cd := [
  (0, (.lload_n 1, 1, .null, 0, 0)),
  (1, (.lstore_n 3, 1, .null, 0, 0)),
  (2, (.aload_n 0, 1, .null, 0, 0)),
  (3, (.iconst 5, 1, .int 5, 0, 0)),
  (4, (.iaload, 1, .null, 1, 0)),
  (5, (.istore 5, 2, .null, 0, 0)),
  (7, (.iconst 1, 1, .int 1, 0, 0)),
  (8, (.istore 6, 2, .null, 0, 0)),
  (10, (.iload 6, 2, .null, 0, 0)),
  (12, (.iload 5, 2, .null, 0, 0)),
  (14, (.if_icmp .gt 64, 3, .null, 0, 78)),
  (17, (.aload_n 0, 1, .null, 0, 0)),
  (18, (.iconst 5, 1, .int 5, 0, 0)),
  (19, (.iload 6, 2, .null, 0, 0)),
  (21, (.iadd, 1, .null, 0, 0)),
  (22, (.iaload, 1, .null, 0, 0)),
  (23, (.invokestatic 7, 3, .ref 329, 0, 0)),
  (26, (.istore 7, 2, .null, 0, 0)),
  (28, (.iload 7, 2, .null, 0, 0)),
  (30, (.iconst (-1), 1, .int (-1), 0, 0)),
  (31, (.if_icmp .eq 41, 3, .null, 0, 72)),
  (34, (.lload_n 3, 1, .null, 0, 0)),
  (35, (.iload 7, 2, .null, 0, 0)),
  (37, (.invokestatic 22, 3, .ref 336, 0, 0)),
  (40, (.invokestatic 35, 3, .ref 358, 0, 0)),
  (43, (.istore 8, 2, .null, 0, 0)),
  (45, (.iload 7, 2, .null, 0, 0)),
  (47, (.iload 8, 2, .null, 0, 0)),
  (49, (.invokestatic 39, 3, .ref 361, 0, 0)),
  (52, (.ifCond .ne 9, 3, .null, 0, 61)),
  (55, (.aload_n 0, 1, .null, 0, 0)),
  (56, (.iload 7, 2, .null, 0, 0)),
  (58, (.iload 8, 2, .null, 0, 0)),
  (60, (.iastore, 1, .null, 0, 0)),
  (61, (.lload_n 3, 1, .null, 0, 0)),
  (62, (.bipush 8, 2, .int 8, 0, 0)),
  (64, (.iload 7, 2, .null, 0, 0)),
  (66, (.invokestatic 22, 3, .ref 336, 0, 0)),
  (69, (.imul, 1, .null, 0, 0)),
  (70, (.lushr, 1, .null, 0, 0)),
  (71, (.lstore_n 3, 1, .null, 0, 0)),
  (72, (.iinc 6 1, 3, .int 1, 0, 0)),
  (75, (.goto (-65), 3, .null, 0, 10)),
  (78, (.return_, 1, .null, 0, 0))]
set_option maxRecDepth 100000 in
theorem ckG_unpack : ab_ckM mG_unpack kG_unpack = true := by decide +kernel
set_option maxRecDepth 100000 in
theorem wG_unpack : ab_MW mG_unpack 0 2 := ab_mw_ok (i1 := 70) (i2 := 356) (i3 := 0) (by decide +kernel) (ab_t2 (List.mem_of_getElem? (i := 58) rfl))
abbrev mV_init : ab_Mt := (⟨"BusServo$Motion", "<init>", "([I)V"⟩, prog_6_method_1_code, 2, none)
def kV_init : ab_Cd := [
  (0, (.aload_n 0, 1, .null, 0, 0)),
  (1, (.invokespecial 1, 3, .ref 146, 0, 0)),
  (4, (.aload_n 0, 1, .null, 0, 0)),
  (5, (.aload_n 1, 1, .null, 0, 0)),
  (6, (.putfield 7, 3, .ref 147, 4, 0)),
  (9, (.return_, 1, .null, 0, 0))]
set_option maxRecDepth 100000 in
theorem ckV_init : ab_ckM mV_init kV_init = true := by decide +kernel
set_option maxRecDepth 100000 in
theorem wV_init : ab_MW mV_init 2 1 := ab_mw_ok (i1 := 64) (i2 := 144) (i3 := 0) (by decide +kernel) (ab_t1 (List.mem_of_getElem? (i := 86) rfl))
abbrev mV_demanded : ab_Mt := (⟨"BusServo$Motion", "demanded", "()I"⟩, prog_6_method_2_code, 1, (some .int))
def kV_demanded : ab_Cd := [
  (0, (.aload_n 0, 1, .null, 0, 0)),
  (1, (.getfield 13, 3, .ref 148, 4, 1)),
  (4, (.ireturn, 1, .null, 0, 0))]
set_option maxRecDepth 100000 in
theorem ckV_demanded : ab_ckM mV_demanded kV_demanded = true := by decide +kernel
set_option maxRecDepth 100000 in
theorem wV_demanded : ab_MW mV_demanded 1 0 := ab_mw_ok (i1 := 64) (i2 := 523) (i3 := 524) (by decide +kernel) (ab_t2 (List.mem_of_getElem? (i := 226) rfl))
abbrev mV_isArrived : ab_Mt := (⟨"BusServo$Motion", "isArrived", "()Z"⟩, prog_6_method_3_code, 1, (some .boolean))
def kV_isArrived : ab_Cd := [
  (0, (.aload_n 0, 1, .null, 0, 0)),
  (1, (.getfield 7, 3, .ref 147, 4, 0)),
  (4, (.bipush 18, 2, .int 18, 0, 0)),
  (6, (.iaload, 1, .null, 1, 0)),
  (7, (.iconst 1, 1, .int 1, 0, 0)),
  (8, (.if_icmp .ne 28, 3, .null, 0, 36)),
  (11, (.aload_n 0, 1, .null, 0, 0)),
  (12, (.getfield 7, 3, .ref 147, 4, 0)),
  (15, (.bipush 21, 2, .int 21, 0, 0)),
  (17, (.iaload, 1, .null, 1, 0)),
  (18, (.ifCond .ne 18, 3, .null, 0, 36)),
  (21, (.aload_n 0, 1, .null, 0, 0)),
  (22, (.getfield 13, 3, .ref 148, 4, 1)),
  (25, (.aload_n 0, 1, .null, 0, 0)),
  (26, (.invokevirtual 19, 3, .ref 316, 0, 0)),
  (29, (.if_icmp .ne 7, 3, .null, 0, 36)),
  (32, (.iconst 1, 1, .int 1, 0, 0)),
  (33, (.goto 4, 3, .null, 0, 37)),
  (36, (.iconst 0, 1, .int 0, 0, 0)),
  (37, (.ireturn, 1, .null, 0, 0))]
set_option maxRecDepth 100000 in
theorem ckV_isArrived : ab_ckM mV_isArrived kV_isArrived = true := by decide +kernel
set_option maxRecDepth 100000 in
theorem wV_isArrived : ab_MW mV_isArrived 1 0 := ab_mw_ok (i1 := 64) (i2 := 313) (i3 := 314) (by decide +kernel) (ab_t2 (List.mem_of_getElem? (i := 16) rfl))
abbrev mV_rest : ab_Mt := (⟨"BusServo$Motion", "rest", "(I)V"⟩, prog_6_method_4_code, 2, none)
def kV_rest : ab_Cd := [
  (0, (.aload_n 0, 1, .null, 0, 0)),
  (1, (.getfield 7, 3, .ref 147, 4, 0)),
  (4, (.bipush 21, 2, .int 21, 0, 0)),
  (6, (.iconst 0, 1, .int 0, 0, 0)),
  (7, (.iastore, 1, .null, 1, 0)),
  (8, (.aload_n 0, 1, .null, 0, 0)),
  (9, (.iload_n 1, 1, .null, 0, 0)),
  (10, (.putfield 13, 3, .ref 148, 4, 1)),
  (13, (.return_, 1, .null, 0, 0))]
set_option maxRecDepth 100000 in
theorem ckV_rest : ab_ckM mV_rest kV_rest = true := by decide +kernel
set_option maxRecDepth 100000 in
theorem wV_rest : ab_MW mV_rest 1 1 := ab_mw_ok (i1 := 64) (i2 := 212) (i3 := 213) (by decide +kernel) (ab_t1 (List.mem_of_getElem? (i := 155) rfl))
abbrev mV_brake : ab_Mt := (⟨"BusServo$Motion", "brake", "()V"⟩, prog_6_method_5_code, 1, none)
def kV_brake : ab_Cd := [
  (0, (.aload_n 0, 1, .null, 0, 0)),
  (1, (.aload_n 0, 1, .null, 0, 0)),
  (2, (.getfield 7, 3, .ref 147, 4, 0)),
  (5, (.bipush 21, 2, .int 21, 0, 0)),
  (7, (.iaload, 1, .null, 1, 0)),
  (8, (.aload_n 0, 1, .null, 0, 0)),
  (9, (.getfield 7, 3, .ref 147, 4, 0)),
  (12, (.bipush 28, 2, .int 28, 0, 0)),
  (14, (.iaload, 1, .null, 1, 0)),
  (15, (.invokestatic 23, 3, .ref 566, 0, 0)),
  (18, (.invokevirtual 27, 3, .ref 569, 0, 0)),
  (21, (.return_, 1, .null, 0, 0))]
set_option maxRecDepth 100000 in
theorem ckV_brake : ab_ckM mV_brake kV_brake = true := by decide +kernel
set_option maxRecDepth 100000 in
theorem wV_brake : ab_MW mV_brake 1 0 := ab_mw_ok (i1 := 64) (i2 := 586) (i3 := 587) (by decide +kernel) (ab_t3 (List.mem_of_getElem? (i := 49) rfl))
abbrev mV_follow : ab_Mt := (⟨"BusServo$Motion", "follow", "()V"⟩, prog_6_method_6_code, 2, none)
def kV_follow : ab_Cd := [
  (0, (.aload_n 0, 1, .null, 0, 0)),
  (1, (.getfield 7, 3, .ref 147, 4, 0)),
  (4, (.bipush 18, 2, .int 18, 0, 0)),
  (6, (.iaload, 1, .null, 1, 0)),
  (7, (.iconst 1, 1, .int 1, 0, 0)),
  (8, (.if_icmp .ne 31, 3, .null, 0, 39)),
  (11, (.aload_n 0, 1, .null, 0, 0)),
  (12, (.aload_n 0, 1, .null, 0, 0)),
  (13, (.invokevirtual 19, 3, .ref 316, 0, 0)),
  (16, (.aload_n 0, 1, .null, 0, 0)),
  (17, (.getfield 7, 3, .ref 147, 4, 0)),
  (20, (.bipush 26, 2, .int 26, 0, 0)),
  (22, (.iaload, 1, .null, 1, 0)),
  (23, (.aload_n 0, 1, .null, 0, 0)),
  (24, (.getfield 7, 3, .ref 147, 4, 0)),
  (27, (.bipush 25, 2, .int 25, 0, 0)),
  (29, (.iaload, 1, .null, 1, 0)),
  (30, (.invokestatic 31, 3, .ref 320, 0, 0)),
  (33, (.invokevirtual 36, 3, .ref 562, 0, 0)),
  (36, (.goto 33, 3, .null, 0, 69)),
  (39, (.aload_n 0, 1, .null, 0, 0)),
  (40, (.getfield 7, 3, .ref 147, 4, 0)),
  (43, (.bipush 29, 2, .int 29, 0, 0)),
  (45, (.iaload, 1, .null, 1, 0)),
  (46, (.invokestatic 40, 3, .ref 573, 0, 0)),
  (49, (.istore_n 1, 1, .null, 0, 0)),
  (50, (.aload_n 0, 1, .null, 0, 0)),
  (51, (.aload_n 0, 1, .null, 0, 0)),
  (52, (.invokevirtual 44, 3, .ref 581, 0, 0)),
  (55, (.iload_n 1, 1, .null, 0, 0)),
  (56, (.aload_n 0, 1, .null, 0, 0)),
  (57, (.getfield 7, 3, .ref 147, 4, 0)),
  (60, (.bipush 25, 2, .int 25, 0, 0)),
  (62, (.iaload, 1, .null, 1, 0)),
  (63, (.invokestatic 31, 3, .ref 320, 0, 0)),
  (66, (.invokevirtual 36, 3, .ref 562, 0, 0)),
  (69, (.return_, 1, .null, 0, 0))]
set_option maxRecDepth 100000 in
theorem ckV_follow : ab_ckM mV_follow kV_follow = true := by decide +kernel
set_option maxRecDepth 100000 in
theorem wV_follow : ab_MW mV_follow 1 0 := ab_mw_ok (i1 := 64) (i2 := 559) (i3 := 560) (by decide +kernel) (ab_t3 (List.mem_of_getElem? (i := 22) rfl))
abbrev mV_positionAim : ab_Mt := (⟨"BusServo$Motion", "positionAim", "()I"⟩, prog_6_method_7_code, 2, (some .int))
def kV_positionAim : ab_Cd := [
  (0, (.aload_n 0, 1, .null, 0, 0)),
  (1, (.getfield 7, 3, .ref 147, 4, 0)),
  (4, (.bipush 22, 2, .int 22, 0, 0)),
  (6, (.iaload, 1, .null, 1, 0)),
  (7, (.aload_n 0, 1, .null, 0, 0)),
  (8, (.getfield 7, 3, .ref 147, 4, 0)),
  (11, (.bipush 24, 2, .int 24, 0, 0)),
  (13, (.iaload, 1, .null, 1, 0)),
  (14, (.invokestatic 31, 3, .ref 320, 0, 0)),
  (17, (.istore_n 1, 1, .null, 0, 0)),
  (18, (.iload_n 1, 1, .null, 0, 0)),
  (19, (.aload_n 0, 1, .null, 0, 0)),
  (20, (.getfield 7, 3, .ref 147, 4, 0)),
  (23, (.bipush 23, 2, .int 23, 0, 0)),
  (25, (.iaload, 1, .null, 1, 0)),
  (26, (.invokestatic 47, 3, .ref 323, 0, 0)),
  (29, (.ireturn, 1, .null, 0, 0))]
set_option maxRecDepth 100000 in
theorem ckV_positionAim : ab_ckM mV_positionAim kV_positionAim = true := by decide +kernel
set_option maxRecDepth 100000 in
theorem wV_positionAim : ab_MW mV_positionAim 1 0 := ab_mw_ok (i1 := 64) (i2 := 318) (i3 := 5) (by decide +kernel) (ab_t2 (List.mem_of_getElem? (i := 20) rfl))
abbrev mV_speedAim : ab_Mt := (⟨"BusServo$Motion", "speedAim", "()I"⟩, prog_6_method_8_code, 2, (some .int))
def kV_speedAim : ab_Cd := [
  (0, (.aload_n 0, 1, .null, 0, 0)),
  (1, (.getfield 7, 3, .ref 147, 4, 0)),
  (4, (.bipush 29, 2, .int 29, 0, 0)),
  (6, (.iaload, 1, .null, 1, 0)),
  (7, (.istore_n 1, 1, .null, 0, 0)),
  (8, (.iload_n 1, 1, .null, 0, 0)),
  (9, (.ifCond .ne 8, 3, .null, 0, 17)),
  (12, (.aload_n 0, 1, .null, 0, 0)),
  (13, (.getfield 13, 3, .ref 148, 4, 1)),
  (16, (.ireturn, 1, .null, 0, 0)),
  (17, (.iload_n 1, 1, .null, 0, 0)),
  (18, (.ifCond .le 20, 3, .null, 0, 38)),
  (21, (.aload_n 0, 1, .null, 0, 0)),
  (22, (.getfield 13, 3, .ref 148, 4, 1)),
  (25, (.aload_n 0, 1, .null, 0, 0)),
  (26, (.getfield 7, 3, .ref 147, 4, 0)),
  (29, (.bipush 24, 2, .int 24, 0, 0)),
  (31, (.iaload, 1, .null, 1, 0)),
  (32, (.invokestatic 47, 3, .ref 323, 0, 0)),
  (35, (.goto 17, 3, .null, 0, 52)),
  (38, (.aload_n 0, 1, .null, 0, 0)),
  (39, (.getfield 13, 3, .ref 148, 4, 1)),
  (42, (.aload_n 0, 1, .null, 0, 0)),
  (43, (.getfield 7, 3, .ref 147, 4, 0)),
  (46, (.bipush 23, 2, .int 23, 0, 0)),
  (48, (.iaload, 1, .null, 1, 0)),
  (49, (.invokestatic 31, 3, .ref 320, 0, 0)),
  (52, (.ireturn, 1, .null, 0, 0))]
set_option maxRecDepth 100000 in
theorem ckV_speedAim : ab_ckM mV_speedAim kV_speedAim = true := by decide +kernel
set_option maxRecDepth 100000 in
theorem wV_speedAim : ab_MW mV_speedAim 1 0 := ab_mw_ok (i1 := 64) (i2 := 583) (i3 := 29) (by decide +kernel) (ab_t3 (List.mem_of_getElem? (i := 45) rfl))
abbrev mV_approach : ab_Mt := (⟨"BusServo$Motion", "approach", "(II)V"⟩, prog_6_method_9_code, 11, none)
def kV_approach : ab_Cd := [
  (0, (.aload_n 0, 1, .null, 0, 0)),
  (1, (.getfield 7, 3, .ref 147, 4, 0)),
  (4, (.bipush 21, 2, .int 21, 0, 0)),
  (6, (.iaload, 1, .null, 1, 0)),
  (7, (.istore_n 3, 1, .null, 0, 0)),
  (8, (.aload_n 0, 1, .null, 0, 0)),
  (9, (.getfield 7, 3, .ref 147, 4, 0)),
  (12, (.bipush 27, 2, .int 27, 0, 0)),
  (14, (.iaload, 1, .null, 1, 0)),
  (15, (.istore 4, 2, .null, 0, 0)),
  (17, (.iload_n 1, 1, .null, 0, 0)),
  (18, (.aload_n 0, 1, .null, 0, 0)),
  (19, (.getfield 13, 3, .ref 148, 4, 1)),
  (22, (.isub, 1, .null, 0, 0)),
  (23, (.istore 5, 2, .null, 0, 0)),
  (25, (.iload_n 3, 1, .null, 0, 0)),
  (26, (.ifCond .le 8, 3, .null, 0, 34)),
  (29, (.iload 5, 2, .null, 0, 0)),
  (31, (.ifCond .le 12, 3, .null, 0, 43)),
  (34, (.iload_n 3, 1, .null, 0, 0)),
  (35, (.ifCond .ge 12, 3, .null, 0, 47)),
  (38, (.iload 5, 2, .null, 0, 0)),
  (40, (.ifCond .lt 7, 3, .null, 0, 47)),
  (43, (.iconst 1, 1, .int 1, 0, 0)),
  (44, (.goto 4, 3, .null, 0, 48)),
  (47, (.iconst 0, 1, .int 0, 0, 0)),
  (48, (.istore 6, 2, .null, 0, 0)),
  (50, (.iload 6, 2, .null, 0, 0)),
  (52, (.ifCond .eq 14, 3, .null, 0, 66)),
  (55, (.aload_n 0, 1, .null, 0, 0)),
  (56, (.iload_n 3, 1, .null, 0, 0)),
  (57, (.iload 4, 2, .null, 0, 0)),
  (59, (.invokestatic 23, 3, .ref 566, 0, 0)),
  (62, (.invokevirtual 27, 3, .ref 569, 0, 0)),
  (65, (.return_, 1, .null, 0, 0)),
  (66, (.iload_n 3, 1, .null, 0, 0)),
  (67, (.invokestatic 40, 3, .ref 573, 0, 0)),
  (70, (.istore 7, 2, .null, 0, 0)),
  (72, (.iload 7, 2, .null, 0, 0)),
  (74, (.iload 4, 2, .null, 0, 0)),
  (76, (.iadd, 1, .null, 0, 0)),
  (77, (.iload_n 2, 1, .null, 0, 0)),
  (78, (.invokestatic 31, 3, .ref 320, 0, 0)),
  (81, (.istore 8, 2, .null, 0, 0)),
  (83, (.aload_n 0, 1, .null, 0, 0)),
  (84, (.iload 8, 2, .null, 0, 0)),
  (86, (.iload 5, 2, .null, 0, 0)),
  (88, (.invokestatic 40, 3, .ref 573, 0, 0)),
  (91, (.invokevirtual 50, 3, .ref 574, 0, 0)),
  (94, (.istore 9, 2, .null, 0, 0)),
  (96, (.iload 9, 2, .null, 0, 0)),
  (98, (.iload 7, 2, .null, 0, 0)),
  (100, (.iload 4, 2, .null, 0, 0)),
  (102, (.isub, 1, .null, 0, 0)),
  (103, (.invokestatic 47, 3, .ref 323, 0, 0)),
  (106, (.istore 10, 2, .null, 0, 0)),
  (108, (.aload_n 0, 1, .null, 0, 0)),
  (109, (.iload 5, 2, .null, 0, 0)),
  (111, (.ifCond .ge 9, 3, .null, 0, 120)),
  (114, (.iload 10, 2, .null, 0, 0)),
  (116, (.ineg, 1, .null, 0, 0)),
  (117, (.goto 5, 3, .null, 0, 122)),
  (120, (.iload 10, 2, .null, 0, 0)),
  (122, (.invokevirtual 27, 3, .ref 569, 0, 0)),
  (125, (.return_, 1, .null, 0, 0))]
set_option maxRecDepth 100000 in
theorem ckV_approach : ab_ckM mV_approach kV_approach = true := by decide +kernel
set_option maxRecDepth 100000 in
theorem wV_approach : ab_MW mV_approach 1 2 := ab_mw_ok (i1 := 64) (i2 := 564) (i3 := 26) (by decide +kernel) (ab_t3 (List.mem_of_getElem? (i := 26) rfl))
abbrev mV_moveWith : ab_Mt := (⟨"BusServo$Motion", "moveWith", "(I)V"⟩, prog_6_method_10_code, 2, none)
def kV_moveWith : ab_Cd := [
  (0, (.aload_n 0, 1, .null, 0, 0)),
  (1, (.getfield 7, 3, .ref 147, 4, 0)),
  (4, (.bipush 21, 2, .int 21, 0, 0)),
  (6, (.iload_n 1, 1, .null, 0, 0)),
  (7, (.iastore, 1, .null, 1, 0)),
  (8, (.aload_n 0, 1, .null, 0, 0)),
  (9, (.dup, 1, .null, 0, 0)),
  (10, (.getfield 13, 3, .ref 148, 4, 1)),
  (13, (.iload_n 1, 1, .null, 0, 0)),
  (14, (.iadd, 1, .null, 0, 0)),
  (15, (.putfield 13, 3, .ref 148, 4, 1)),
  (18, (.return_, 1, .null, 0, 0))]
set_option maxRecDepth 100000 in
theorem ckV_moveWith : ab_ckM mV_moveWith kV_moveWith = true := by decide +kernel
set_option maxRecDepth 100000 in
theorem wV_moveWith : ab_MW mV_moveWith 1 1 := ab_mw_ok (i1 := 64) (i2 := 571) (i3 := 27) (by decide +kernel) (ab_t3 (List.mem_of_getElem? (i := 33) rfl))
abbrev mV_slower : ab_Mt := (⟨"BusServo$Motion", "slower", "(II)I"⟩, prog_6_method_11_code, 2, (some .int))
def kV_slower : ab_Cd := [
  (0, (.iload_n 0, 1, .null, 0, 0)),
  (1, (.ifCond .le 13, 3, .null, 0, 14)),
  (4, (.iload_n 0, 1, .null, 0, 0)),
  (5, (.iload_n 1, 1, .null, 0, 0)),
  (6, (.isub, 1, .null, 0, 0)),
  (7, (.iconst 0, 1, .int 0, 0, 0)),
  (8, (.invokestatic 47, 3, .ref 323, 0, 0)),
  (11, (.goto 10, 3, .null, 0, 21)),
  (14, (.iload_n 0, 1, .null, 0, 0)),
  (15, (.iload_n 1, 1, .null, 0, 0)),
  (16, (.iadd, 1, .null, 0, 0)),
  (17, (.iconst 0, 1, .int 0, 0, 0)),
  (18, (.invokestatic 31, 3, .ref 320, 0, 0)),
  (21, (.ireturn, 1, .null, 0, 0))]
set_option maxRecDepth 100000 in
theorem ckV_slower : ab_ckM mV_slower kV_slower = true := by decide +kernel
set_option maxRecDepth 100000 in
theorem wV_slower : ab_MW mV_slower 0 2 := ab_mw_ok (i1 := 64) (i2 := 567) (i3 := 0) (by decide +kernel) (ab_t3 (List.mem_of_getElem? (i := 29) rfl))
abbrev mV_fastestThatStops : ab_Mt := (⟨"BusServo$Motion", "fastestThatStops", "(II)I"⟩, prog_6_method_12_code, 7, (some .int))
def kV_fastestThatStops : ab_Cd := [
  (0, (.iconst 1, 1, .int 1, 0, 0)),
  (1, (.aload_n 0, 1, .null, 0, 0)),
  (2, (.getfield 7, 3, .ref 147, 4, 0)),
  (5, (.bipush 27, 2, .int 27, 0, 0)),
  (7, (.iaload, 1, .null, 1, 0)),
  (8, (.aload_n 0, 1, .null, 0, 0)),
  (9, (.getfield 7, 3, .ref 147, 4, 0)),
  (12, (.bipush 28, 2, .int 28, 0, 0)),
  (14, (.iaload, 1, .null, 1, 0)),
  (15, (.invokestatic 31, 3, .ref 320, 0, 0)),
  (18, (.invokestatic 47, 3, .ref 323, 0, 0)),
  (21, (.istore_n 3, 1, .null, 0, 0)),
  (22, (.iconst 0, 1, .int 0, 0, 0)),
  (23, (.istore 4, 2, .null, 0, 0)),
  (25, (.sipush 512, 3, .int 512, 0, 0)),
  (28, (.istore 5, 2, .null, 0, 0)),
  (30, (.iload 5, 2, .null, 0, 0)),
  (32, (.ifCond .le 39, 3, .null, 0, 71)),
  (35, (.iload 4, 2, .null, 0, 0)),
  (37, (.iload 5, 2, .null, 0, 0)),
  (39, (.iadd, 1, .null, 0, 0)),
  (40, (.istore 6, 2, .null, 0, 0)),
  (42, (.iload 6, 2, .null, 0, 0)),
  (44, (.iload_n 1, 1, .null, 0, 0)),
  (45, (.if_icmp .gt 17, 3, .null, 0, 62)),
  (48, (.iload 6, 2, .null, 0, 0)),
  (50, (.iload_n 3, 1, .null, 0, 0)),
  (51, (.invokestatic 53, 3, .ref 578, 0, 0)),
  (54, (.iload_n 2, 1, .null, 0, 0)),
  (55, (.if_icmp .gt 7, 3, .null, 0, 62)),
  (58, (.iload 6, 2, .null, 0, 0)),
  (60, (.istore 4, 2, .null, 0, 0)),
  (62, (.iload 5, 2, .null, 0, 0)),
  (64, (.iconst 2, 1, .int 2, 0, 0)),
  (65, (.idiv, 1, .null, 1, 0)),
  (66, (.istore 5, 2, .null, 0, 0)),
  (68, (.goto (-38), 3, .null, 0, 30)),
  (71, (.iload 4, 2, .null, 0, 0)),
  (73, (.ireturn, 1, .null, 0, 0))]
set_option maxRecDepth 100000 in
theorem ckV_fastestThatStops : ab_ckM mV_fastestThatStops kV_fastestThatStops = true := by decide +kernel
set_option maxRecDepth 100000 in
theorem wV_fastestThatStops : ab_MW mV_fastestThatStops 1 2 := ab_mw_ok (i1 := 64) (i2 := 576) (i3 := 28) (by decide +kernel) (ab_t3 (List.mem_of_getElem? (i := 38) rfl))
abbrev mV_stoppingWay : ab_Mt := (⟨"BusServo$Motion", "stoppingWay", "(II)I"⟩, prog_6_method_13_code, 3, (some .int))
def kV_stoppingWay : ab_Cd := [
  (0, (.iload_n 0, 1, .null, 0, 0)),
  (1, (.iload_n 1, 1, .null, 0, 0)),
  (2, (.iadd, 1, .null, 0, 0)),
  (3, (.iconst 1, 1, .int 1, 0, 0)),
  (4, (.isub, 1, .null, 0, 0)),
  (5, (.iload_n 1, 1, .null, 0, 0)),
  (6, (.idiv, 1, .null, 0, 0)),
  (7, (.istore_n 2, 1, .null, 0, 0)),
  (8, (.iload_n 2, 1, .null, 0, 0)),
  (9, (.iload_n 0, 1, .null, 0, 0)),
  (10, (.imul, 1, .null, 0, 0)),
  (11, (.iload_n 1, 1, .null, 0, 0)),
  (12, (.iload_n 2, 1, .null, 0, 0)),
  (13, (.iload_n 2, 1, .null, 0, 0)),
  (14, (.iconst 1, 1, .int 1, 0, 0)),
  (15, (.isub, 1, .null, 0, 0)),
  (16, (.imul, 1, .null, 0, 0)),
  (17, (.iconst 2, 1, .int 2, 0, 0)),
  (18, (.idiv, 1, .null, 1, 0)),
  (19, (.imul, 1, .null, 0, 0)),
  (20, (.isub, 1, .null, 0, 0)),
  (21, (.ireturn, 1, .null, 0, 0))]
set_option maxRecDepth 100000 in
theorem ckV_stoppingWay : ab_ckM mV_stoppingWay kV_stoppingWay = true := by decide +kernel
set_option maxRecDepth 100000 in
theorem wV_stoppingWay : ab_MW mV_stoppingWay 0 2 := ab_mw_ok (i1 := 64) (i2 := 579) (i3 := 0) (by decide +kernel) (ab_t3 (List.mem_of_getElem? (i := 41) rfl))
abbrev mO_init : ab_Mt := (⟨"BusServo$OutRecord", "<init>", "()V"⟩, prog_7_method_1_code, 1, none)
def kO_init : ab_Cd := [
  (0, (.aload_n 0, 1, .null, 0, 0)),
  (1, (.invokespecial 1, 3, .ref 172, 0, 0)),
  (4, (.return_, 1, .null, 0, 0))]
set_option maxRecDepth 100000 in
theorem ckO_init : ab_ckM mO_init kO_init = true := by decide +kernel
set_option maxRecDepth 100000 in
theorem wO_init : ab_MW mO_init 2 0 := ab_mw_ok (i1 := 66) (i2 := 170) (i3 := 0) (by decide +kernel) (ab_t1 (List.mem_of_getElem? (i := 112) rfl))
abbrev mO_beginOperating : ab_Mt := (⟨"BusServo$OutRecord", "beginOperating", "()V"⟩, prog_7_method_2_code, 1, none)
def kO_beginOperating : ab_Cd := [
  (0, (.aload_n 0, 1, .null, 0, 0)),
  (1, (.iconst 0, 1, .int 0, 0, 0)),
  (2, (.putfield 7, 3, .ref 173, 6, 0)),
  (5, (.return_, 1, .null, 0, 0))]
set_option maxRecDepth 100000 in
theorem ckO_beginOperating : ab_ckM mO_beginOperating kO_beginOperating = true := by decide +kernel
set_option maxRecDepth 100000 in
theorem wO_beginOperating : ab_MW mO_beginOperating 1 0 := ab_mw_ok (i1 := 66) (i2 := 287) (i3 := 288) (by decide +kernel) (ab_t1 (List.mem_of_getElem? (i := 230) rfl))
abbrev mO_forgetSyncs : ab_Mt := (⟨"BusServo$OutRecord", "forgetSyncs", "()V"⟩, prog_7_method_3_code, 1, none)
def kO_forgetSyncs : ab_Cd := [
  (0, (.aload_n 0, 1, .null, 0, 0)),
  (1, (.iconst 0, 1, .int 0, 0, 0)),
  (2, (.putfield 13, 3, .ref 177, 6, 4)),
  (5, (.return_, 1, .null, 0, 0))]
set_option maxRecDepth 100000 in
theorem ckO_forgetSyncs : ab_ckM mO_forgetSyncs kO_forgetSyncs = true := by decide +kernel
set_option maxRecDepth 100000 in
theorem wO_forgetSyncs : ab_MW mO_forgetSyncs 1 0 := ab_mw_ok (i1 := 66) (i2 := 224) (i3 := 225) (by decide +kernel) (ab_t1 (List.mem_of_getElem? (i := 167) rfl))
abbrev mO_countSync : ab_Mt := (⟨"BusServo$OutRecord", "countSync", "(I)Z"⟩, prog_7_method_4_code, 2, (some .boolean))
def kO_countSync : ab_Cd := [
  (0, (.aload_n 0, 1, .null, 0, 0)),
  (1, (.dup, 1, .null, 0, 0)),
  (2, (.getfield 13, 3, .ref 177, 6, 4)),
  (5, (.iconst 1, 1, .int 1, 0, 0)),
  (6, (.iadd, 1, .null, 0, 0)),
  (7, (.putfield 13, 3, .ref 177, 6, 4)),
  (10, (.aload_n 0, 1, .null, 0, 0)),
  (11, (.getfield 13, 3, .ref 177, 6, 4)),
  (14, (.iload_n 1, 1, .null, 0, 0)),
  (15, (.if_icmp .ge 5, 3, .null, 0, 20)),
  (18, (.iconst 0, 1, .int 0, 0, 0)),
  (19, (.ireturn, 1, .null, 0, 0)),
  (20, (.aload_n 0, 1, .null, 0, 0)),
  (21, (.iconst 0, 1, .int 0, 0, 0)),
  (22, (.putfield 13, 3, .ref 177, 6, 4)),
  (25, (.iconst 1, 1, .int 1, 0, 0)),
  (26, (.ireturn, 1, .null, 0, 0))]
set_option maxRecDepth 100000 in
theorem ckO_countSync : ab_ckM mO_countSync kO_countSync = true := by decide +kernel
set_option maxRecDepth 100000 in
theorem wO_countSync : ab_MW mO_countSync 1 1 := ab_mw_ok (i1 := 66) (i2 := 295) (i3 := 296) (by decide +kernel) (ab_t1 (List.mem_of_getElem? (i := 238) rfl))
abbrev mO_countTick : ab_Mt := (⟨"BusServo$OutRecord", "countTick", "()V"⟩, prog_7_method_5_code, 1, none)
def kO_countTick : ab_Cd := [
  (0, (.aload_n 0, 1, .null, 0, 0)),
  (1, (.dup, 1, .null, 0, 0)),
  (2, (.getfield 17, 3, .ref 174, 6, 1)),
  (5, (.iconst 1, 1, .int 1, 0, 0)),
  (6, (.iadd, 1, .null, 0, 0)),
  (7, (.putfield 17, 3, .ref 174, 6, 1)),
  (10, (.return_, 1, .null, 0, 0))]
set_option maxRecDepth 100000 in
theorem ckO_countTick : ab_ckM mO_countTick kO_countTick = true := by decide +kernel
set_option maxRecDepth 100000 in
theorem wO_countTick : ab_MW mO_countTick 1 0 := ab_mw_ok (i1 := 66) (i2 := 590) (i3 := 591) (by decide +kernel) (ab_t3 (List.mem_of_getElem? (i := 53) rfl))
abbrev mO_isHeld : ab_Mt := (⟨"BusServo$OutRecord", "isHeld", "(I)Z"⟩, prog_7_method_6_code, 2, (some .boolean))
def kO_isHeld : ab_Cd := [
  (0, (.aload_n 0, 1, .null, 0, 0)),
  (1, (.getfield 7, 3, .ref 173, 6, 0)),
  (4, (.ifCond .eq 15, 3, .null, 0, 19)),
  (7, (.aload_n 0, 1, .null, 0, 0)),
  (8, (.getfield 17, 3, .ref 174, 6, 1)),
  (11, (.iload_n 1, 1, .null, 0, 0)),
  (12, (.if_icmp .ge 7, 3, .null, 0, 19)),
  (15, (.iconst 1, 1, .int 1, 0, 0)),
  (16, (.goto 4, 3, .null, 0, 20)),
  (19, (.iconst 0, 1, .int 0, 0, 0)),
  (20, (.ireturn, 1, .null, 0, 0))]
set_option maxRecDepth 100000 in
theorem ckO_isHeld : ab_ckM mO_isHeld kO_isHeld = true := by decide +kernel
set_option maxRecDepth 100000 in
theorem wO_isHeld : ab_MW mO_isHeld 1 1 := ab_mw_ok (i1 := 66) (i2 := 598) (i3 := 599) (by decide +kernel) (ab_t3 (List.mem_of_getElem? (i := 61) rfl))
abbrev mO_isDue : ab_Mt := (⟨"BusServo$OutRecord", "isDue", "(JII)Z"⟩, prog_7_method_7_code, 5, (some .boolean))
def kO_isDue : ab_Cd := [
  (0, (.aload_n 0, 1, .null, 0, 0)),
  (1, (.getfield 7, 3, .ref 173, 6, 0)),
  (4, (.ifCond .eq 34, 3, .null, 0, 38)),
  (7, (.lload_n 1, 1, .null, 0, 0)),
  (8, (.aload_n 0, 1, .null, 0, 0)),
  (9, (.getfield 20, 3, .ref 175, 6, 2)),
  (12, (.lcmp, 1, .null, 0, 0)),
  (13, (.ifCond .ne 25, 3, .null, 0, 38)),
  (16, (.iload_n 3, 1, .null, 0, 0)),
  (17, (.aload_n 0, 1, .null, 0, 0)),
  (18, (.getfield 24, 3, .ref 176, 6, 3)),
  (21, (.if_icmp .ne 17, 3, .null, 0, 38)),
  (24, (.iload 4, 2, .null, 0, 0)),
  (26, (.ifCond .le 16, 3, .null, 0, 42)),
  (29, (.aload_n 0, 1, .null, 0, 0)),
  (30, (.getfield 17, 3, .ref 174, 6, 1)),
  (33, (.iload 4, 2, .null, 0, 0)),
  (35, (.if_icmp .lt 7, 3, .null, 0, 42)),
  (38, (.iconst 1, 1, .int 1, 0, 0)),
  (39, (.goto 4, 3, .null, 0, 43)),
  (42, (.iconst 0, 1, .int 0, 0, 0)),
  (43, (.ireturn, 1, .null, 0, 0))]
set_option maxRecDepth 100000 in
theorem ckO_isDue : ab_ckM mO_isDue kO_isDue = true := by decide +kernel
set_option maxRecDepth 100000 in
theorem wO_isDue : ab_MW mO_isDue 1 3 := ab_mw_ok (i1 := 66) (i2 := 602) (i3 := 603) (by decide +kernel) (ab_t3 (List.mem_of_getElem? (i := 65) rfl))
abbrev mO_noteSent : ab_Mt := (⟨"BusServo$OutRecord", "noteSent", "(JI)V"⟩, prog_7_method_8_code, 4, none)
def kO_noteSent : ab_Cd := [
  (0, (.aload_n 0, 1, .null, 0, 0)),
  (1, (.iconst 1, 1, .int 1, 0, 0)),
  (2, (.putfield 7, 3, .ref 173, 6, 0)),
  (5, (.aload_n 0, 1, .null, 0, 0)),
  (6, (.iconst 0, 1, .int 0, 0, 0)),
  (7, (.putfield 17, 3, .ref 174, 6, 1)),
  (10, (.aload_n 0, 1, .null, 0, 0)),
  (11, (.lload_n 1, 1, .null, 0, 0)),
  (12, (.putfield 20, 3, .ref 175, 6, 2)),
  (15, (.aload_n 0, 1, .null, 0, 0)),
  (16, (.iload_n 3, 1, .null, 0, 0)),
  (17, (.putfield 24, 3, .ref 176, 6, 3)),
  (20, (.return_, 1, .null, 0, 0))]
set_option maxRecDepth 100000 in
theorem ckO_noteSent : ab_ckM mO_noteSent kO_noteSent = true := by decide +kernel
set_option maxRecDepth 100000 in
theorem wO_noteSent : ab_MW mO_noteSent 1 2 := ab_mw_ok (i1 := 66) (i2 := 348) (i3 := 349) (by decide +kernel) (ab_t2 (List.mem_of_getElem? (i := 51) rfl))
abbrev mP_init : ab_Mt := (⟨"BusServo$Power", "<init>", "()V"⟩, prog_8_method_1_code, 1, none)
def kP_init : ab_Cd := [
  (0, (.aload_n 0, 1, .null, 0, 0)),
  (1, (.invokespecial 1, 3, .ref 133, 0, 0)),
  (4, (.return_, 1, .null, 0, 0))]
set_option maxRecDepth 100000 in
theorem ckP_init : ab_ckM mP_init kP_init = true := by decide +kernel
set_option maxRecDepth 100000 in
theorem wP_init : ab_MW mP_init 2 0 := ab_mw_ok (i1 := 63) (i2 := 131) (i3 := 0) (by decide +kernel) (ab_t1 (List.mem_of_getElem? (i := 73) rfl))
abbrev mP_comeUp : ab_Mt := (⟨"BusServo$Power", "comeUp", "()V"⟩, prog_8_method_2_code, 1, none)
def kP_comeUp : ab_Cd := [
  (0, (.aload_n 0, 1, .null, 0, 0)),
  (1, (.iconst 1, 1, .int 1, 0, 0)),
  (2, (.putfield 9, 3, .ref 134, 3, 0)),
  (5, (.aload_n 0, 1, .null, 0, 0)),
  (6, (.iconst 0, 1, .int 0, 0, 0)),
  (7, (.putfield 13, 3, .ref 135, 3, 1)),
  (10, (.return_, 1, .null, 0, 0))]
set_option maxRecDepth 100000 in
theorem ckP_comeUp : ab_ckM mP_comeUp kP_comeUp = true := by decide +kernel
set_option maxRecDepth 100000 in
theorem wP_comeUp : ab_MW mP_comeUp 1 0 := ab_mw_ok (i1 := 63) (i2 := 216) (i3 := 217) (by decide +kernel) (ab_t1 (List.mem_of_getElem? (i := 159) rfl))
abbrev mP_current : ab_Mt := (⟨"BusServo$Power", "current", "()I"⟩, prog_8_method_3_code, 1, (some .int))
def kP_current : ab_Cd := [
  (0, (.aload_n 0, 1, .null, 0, 0)),
  (1, (.getfield 9, 3, .ref 134, 3, 0)),
  (4, (.ireturn, 1, .null, 0, 0))]
set_option maxRecDepth 100000 in
theorem ckP_current : ab_ckM mP_current kP_current = true := by decide +kernel
set_option maxRecDepth 100000 in
theorem wP_current : ab_MW mP_current 1 0 := ab_mw_ok (i1 := 63) (i2 := 679) (i3 := 680) (by decide +kernel) (ab_t3 (List.mem_of_getElem? (i := 142) rfl))
abbrev mP_statusBits : ab_Mt := (⟨"BusServo$Power", "statusBits", "()I"⟩, prog_8_method_4_code, 1, (some .int))
def kP_statusBits : ab_Cd := [
  (0, (.getstatic 17, 3, .ref 306, 0, 2)),
  (3, (.aload_n 0, 1, .null, 0, 0)),
  (4, (.getfield 9, 3, .ref 134, 3, 0)),
  (7, (.iaload, 1, .null, 0, 0)),
  (8, (.ireturn, 1, .null, 0, 0))]
set_option maxRecDepth 100000 in
theorem ckP_statusBits : ab_ckM mP_statusBits kP_statusBits = true := by decide +kernel
set_option maxRecDepth 100000 in
theorem wP_statusBits : ab_MW mP_statusBits 1 0 := ab_mw_ok (i1 := 63) (i2 := 303) (i3 := 304) (by decide +kernel) (ab_t2 (List.mem_of_getElem? (i := 6) rfl))
abbrev mP_isEnabled : ab_Mt := (⟨"BusServo$Power", "isEnabled", "()Z"⟩, prog_8_method_5_code, 1, (some .boolean))
def kP_isEnabled : ab_Cd := [
  (0, (.aload_n 0, 1, .null, 0, 0)),
  (1, (.getfield 9, 3, .ref 134, 3, 0)),
  (4, (.iconst 4, 1, .int 4, 0, 0)),
  (5, (.if_icmp .ne 7, 3, .null, 0, 12)),
  (8, (.iconst 1, 1, .int 1, 0, 0)),
  (9, (.goto 4, 3, .null, 0, 13)),
  (12, (.iconst 0, 1, .int 0, 0, 0)),
  (13, (.ireturn, 1, .null, 0, 0))]
set_option maxRecDepth 100000 in
theorem ckP_isEnabled : ab_ckM mP_isEnabled kP_isEnabled = true := by decide +kernel
set_option maxRecDepth 100000 in
theorem wP_isEnabled : ab_MW mP_isEnabled 1 0 := ab_mw_ok (i1 := 63) (i2 := 309) (i3 := 310) (by decide +kernel) (ab_t2 (List.mem_of_getElem? (i := 12) rfl))
abbrev mP_isStageOn : ab_Mt := (⟨"BusServo$Power", "isStageOn", "()Z"⟩, prog_8_method_6_code, 1, (some .boolean))
def kP_isStageOn : ab_Cd := [
  (0, (.aload_n 0, 1, .null, 0, 0)),
  (1, (.getfield 9, 3, .ref 134, 3, 0)),
  (4, (.iconst 4, 1, .int 4, 0, 0)),
  (5, (.if_icmp .eq 20, 3, .null, 0, 25)),
  (8, (.aload_n 0, 1, .null, 0, 0)),
  (9, (.getfield 9, 3, .ref 134, 3, 0)),
  (12, (.iconst 5, 1, .int 5, 0, 0)),
  (13, (.if_icmp .eq 12, 3, .null, 0, 25)),
  (16, (.aload_n 0, 1, .null, 0, 0)),
  (17, (.getfield 9, 3, .ref 134, 3, 0)),
  (20, (.bipush 6, 2, .int 6, 0, 0)),
  (22, (.if_icmp .ne 7, 3, .null, 0, 29)),
  (25, (.iconst 1, 1, .int 1, 0, 0)),
  (26, (.goto 4, 3, .null, 0, 30)),
  (29, (.iconst 0, 1, .int 0, 0, 0)),
  (30, (.ireturn, 1, .null, 0, 0))]
set_option maxRecDepth 100000 in
theorem ckP_isStageOn : ab_ckM mP_isStageOn kP_isStageOn = true := by decide +kernel
set_option maxRecDepth 100000 in
theorem wP_isStageOn : ab_MW mP_isStageOn 1 0 := ab_mw_ok (i1 := 63) (i2 := 425) (i3 := 426) (by decide +kernel) (ab_t2 (List.mem_of_getElem? (i := 128) rfl))
abbrev mP_fail : ab_Mt := (⟨"BusServo$Power", "fail", "()Z"⟩, prog_8_method_7_code, 1, (some .boolean))
def kP_fail : ab_Cd := [
  (0, (.aload_n 0, 1, .null, 0, 0)),
  (1, (.getfield 9, 3, .ref 134, 3, 0)),
  (4, (.bipush 6, 2, .int 6, 0, 0)),
  (6, (.if_icmp .eq 12, 3, .null, 0, 18)),
  (9, (.aload_n 0, 1, .null, 0, 0)),
  (10, (.getfield 9, 3, .ref 134, 3, 0)),
  (13, (.bipush 7, 2, .int 7, 0, 0)),
  (15, (.if_icmp .ne 5, 3, .null, 0, 20)),
  (18, (.iconst 0, 1, .int 0, 0, 0)),
  (19, (.ireturn, 1, .null, 0, 0)),
  (20, (.aload_n 0, 1, .null, 0, 0)),
  (21, (.aload_n 0, 1, .null, 0, 0)),
  (22, (.invokevirtual 21, 3, .ref 516, 0, 0)),
  (25, (.ifCond .eq 8, 3, .null, 0, 33)),
  (28, (.bipush 6, 2, .int 6, 0, 0)),
  (30, (.goto 5, 3, .null, 0, 35)),
  (33, (.bipush 7, 2, .int 7, 0, 0)),
  (35, (.putfield 9, 3, .ref 134, 3, 0)),
  (38, (.iconst 1, 1, .int 1, 0, 0)),
  (39, (.ireturn, 1, .null, 0, 0))]
set_option maxRecDepth 100000 in
theorem ckP_fail : ab_ckM mP_fail kP_fail = true := by decide +kernel
set_option maxRecDepth 100000 in
theorem wP_fail : ab_MW mP_fail 1 0 := ab_mw_ok (i1 := 63) (i2 := 513) (i3 := 514) (by decide +kernel) (ab_t2 (List.mem_of_getElem? (i := 216) rfl))
abbrev mP_orderOf : ab_Mt := (⟨"BusServo$Power", "orderOf", "(I)I"⟩, prog_8_method_8_code, 4, (some .int))
def kP_orderOf : ab_Cd := [
  (0, (.iload_n 1, 1, .null, 0, 0)),
  (1, (.sipush 128, 3, .int 128, 0, 0)),
  (4, (.iand, 1, .null, 0, 0)),
  (5, (.ifCond .eq 7, 3, .null, 0, 12)),
  (8, (.iconst 1, 1, .int 1, 0, 0)),
  (9, (.goto 4, 3, .null, 0, 13)),
  (12, (.iconst 0, 1, .int 0, 0, 0)),
  (13, (.istore_n 2, 1, .null, 0, 0)),
  (14, (.iload_n 2, 1, .null, 0, 0)),
  (15, (.ifCond .eq 14, 3, .null, 0, 29)),
  (18, (.aload_n 0, 1, .null, 0, 0)),
  (19, (.getfield 13, 3, .ref 135, 3, 1)),
  (22, (.ifCond .ne 7, 3, .null, 0, 29)),
  (25, (.iconst 1, 1, .int 1, 0, 0)),
  (26, (.goto 4, 3, .null, 0, 30)),
  (29, (.iconst 0, 1, .int 0, 0, 0)),
  (30, (.istore_n 3, 1, .null, 0, 0)),
  (31, (.aload_n 0, 1, .null, 0, 0)),
  (32, (.iload_n 2, 1, .null, 0, 0)),
  (33, (.putfield 13, 3, .retAddr 135, 3, 1)),
  (36, (.iload_n 2, 1, .null, 0, 0)),
  (37, (.ifCond .eq 13, 3, .null, 0, 50)),
  (40, (.iload_n 3, 1, .null, 0, 0)),
  (41, (.ifCond .eq 7, 3, .null, 0, 48)),
  (44, (.iconst 1, 1, .int 1, 0, 0)),
  (45, (.goto 4, 3, .null, 0, 49)),
  (48, (.iconst 0, 1, .int 0, 0, 0)),
  (49, (.ireturn, 1, .null, 0, 0)),
  (50, (.iload_n 1, 1, .null, 0, 0)),
  (51, (.iconst 2, 1, .int 2, 0, 0)),
  (52, (.iand, 1, .null, 0, 0)),
  (53, (.ifCond .ne 5, 3, .null, 0, 58)),
  (56, (.iconst 2, 1, .int 2, 0, 0)),
  (57, (.ireturn, 1, .null, 0, 0)),
  (58, (.iload_n 1, 1, .null, 0, 0)),
  (59, (.iconst 4, 1, .int 4, 0, 0)),
  (60, (.iand, 1, .null, 0, 0)),
  (61, (.ifCond .ne 5, 3, .null, 0, 66)),
  (64, (.iconst 3, 1, .int 3, 0, 0)),
  (65, (.ireturn, 1, .null, 0, 0)),
  (66, (.iload_n 1, 1, .null, 0, 0)),
  (67, (.iconst 1, 1, .int 1, 0, 0)),
  (68, (.iand, 1, .null, 0, 0)),
  (69, (.ifCond .ne 5, 3, .null, 0, 74)),
  (72, (.iconst 4, 1, .int 4, 0, 0)),
  (73, (.ireturn, 1, .null, 0, 0)),
  (74, (.iload_n 1, 1, .null, 0, 0)),
  (75, (.bipush 8, 2, .int 8, 0, 0)),
  (77, (.iand, 1, .null, 0, 0)),
  (78, (.ifCond .ne 7, 3, .null, 0, 85)),
  (81, (.iconst 5, 1, .int 5, 0, 0)),
  (82, (.goto 5, 3, .null, 0, 87)),
  (85, (.bipush 6, 2, .int 6, 0, 0)),
  (87, (.ireturn, 1, .null, 0, 0))]
set_option maxRecDepth 100000 in
theorem ckP_orderOf : ab_ckM mP_orderOf kP_orderOf = true := by decide +kernel
set_option maxRecDepth 100000 in
theorem wP_orderOf : ab_MW mP_orderOf 1 1 := ab_mw_ok (i1 := 63) (i2 := 534) (i3 := 535) (by decide +kernel) (ab_t2 (List.mem_of_getElem? (i := 237) rfl))
abbrev mP_obey : ab_Mt := (⟨"BusServo$Power", "obey", "(IZ)Z"⟩, prog_8_method_9_code, 4, (some .boolean))
def kP_obey : ab_Cd := [
  (0, (.aload_n 0, 1, .null, 0, 0)),
  (1, (.getfield 9, 3, .ref 134, 3, 0)),
  (4, (.bipush 7, 2, .int 7, 0, 0)),
  (6, (.if_icmp .ne 7, 3, .null, 0, 13)),
  (9, (.iconst 1, 1, .int 1, 0, 0)),
  (10, (.goto 4, 3, .null, 0, 14)),
  (13, (.iconst 0, 1, .int 0, 0, 0)),
  (14, (.istore_n 3, 1, .null, 0, 0)),
  (15, (.aload_n 0, 1, .null, 0, 0)),
  (16, (.aload_n 0, 1, .null, 0, 0)),
  (17, (.iload_n 1, 1, .null, 0, 0)),
  (18, (.iload_n 2, 1, .null, 0, 0)),
  (19, (.invokevirtual 25, 3, .ref 541, 0, 0)),
  (22, (.putfield 9, 3, .ref 134, 3, 0)),
  (25, (.iload_n 3, 1, .null, 0, 0)),
  (26, (.ifCond .eq 16, 3, .null, 0, 42)),
  (29, (.aload_n 0, 1, .null, 0, 0)),
  (30, (.getfield 9, 3, .ref 134, 3, 0)),
  (33, (.bipush 7, 2, .int 7, 0, 0)),
  (35, (.if_icmp .eq 7, 3, .null, 0, 42)),
  (38, (.iconst 1, 1, .int 1, 0, 0)),
  (39, (.goto 4, 3, .null, 0, 43)),
  (42, (.iconst 0, 1, .int 0, 0, 0)),
  (43, (.ireturn, 1, .null, 0, 0))]
set_option maxRecDepth 100000 in
theorem ckP_obey : ab_ckM mP_obey kP_obey = true := by decide +kernel
set_option maxRecDepth 100000 in
theorem wP_obey : ab_MW mP_obey 1 2 := ab_mw_ok (i1 := 63) (i2 := 538) (i3 := 539) (by decide +kernel) (ab_t3 (List.mem_of_getElem? (i := 1) rfl))
abbrev mP_stateAfter : ab_Mt := (⟨"BusServo$Power", "stateAfter", "(IZ)I"⟩, prog_8_method_10_code, 3, (some .int))
def kP_stateAfter : ab_Cd := [
  (0, (.aload_n 0, 1, .null, 0, 0)),
  (1, (.getfield 9, 3, .ref 134, 3, 0)),
  (4, (.tableswitch 93 1 6 #[40, 51, 56, 61, 66, 81], 40, .null, 0, 0)),
  (44, (.iload_n 1, 1, .null, 0, 0)),
  (45, (.iconst 4, 1, .int 4, 0, 0)),
  (46, (.if_icmp .ne 7, 3, .null, 0, 53)),
  (49, (.iconst 2, 1, .int 2, 0, 0)),
  (50, (.goto 4, 3, .null, 0, 54)),
  (53, (.iconst 1, 1, .int 1, 0, 0)),
  (54, (.ireturn, 1, .null, 0, 0)),
  (55, (.iload_n 1, 1, .null, 0, 0)),
  (56, (.invokestatic 29, 3, .ref 545, 0, 0)),
  (59, (.ireturn, 1, .null, 0, 0)),
  (60, (.iload_n 1, 1, .null, 0, 0)),
  (61, (.invokestatic 33, 3, .ref 548, 0, 0)),
  (64, (.ireturn, 1, .null, 0, 0)),
  (65, (.iload_n 1, 1, .null, 0, 0)),
  (66, (.invokestatic 36, 3, .ref 551, 0, 0)),
  (69, (.ireturn, 1, .null, 0, 0)),
  (70, (.iload_n 1, 1, .null, 0, 0)),
  (71, (.iconst 2, 1, .int 2, 0, 0)),
  (72, (.if_icmp .eq 7, 3, .null, 0, 79)),
  (75, (.iload_n 2, 1, .null, 0, 0)),
  (76, (.ifCond .eq 7, 3, .null, 0, 83)),
  (79, (.iconst 1, 1, .int 1, 0, 0)),
  (80, (.goto 4, 3, .null, 0, 84)),
  (83, (.iconst 5, 1, .int 5, 0, 0)),
  (84, (.ireturn, 1, .null, 0, 0)),
  (85, (.iload_n 2, 1, .null, 0, 0)),
  (86, (.ifCond .eq 8, 3, .null, 0, 94)),
  (89, (.bipush 7, 2, .int 7, 0, 0)),
  (91, (.goto 5, 3, .null, 0, 96)),
  (94, (.bipush 6, 2, .int 6, 0, 0)),
  (96, (.ireturn, 1, .null, 0, 0)),
  (97, (.iload_n 1, 1, .null, 0, 0)),
  (98, (.iconst 1, 1, .int 1, 0, 0)),
  (99, (.if_icmp .ne 7, 3, .null, 0, 106)),
  (102, (.iconst 1, 1, .int 1, 0, 0)),
  (103, (.goto 5, 3, .null, 0, 108)),
  (106, (.bipush 7, 2, .int 7, 0, 0)),
  (108, (.ireturn, 1, .null, 0, 0))]
set_option maxRecDepth 100000 in
theorem ckP_stateAfter : ab_ckM mP_stateAfter kP_stateAfter = true := by decide +kernel
set_option maxRecDepth 100000 in
theorem wP_stateAfter : ab_MW mP_stateAfter 1 2 := ab_mw_ok (i1 := 63) (i2 := 543) (i3 := 24) (by decide +kernel) (ab_t3 (List.mem_of_getElem? (i := 5) rfl))
abbrev mP_afterReady : ab_Mt := (⟨"BusServo$Power", "afterReady", "(I)I"⟩, prog_8_method_11_code, 1, (some .int))
def kP_afterReady : ab_Cd := [
  (0, (.iload_n 0, 1, .null, 0, 0)),
  (1, (.iconst 5, 1, .int 5, 0, 0)),
  (2, (.if_icmp .eq 9, 3, .null, 0, 11)),
  (5, (.iload_n 0, 1, .null, 0, 0)),
  (6, (.bipush 6, 2, .int 6, 0, 0)),
  (8, (.if_icmp .ne 5, 3, .null, 0, 13)),
  (11, (.iconst 3, 1, .int 3, 0, 0)),
  (12, (.ireturn, 1, .null, 0, 0)),
  (13, (.iload_n 0, 1, .null, 0, 0)),
  (14, (.iconst 2, 1, .int 2, 0, 0)),
  (15, (.if_icmp .eq 8, 3, .null, 0, 23)),
  (18, (.iload_n 0, 1, .null, 0, 0)),
  (19, (.iconst 3, 1, .int 3, 0, 0)),
  (20, (.if_icmp .ne 7, 3, .null, 0, 27)),
  (23, (.iconst 1, 1, .int 1, 0, 0)),
  (24, (.goto 4, 3, .null, 0, 28)),
  (27, (.iconst 2, 1, .int 2, 0, 0)),
  (28, (.ireturn, 1, .null, 0, 0))]
set_option maxRecDepth 100000 in
theorem ckP_afterReady : ab_ckM mP_afterReady kP_afterReady = true := by decide +kernel
set_option maxRecDepth 100000 in
theorem wP_afterReady : ab_MW mP_afterReady 0 1 := ab_mw_ok (i1 := 63) (i2 := 546) (i3 := 0) (by decide +kernel) (ab_t3 (List.mem_of_getElem? (i := 8) rfl))
abbrev mP_afterSwitchedOn : ab_Mt := (⟨"BusServo$Power", "afterSwitchedOn", "(I)I"⟩, prog_8_method_12_code, 1, (some .int))
def kP_afterSwitchedOn : ab_Cd := [
  (0, (.iload_n 0, 1, .null, 0, 0)),
  (1, (.tableswitch 41 2 6 #[39, 39, 37, 41, 35], 35, .null, 0, 0)),
  (36, (.iconst 4, 1, .int 4, 0, 0)),
  (37, (.ireturn, 1, .null, 0, 0)),
  (38, (.iconst 2, 1, .int 2, 0, 0)),
  (39, (.ireturn, 1, .null, 0, 0)),
  (40, (.iconst 1, 1, .int 1, 0, 0)),
  (41, (.ireturn, 1, .null, 0, 0)),
  (42, (.iconst 3, 1, .int 3, 0, 0)),
  (43, (.ireturn, 1, .null, 0, 0))]
set_option maxRecDepth 100000 in
theorem ckP_afterSwitchedOn : ab_ckM mP_afterSwitchedOn kP_afterSwitchedOn = true := by decide +kernel
set_option maxRecDepth 100000 in
theorem wP_afterSwitchedOn : ab_MW mP_afterSwitchedOn 0 1 := ab_mw_ok (i1 := 63) (i2 := 549) (i3 := 0) (by decide +kernel) (ab_t3 (List.mem_of_getElem? (i := 11) rfl))
abbrev mP_afterEnabled : ab_Mt := (⟨"BusServo$Power", "afterEnabled", "(I)I"⟩, prog_8_method_13_code, 1, (some .int))
def kP_afterEnabled : ab_Cd := [
  (0, (.iload_n 0, 1, .null, 0, 0)),
  (1, (.tableswitch 39 2 5 #[35, 37, 33, 31], 31, .null, 0, 0)),
  (32, (.iconst 3, 1, .int 3, 0, 0)),
  (33, (.ireturn, 1, .null, 0, 0)),
  (34, (.iconst 2, 1, .int 2, 0, 0)),
  (35, (.ireturn, 1, .null, 0, 0)),
  (36, (.iconst 1, 1, .int 1, 0, 0)),
  (37, (.ireturn, 1, .null, 0, 0)),
  (38, (.iconst 5, 1, .int 5, 0, 0)),
  (39, (.ireturn, 1, .null, 0, 0)),
  (40, (.iconst 4, 1, .int 4, 0, 0)),
  (41, (.ireturn, 1, .null, 0, 0))]
set_option maxRecDepth 100000 in
theorem ckP_afterEnabled : ab_ckM mP_afterEnabled kP_afterEnabled = true := by decide +kernel
set_option maxRecDepth 100000 in
theorem wP_afterEnabled : ab_MW mP_afterEnabled 0 1 := ab_mw_ok (i1 := 63) (i2 := 552) (i3 := 0) (by decide +kernel) (ab_t3 (List.mem_of_getElem? (i := 14) rfl))
abbrev mT_init : ab_Mt := (⟨"BusServo$Store", "<init>", "()V"⟩, prog_9_method_1_code, 1, none)
def kT_init : ab_Cd := [
  (0, (.aload_n 0, 1, .null, 0, 0)),
  (1, (.invokespecial 3, 3, .ref 112, 0, 0)),
  (4, (.aload_n 0, 1, .null, 0, 0)),
  (5, (.iconst 2, 1, .int 2, 0, 0)),
  (6, (.bipush 22, 2, .int 22, 0, 0)),
  (8, (.multianewarray 11 2, 4, .null, 0, 0)),
  (12, (.putfield 13, 3, .ref 115, 2, 0)),
  (15, (.aload_n 0, 1, .null, 0, 0)),
  (16, (.bipush 22, 2, .int 22, 0, 0)),
  (18, (.newarray .int, 2, .null, 0, 0)),
  (20, (.putfield 16, 3, .ref 116, 2, 1)),
  (23, (.aload_n 0, 1, .null, 0, 0)),
  (24, (.iconst (-1), 1, .int (-1), 0, 0)),
  (25, (.putfield 20, 3, .ref 118, 2, 3)),
  (28, (.return_, 1, .null, 0, 0))]
set_option maxRecDepth 100000 in
theorem ckT_init : ab_ckM mT_init kT_init = true := by decide +kernel
set_option maxRecDepth 100000 in
theorem wT_init : ab_MW mT_init 2 0 := ab_mw_ok (i1 := 62) (i2 := 110) (i3 := 0) (by decide +kernel) (ab_t1 (List.mem_of_getElem? (i := 52) rfl))
abbrev mT_wordAt : ab_Mt := (⟨"BusServo$Store", "wordAt", "(II)I"⟩, prog_9_method_2_code, 3, (some .int))
def kT_wordAt : ab_Cd := [
  (0, (.iload_n 1, 1, .null, 0, 0)),
  (1, (.ifCond .lt 18, 3, .null, 0, 19)),
  (4, (.iload_n 1, 1, .null, 0, 0)),
  (5, (.iconst 1, 1, .int 1, 0, 0)),
  (6, (.if_icmp .gt 13, 3, .null, 0, 19)),
  (9, (.iload_n 2, 1, .null, 0, 0)),
  (10, (.ifCond .lt 9, 3, .null, 0, 19)),
  (13, (.iload_n 2, 1, .null, 0, 0)),
  (14, (.bipush 22, 2, .int 22, 0, 0)),
  (16, (.if_icmp .lt 5, 3, .null, 0, 21)),
  (19, (.iconst 0, 1, .int 0, 0, 0)),
  (20, (.ireturn, 1, .null, 0, 0)),
  (21, (.aload_n 0, 1, .null, 0, 0)),
  (22, (.getfield 13, 3, .ref 115, 2, 0)),
  (25, (.iload_n 1, 1, .null, 0, 0)),
  (26, (.aaload, 1, .null, 0, 0)),
  (27, (.iload_n 2, 1, .null, 0, 0)),
  (28, (.iaload, 1, .null, 0, 0)),
  (29, (.ireturn, 1, .null, 0, 0))]
set_option maxRecDepth 100000 in
theorem ckT_wordAt : ab_ckM mT_wordAt kT_wordAt = true := by decide +kernel
set_option maxRecDepth 100000 in
theorem wT_wordAt : ab_MW mT_wordAt 1 2 := ab_mw_ok (i1 := 62) (i2 := 695) (i3 := 696) (by decide +kernel) (ab_t3 (List.mem_of_getElem? (i := 158) rfl))
abbrev mT_isBusy : ab_Mt := (⟨"BusServo$Store", "isBusy", "()Z"⟩, prog_9_method_3_code, 1, (some .boolean))
def kT_isBusy : ab_Cd := [
  (0, (.aload_n 0, 1, .null, 0, 0)),
  (1, (.getfield 20, 3, .ref 118, 2, 3)),
  (4, (.iconst (-1), 1, .int (-1), 0, 0)),
  (5, (.if_icmp .eq 7, 3, .null, 0, 12)),
  (8, (.iconst 1, 1, .int 1, 0, 0)),
  (9, (.goto 4, 3, .null, 0, 13)),
  (12, (.iconst 0, 1, .int 0, 0, 0)),
  (13, (.ireturn, 1, .null, 0, 0))]
set_option maxRecDepth 100000 in
theorem ckT_isBusy : ab_ckM mT_isBusy kT_isBusy = true := by decide +kernel
set_option maxRecDepth 100000 in
theorem wT_isBusy : ab_MW mT_isBusy 1 0 := ab_mw_ok (i1 := 62) (i2 := 442) (i3 := 443) (by decide +kernel) (ab_t2 (List.mem_of_getElem? (i := 145) rfl))
abbrev mT_giveUp : ab_Mt := (⟨"BusServo$Store", "giveUp", "()V"⟩, prog_9_method_4_code, 1, none)
def kT_giveUp : ab_Cd := [
  (0, (.aload_n 0, 1, .null, 0, 0)),
  (1, (.iconst (-1), 1, .int (-1), 0, 0)),
  (2, (.putfield 20, 3, .ref 118, 2, 3)),
  (5, (.return_, 1, .null, 0, 0))]
set_option maxRecDepth 100000 in
theorem ckT_giveUp : ab_ckM mT_giveUp kT_giveUp = true := by decide +kernel
set_option maxRecDepth 100000 in
theorem wT_giveUp : ab_MW mT_giveUp 1 0 := ab_mw_ok (i1 := 62) (i2 := 194) (i3 := 195) (by decide +kernel) (ab_t1 (List.mem_of_getElem? (i := 137) rfl))
abbrev mT_beginSave : ab_Mt := (⟨"BusServo$Store", "beginSave", "([I)V"⟩, prog_9_method_5_code, 3, none)
def kT_beginSave : ab_Cd := [
  (0, (.iconst 1, 1, .int 1, 0, 0)),
  (1, (.istore_n 2, 1, .null, 0, 0)),
  (2, (.iload_n 2, 1, .null, 0, 0)),
  (3, (.bipush 22, 2, .int 22, 0, 0)),
  (5, (.if_icmp .ge 23, 3, .null, 0, 28)),
  (8, (.aload_n 0, 1, .null, 0, 0)),
  (9, (.getfield 16, 3, .ref 116, 2, 1)),
  (12, (.iload_n 2, 1, .null, 0, 0)),
  (13, (.aload_n 1, 1, .null, 0, 0)),
  (14, (.iload_n 2, 1, .null, 0, 0)),
  (15, (.iconst 1, 1, .int 1, 0, 0)),
  (16, (.isub, 1, .null, 0, 0)),
  (17, (.invokestatic 24, 3, .ref 206, 0, 0)),
  (20, (.iaload, 1, .null, 0, 0)),
  (21, (.iastore, 1, .null, 0, 0)),
  (22, (.iinc 2 1, 3, .int 1, 0, 0)),
  (25, (.goto (-23), 3, .null, 0, 2)),
  (28, (.aload_n 0, 1, .null, 0, 0)),
  (29, (.invokevirtual 28, 3, .ref 464, 0, 0)),
  (32, (.return_, 1, .null, 0, 0))]
set_option maxRecDepth 100000 in
theorem ckT_beginSave : ab_ckM mT_beginSave kT_beginSave = true := by decide +kernel
set_option maxRecDepth 100000 in
theorem wT_beginSave : ab_MW mT_beginSave 1 1 := ab_mw_ok (i1 := 62) (i2 := 461) (i3 := 462) (by decide +kernel) (ab_t2 (List.mem_of_getElem? (i := 164) rfl))
abbrev mT_beginRestore : ab_Mt := (⟨"BusServo$Store", "beginRestore", "()V"⟩, prog_9_method_6_code, 2, none)
def kT_beginRestore : ab_Cd := [
  (0, (.iconst 1, 1, .int 1, 0, 0)),
  (1, (.istore_n 1, 1, .null, 0, 0)),
  (2, (.iload_n 1, 1, .null, 0, 0)),
  (3, (.bipush 22, 2, .int 22, 0, 0)),
  (5, (.if_icmp .ge 24, 3, .null, 0, 29)),
  (8, (.aload_n 0, 1, .null, 0, 0)),
  (9, (.getfield 16, 3, .ref 116, 2, 1)),
  (12, (.iload_n 1, 1, .null, 0, 0)),
  (13, (.iload_n 1, 1, .null, 0, 0)),
  (14, (.iconst 1, 1, .int 1, 0, 0)),
  (15, (.isub, 1, .null, 0, 0)),
  (16, (.invokestatic 24, 3, .ref 206, 0, 0)),
  (19, (.invokestatic 31, 3, .ref 201, 0, 0)),
  (22, (.iastore, 1, .null, 0, 0)),
  (23, (.iinc 1 1, 3, .int 1, 0, 0)),
  (26, (.goto (-24), 3, .null, 0, 2)),
  (29, (.aload_n 0, 1, .null, 0, 0)),
  (30, (.invokevirtual 28, 3, .ref 464, 0, 0)),
  (33, (.return_, 1, .null, 0, 0))]
set_option maxRecDepth 100000 in
theorem ckT_beginRestore : ab_ckM mT_beginRestore kT_beginRestore = true := by decide +kernel
set_option maxRecDepth 100000 in
theorem wT_beginRestore : ab_MW mT_beginRestore 1 0 := ab_mw_ok (i1 := 62) (i2 := 469) (i3 := 470) (by decide +kernel) (ab_t2 (List.mem_of_getElem? (i := 172) rfl))
abbrev mT_begin : ab_Mt := (⟨"BusServo$Store", "begin", "()V"⟩, prog_9_method_7_code, 1, none)
def kT_begin : ab_Cd := [
  (0, (.aload_n 0, 1, .null, 0, 0)),
  (1, (.aload_n 0, 1, .null, 0, 0)),
  (2, (.getfield 13, 3, .ref 115, 2, 0)),
  (5, (.iconst 1, 1, .int 1, 0, 0)),
  (6, (.aaload, 1, .null, 1, 0)),
  (7, (.iconst 0, 1, .int 0, 0, 0)),
  (8, (.iaload, 1, .null, 1, 0)),
  (9, (.aload_n 0, 1, .null, 0, 0)),
  (10, (.getfield 13, 3, .ref 115, 2, 0)),
  (13, (.iconst 0, 1, .int 0, 0, 0)),
  (14, (.aaload, 1, .null, 1, 0)),
  (15, (.iconst 0, 1, .int 0, 0, 0)),
  (16, (.iaload, 1, .null, 1, 0)),
  (17, (.if_icmp .ge 7, 3, .null, 0, 24)),
  (20, (.iconst 1, 1, .int 1, 0, 0)),
  (21, (.goto 4, 3, .null, 0, 25)),
  (24, (.iconst 0, 1, .int 0, 0, 0)),
  (25, (.putfield 34, 3, .ref 117, 2, 2)),
  (28, (.aload_n 0, 1, .null, 0, 0)),
  (29, (.iconst 0, 1, .int 0, 0, 0)),
  (30, (.putfield 20, 3, .ref 118, 2, 3)),
  (33, (.return_, 1, .null, 0, 0))]
set_option maxRecDepth 100000 in
theorem ckT_begin : ab_ckM mT_begin kT_begin = true := by decide +kernel
set_option maxRecDepth 100000 in
theorem wT_begin : ab_MW mT_begin 1 0 := ab_mw_ok (i1 := 62) (i2 := 466) (i3 := 16) (by decide +kernel) (ab_t2 (List.mem_of_getElem? (i := 168) rfl))
abbrev mT_goOn : ab_Mt := (⟨"BusServo$Store", "goOn", "()V"⟩, prog_9_method_8_code, 1, none)
def kT_goOn : ab_Cd := [
  (0, (.aload_n 0, 1, .null, 0, 0)),
  (1, (.getfield 20, 3, .ref 118, 2, 3)),
  (4, (.iconst (-1), 1, .int (-1), 0, 0)),
  (5, (.if_icmp .ne 4, 3, .null, 0, 9)),
  (8, (.return_, 1, .null, 0, 0)),
  (9, (.aload_n 0, 1, .null, 0, 0)),
  (10, (.getfield 20, 3, .ref 118, 2, 3)),
  (13, (.bipush 22, 2, .int 22, 0, 0)),
  (15, (.if_icmp .ne 35, 3, .null, 0, 50)),
  (18, (.aload_n 0, 1, .null, 0, 0)),
  (19, (.getfield 13, 3, .ref 115, 2, 0)),
  (22, (.aload_n 0, 1, .null, 0, 0)),
  (23, (.getfield 34, 3, .ref 117, 2, 2)),
  (26, (.aaload, 1, .null, 0, 0)),
  (27, (.iconst 0, 1, .int 0, 0, 0)),
  (28, (.aload_n 0, 1, .null, 0, 0)),
  (29, (.getfield 13, 3, .ref 115, 2, 0)),
  (32, (.iconst 1, 1, .int 1, 0, 0)),
  (33, (.aload_n 0, 1, .null, 0, 0)),
  (34, (.getfield 34, 3, .ref 117, 2, 2)),
  (37, (.isub, 1, .null, 0, 0)),
  (38, (.aaload, 1, .null, 0, 0)),
  (39, (.iconst 0, 1, .int 0, 0, 0)),
  (40, (.iaload, 1, .null, 1, 0)),
  (41, (.iconst 1, 1, .int 1, 0, 0)),
  (42, (.iadd, 1, .null, 0, 0)),
  (43, (.iastore, 1, .null, 1, 0)),
  (44, (.aload_n 0, 1, .null, 0, 0)),
  (45, (.iconst (-1), 1, .int (-1), 0, 0)),
  (46, (.putfield 20, 3, .ref 118, 2, 3)),
  (49, (.return_, 1, .null, 0, 0)),
  (50, (.aload_n 0, 1, .null, 0, 0)),
  (51, (.getfield 13, 3, .ref 115, 2, 0)),
  (54, (.aload_n 0, 1, .null, 0, 0)),
  (55, (.getfield 34, 3, .ref 117, 2, 2)),
  (58, (.aaload, 1, .null, 0, 0)),
  (59, (.aload_n 0, 1, .null, 0, 0)),
  (60, (.getfield 20, 3, .ref 118, 2, 3)),
  (63, (.aload_n 0, 1, .null, 0, 0)),
  (64, (.getfield 20, 3, .ref 118, 2, 3)),
  (67, (.ifCond .ne 7, 3, .null, 0, 74)),
  (70, (.iconst 0, 1, .int 0, 0, 0)),
  (71, (.goto 12, 3, .null, 0, 83)),
  (74, (.aload_n 0, 1, .null, 0, 0)),
  (75, (.getfield 16, 3, .ref 116, 2, 1)),
  (78, (.aload_n 0, 1, .null, 0, 0)),
  (79, (.getfield 20, 3, .ref 118, 2, 3)),
  (82, (.iaload, 1, .null, 0, 0)),
  (83, (.iastore, 1, .null, 0, 0)),
  (84, (.aload_n 0, 1, .null, 0, 0)),
  (85, (.dup, 1, .null, 0, 0)),
  (86, (.getfield 20, 3, .ref 118, 2, 3)),
  (89, (.iconst 1, 1, .int 1, 0, 0)),
  (90, (.iadd, 1, .null, 0, 0)),
  (91, (.putfield 20, 3, .ref 118, 2, 3)),
  (94, (.return_, 1, .null, 0, 0))]
set_option maxRecDepth 100000 in
theorem ckT_goOn : ab_ckM mT_goOn kT_goOn = true := by decide +kernel
set_option maxRecDepth 100000 in
theorem wT_goOn : ab_MW mT_goOn 1 0 := ab_mw_ok (i1 := 62) (i2 := 495) (i3 := 496) (by decide +kernel) (ab_t2 (List.mem_of_getElem? (i := 198) rfl))
abbrev mT_load : ab_Mt := (⟨"BusServo$Store", "load", "([I)V"⟩, prog_9_method_9_code, 4, none)
def kT_load : ab_Cd := [
  (0, (.iconst 0, 1, .int 0, 0, 0)),
  (1, (.istore_n 2, 1, .null, 0, 0)),
  (2, (.iload_n 2, 1, .null, 0, 0)),
  (3, (.bipush 30, 2, .int 30, 0, 0)),
  (5, (.if_icmp .ge 16, 3, .null, 0, 21)),
  (8, (.aload_n 1, 1, .null, 0, 0)),
  (9, (.iload_n 2, 1, .null, 0, 0)),
  (10, (.iload_n 2, 1, .null, 0, 0)),
  (11, (.invokestatic 31, 3, .ref 201, 0, 0)),
  (14, (.iastore, 1, .null, 0, 0)),
  (15, (.iinc 2 1, 3, .int 1, 0, 0)),
  (18, (.goto (-16), 3, .null, 0, 2)),
  (21, (.aload_n 0, 1, .null, 0, 0)),
  (22, (.getfield 13, 3, .ref 115, 2, 0)),
  (25, (.iconst 1, 1, .int 1, 0, 0)),
  (26, (.aaload, 1, .null, 1, 0)),
  (27, (.iconst 0, 1, .int 0, 0, 0)),
  (28, (.iaload, 1, .null, 1, 0)),
  (29, (.aload_n 0, 1, .null, 0, 0)),
  (30, (.getfield 13, 3, .ref 115, 2, 0)),
  (33, (.iconst 0, 1, .int 0, 0, 0)),
  (34, (.aaload, 1, .null, 1, 0)),
  (35, (.iconst 0, 1, .int 0, 0, 0)),
  (36, (.iaload, 1, .null, 1, 0)),
  (37, (.if_icmp .le 7, 3, .null, 0, 44)),
  (40, (.iconst 1, 1, .int 1, 0, 0)),
  (41, (.goto 4, 3, .null, 0, 45)),
  (44, (.iconst 0, 1, .int 0, 0, 0)),
  (45, (.istore_n 2, 1, .null, 0, 0)),
  (46, (.aload_n 0, 1, .null, 0, 0)),
  (47, (.getfield 13, 3, .ref 115, 2, 0)),
  (50, (.iload_n 2, 1, .null, 0, 0)),
  (51, (.aaload, 1, .null, 0, 0)),
  (52, (.iconst 0, 1, .int 0, 0, 0)),
  (53, (.iaload, 1, .null, 1, 0)),
  (54, (.ifCond .ne 4, 3, .null, 0, 58)),
  (57, (.return_, 1, .null, 0, 0)),
  (58, (.iconst 1, 1, .int 1, 0, 0)),
  (59, (.istore_n 3, 1, .null, 0, 0)),
  (60, (.iload_n 3, 1, .null, 0, 0)),
  (61, (.bipush 22, 2, .int 22, 0, 0)),
  (63, (.if_icmp .ge 25, 3, .null, 0, 88)),
  (66, (.aload_n 1, 1, .null, 0, 0)),
  (67, (.iload_n 3, 1, .null, 0, 0)),
  (68, (.iconst 1, 1, .int 1, 0, 0)),
  (69, (.isub, 1, .null, 0, 0)),
  (70, (.invokestatic 24, 3, .ref 206, 0, 0)),
  (73, (.aload_n 0, 1, .null, 0, 0)),
  (74, (.getfield 13, 3, .ref 115, 2, 0)),
  (77, (.iload_n 2, 1, .null, 0, 0)),
  (78, (.aaload, 1, .null, 0, 0)),
  (79, (.iload_n 3, 1, .null, 0, 0)),
  (80, (.iaload, 1, .null, 0, 0)),
  (81, (.iastore, 1, .null, 0, 0)),
  (82, (.iinc 3 1, 3, .int 1, 0, 0)),
  (85, (.goto (-25), 3, .null, 0, 60)),
  (88, (.return_, 1, .null, 0, 0))]
set_option maxRecDepth 100000 in
theorem ckT_load : ab_ckM mT_load kT_load = true := by decide +kernel
set_option maxRecDepth 100000 in
theorem wT_load : ab_MW mT_load 1 1 := ab_mw_ok (i1 := 62) (i2 := 198) (i3 := 199) (by decide +kernel) (ab_t1 (List.mem_of_getElem? (i := 141) rfl))
abbrev mH_init : ab_Mt := (⟨"BusServo$Watch", "<init>", "()V"⟩, prog_10_method_1_code, 1, none)
def kH_init : ab_Cd := [
  (0, (.aload_n 0, 1, .null, 0, 0)),
  (1, (.invokespecial 1, 3, .ref 159, 0, 0)),
  (4, (.return_, 1, .null, 0, 0))]
set_option maxRecDepth 100000 in
theorem ckH_init : ab_ckM mH_init kH_init = true := by decide +kernel
set_option maxRecDepth 100000 in
theorem wH_init : ab_MW mH_init 2 0 := ab_mw_ok (i1 := 65) (i2 := 157) (i3 := 0) (by decide +kernel) (ab_t1 (List.mem_of_getElem? (i := 99) rfl))
abbrev mH_arm : ab_Mt := (⟨"BusServo$Watch", "arm", "()V"⟩, prog_10_method_2_code, 1, none)
def kH_arm : ab_Cd := [
  (0, (.aload_n 0, 1, .null, 0, 0)),
  (1, (.iconst 1, 1, .int 1, 0, 0)),
  (2, (.putfield 7, 3, .ref 160, 5, 0)),
  (5, (.aload_n 0, 1, .null, 0, 0)),
  (6, (.iconst 0, 1, .int 0, 0, 0)),
  (7, (.putfield 13, 3, .ref 161, 5, 1)),
  (10, (.return_, 1, .null, 0, 0))]
set_option maxRecDepth 100000 in
theorem ckH_arm : ab_ckM mH_arm kH_arm = true := by decide +kernel
set_option maxRecDepth 100000 in
theorem wH_arm : ab_MW mH_arm 1 0 := ab_mw_ok (i1 := 65) (i2 := 481) (i3 := 482) (by decide +kernel) (ab_t2 (List.mem_of_getElem? (i := 184) rfl))
abbrev mH_disarm : ab_Mt := (⟨"BusServo$Watch", "disarm", "()V"⟩, prog_10_method_3_code, 1, none)
def kH_disarm : ab_Cd := [
  (0, (.aload_n 0, 1, .null, 0, 0)),
  (1, (.iconst 0, 1, .int 0, 0, 0)),
  (2, (.putfield 7, 3, .ref 160, 5, 0)),
  (5, (.return_, 1, .null, 0, 0))]
set_option maxRecDepth 100000 in
theorem ckH_disarm : ab_ckM mH_disarm kH_disarm = true := by decide +kernel
set_option maxRecDepth 100000 in
theorem wH_disarm : ab_MW mH_disarm 1 0 := ab_mw_ok (i1 := 65) (i2 := 220) (i3 := 221) (by decide +kernel) (ab_t1 (List.mem_of_getElem? (i := 163) rfl))
abbrev mH_runsOut : ab_Mt := (⟨"BusServo$Watch", "runsOut", "(I)Z"⟩, prog_10_method_4_code, 2, (some .boolean))
def kH_runsOut : ab_Cd := [
  (0, (.aload_n 0, 1, .null, 0, 0)),
  (1, (.getfield 7, 3, .ref 160, 5, 0)),
  (4, (.ifCond .ne 5, 3, .null, 0, 9)),
  (7, (.iconst 0, 1, .int 0, 0, 0)),
  (8, (.ireturn, 1, .null, 0, 0)),
  (9, (.aload_n 0, 1, .null, 0, 0)),
  (10, (.dup, 1, .null, 0, 0)),
  (11, (.getfield 13, 3, .ref 161, 5, 1)),
  (14, (.iconst 1, 1, .int 1, 0, 0)),
  (15, (.iadd, 1, .null, 0, 0)),
  (16, (.putfield 13, 3, .ref 161, 5, 1)),
  (19, (.aload_n 0, 1, .null, 0, 0)),
  (20, (.getfield 13, 3, .ref 161, 5, 1)),
  (23, (.iload_n 1, 1, .null, 0, 0)),
  (24, (.if_icmp .ge 5, 3, .null, 0, 29)),
  (27, (.iconst 0, 1, .int 0, 0, 0)),
  (28, (.ireturn, 1, .null, 0, 0)),
  (29, (.aload_n 0, 1, .null, 0, 0)),
  (30, (.invokevirtual 17, 3, .ref 506, 0, 0)),
  (33, (.iconst 1, 1, .int 1, 0, 0)),
  (34, (.ireturn, 1, .null, 0, 0))]
set_option maxRecDepth 100000 in
theorem ckH_runsOut : ab_ckM mH_runsOut kH_runsOut = true := by decide +kernel
set_option maxRecDepth 100000 in
theorem wH_runsOut : ab_MW mH_runsOut 1 1 := ab_mw_ok (i1 := 65) (i2 := 503) (i3 := 504) (by decide +kernel) (ab_t2 (List.mem_of_getElem? (i := 206) rfl))
end
section
/-! methods and their code, by program -/
abbrev mS_init : ab_Mt := (⟨"BusServo", "<init>", "(I)V"⟩, prog_1_method_1_code, 3, none)
def kS_init : ab_Cd := [
  (0, (.aload_n 0, 1, .null, 0, 0)),
  (1, (.invokespecial 1, 3, .ref 77, 0, 0)),
  (4, (.aload_n 0, 1, .null, 0, 0)),
  (5, (.iload_n 1, 1, .null, 0, 0)),
  (6, (.iconst 1, 1, .int 1, 0, 0)),
  (7, (.if_icmp .lt 13, 3, .null, 0, 20)),
  (10, (.iload_n 1, 1, .null, 0, 0)),
  (11, (.bipush 127, 2, .int 127, 0, 0)),
  (13, (.if_icmp .gt 7, 3, .null, 0, 20)),
  (16, (.iload_n 1, 1, .null, 0, 0)),
  (17, (.goto 4, 3, .null, 0, 21)),
  (20, (.iconst 1, 1, .int 1, 0, 0)),
  (21, (.putfield 9, 3, .ref 239, 0, 0)),
  (24, (.bipush 30, 2, .int 30, 0, 0)),
  (26, (.newarray .int, 2, .null, 0, 0)),
  (28, (.astore_n 2, 1, .null, 0, 0)),
  (29, (.aload_n 0, 1, .null, 0, 0)),
  (30, (.aload_n 2, 1, .null, 0, 0)),
  (31, (.putfield 15, 3, .ref 240, 0, 1)),
  (34, (.aload_n 0, 1, .null, 0, 0)),
  (35, (.new 19, 3, .null, 1, 0)),
  (38, (.dup, 1, .null, 0, 0)),
  (39, (.invokespecial 21, 3, .ref 82, 1, 0)),
  (42, (.putfield 22, 3, .ref 241, 0, 2)),
  (45, (.aload_n 0, 1, .null, 0, 0)),
  (46, (.new 26, 3, .null, 2, 0)),
  (49, (.dup, 1, .null, 0, 0)),
  (50, (.invokespecial 28, 3, .ref 109, 1, 0)),
  (53, (.putfield 29, 3, .ref 242, 0, 3)),
  (56, (.aload_n 0, 1, .null, 0, 0)),
  (57, (.new 33, 3, .null, 3, 0)),
  (60, (.dup, 1, .null, 0, 0)),
  (61, (.invokespecial 35, 3, .ref 130, 1, 0)),
  (64, (.putfield 36, 3, .ref 243, 0, 4)),
  (67, (.aload_n 0, 1, .null, 0, 0)),
  (68, (.new 40, 3, .null, 4, 0)),
  (71, (.dup, 1, .null, 0, 0)),
  (72, (.aload_n 2, 1, .null, 0, 0)),
  (73, (.invokespecial 42, 3, .ref 143, 0, 0)),
  (76, (.putfield 45, 3, .ref 244, 0, 5)),
  (79, (.aload_n 0, 1, .null, 0, 0)),
  (80, (.new 49, 3, .null, 5, 0)),
  (83, (.dup, 1, .null, 0, 0)),
  (84, (.invokespecial 51, 3, .ref 156, 1, 0)),
  (87, (.putfield 52, 3, .ref 245, 0, 6)),
  (90, (.aload_n 0, 1, .null, 0, 0)),
  (91, (.new 56, 3, .null, 6, 0)),
  (94, (.dup, 1, .null, 0, 0)),
  (95, (.invokespecial 58, 3, .ref 169, 1, 0)),
  (98, (.putfield 59, 3, .ref 246, 0, 7)),
  (101, (.aload_n 0, 1, .null, 0, 0)),
  (102, (.invokevirtual 63, 3, .ref 189, 0, 0)),
  (105, (.return_, 1, .null, 0, 0))]
set_option maxRecDepth 100000 in
theorem ckS_init : ab_ckM mS_init kS_init = true := by decide +kernel
set_option maxRecDepth 100000 in
theorem wS_init : ab_MW mS_init 2 1 := ab_mw_ok (i1 := 60) (i2 := 75) (i3 := 0) (by decide +kernel) (ab_t1 (List.mem_of_getElem? (i := 17) rfl))
abbrev mS_receive : ab_Mt := (⟨"BusServo", "receive", "(IIJ)I"⟩, prog_1_method_2_code, 5, (some .int))
def kS_receive : ab_Cd := [
  (0, (.iload_n 1, 1, .null, 0, 0)),
  (1, (.ifCond .lt 20, 3, .null, 0, 21)),
  (4, (.iload_n 1, 1, .null, 0, 0)),
  (5, (.sipush 2047, 3, .int 2047, 0, 0)),
  (8, (.if_icmp .gt 13, 3, .null, 0, 21)),
  (11, (.iload_n 2, 1, .null, 0, 0)),
  (12, (.ifCond .lt 9, 3, .null, 0, 21)),
  (15, (.iload_n 2, 1, .null, 0, 0)),
  (16, (.bipush 8, 2, .int 8, 0, 0)),
  (18, (.if_icmp .le 5, 3, .null, 0, 23)),
  (21, (.iconst (-1), 1, .int (-1), 0, 0)),
  (22, (.ireturn, 1, .null, 0, 0)),
  (23, (.aload_n 0, 1, .null, 0, 0)),
  (24, (.getfield 22, 3, .ref 241, 0, 2)),
  (27, (.invokevirtual 66, 3, .ref 274, 0, 0)),
  (30, (.ifCond .ne 5, 3, .null, 0, 35)),
  (33, (.iconst 0, 1, .int 0, 0, 0)),
  (34, (.ireturn, 1, .null, 0, 0)),
  (35, (.iload_n 1, 1, .null, 0, 0)),
  (36, (.ifCond .ne 10, 3, .null, 0, 46)),
  (39, (.aload_n 0, 1, .null, 0, 0)),
  (40, (.iload_n 2, 1, .null, 0, 0)),
  (41, (.lload_n 3, 1, .null, 0, 0)),
  (42, (.invokevirtual 70, 3, .ref 278, 0, 0)),
  (45, (.ireturn, 1, .null, 0, 0)),
  (46, (.iload_n 1, 1, .null, 0, 0)),
  (47, (.sipush 128, 3, .int 128, 0, 0)),
  (50, (.if_icmp .ne 8, 3, .null, 0, 58)),
  (53, (.aload_n 0, 1, .null, 0, 0)),
  (54, (.invokevirtual 74, 3, .ref 290, 0, 0)),
  (57, (.ireturn, 1, .null, 0, 0)),
  (58, (.iload_n 1, 1, .null, 0, 0)),
  (59, (.sipush 512, 3, .int 512, 0, 0)),
  (62, (.aload_n 0, 1, .null, 0, 0)),
  (63, (.getfield 9, 3, .ref 239, 0, 0)),
  (66, (.iadd, 1, .null, 0, 0)),
  (67, (.if_icmp .ne 10, 3, .null, 0, 77)),
  (70, (.aload_n 0, 1, .null, 0, 0)),
  (71, (.iload_n 2, 1, .null, 0, 0)),
  (72, (.lload_n 3, 1, .null, 0, 0)),
  (73, (.invokevirtual 78, 3, .ref 351, 0, 0)),
  (76, (.ireturn, 1, .null, 0, 0)),
  (77, (.iload_n 1, 1, .null, 0, 0)),
  (78, (.sipush 1536, 3, .int 1536, 0, 0)),
  (81, (.aload_n 0, 1, .null, 0, 0)),
  (82, (.getfield 9, 3, .ref 239, 0, 0)),
  (85, (.iadd, 1, .null, 0, 0)),
  (86, (.if_icmp .ne 10, 3, .null, 0, 96)),
  (89, (.aload_n 0, 1, .null, 0, 0)),
  (90, (.iload_n 2, 1, .null, 0, 0)),
  (91, (.lload_n 3, 1, .null, 0, 0)),
  (92, (.invokevirtual 81, 3, .ref 373, 0, 0)),
  (95, (.ireturn, 1, .null, 0, 0)),
  (96, (.aload_n 0, 1, .null, 0, 0)),
  (97, (.iload_n 1, 1, .null, 0, 0)),
  (98, (.sipush 1792, 3, .int 1792, 0, 0)),
  (101, (.isub, 1, .null, 0, 0)),
  (102, (.iload_n 2, 1, .null, 0, 0)),
  (103, (.invokevirtual 84, 3, .ref 472, 0, 0)),
  (106, (.ireturn, 1, .null, 0, 0))]
set_option maxRecDepth 100000 in
theorem ckS_receive : ab_ckM mS_receive kS_receive = true := by decide +kernel
set_option maxRecDepth 100000 in
theorem wS_receive : ab_MW mS_receive 1 3 := ab_mw_ok (i1 := 60) (i2 := 271) (i3 := 272) (by decide +kernel) (ab_t1 (List.mem_of_getElem? (i := 214) rfl))
abbrev mS_tick : ab_Mt := (⟨"BusServo", "tick", "(I)Z"⟩, prog_1_method_3_code, 2, (some .boolean))
def kS_tick : ab_Cd := [
  (0, (.iload_n 1, 1, .null, 0, 0)),
  (1, (.ldc 88, 2, .int (-1000000), 0, 488)),
  (3, (.if_icmp .lt 9, 3, .null, 0, 12)),
  (6, (.iload_n 1, 1, .null, 0, 0)),
  (7, (.ldc 89, 2, .int 1000000, 0, 489)),
  (9, (.if_icmp .le 5, 3, .null, 0, 14)),
  (12, (.iconst 0, 1, .int 0, 0, 0)),
  (13, (.ireturn, 1, .null, 0, 0)),
  (14, (.aload_n 0, 1, .null, 0, 0)),
  (15, (.iload_n 1, 1, .null, 0, 0)),
  (16, (.invokevirtual 90, 3, .ref 490, 0, 0)),
  (19, (.iconst 1, 1, .int 1, 0, 0)),
  (20, (.ireturn, 1, .null, 0, 0))]
set_option maxRecDepth 100000 in
theorem ckS_tick : ab_ckM mS_tick kS_tick = true := by decide +kernel
set_option maxRecDepth 100000 in
theorem wS_tick : ab_MW mS_tick 1 1 := ab_mw_ok (i1 := 60) (i2 := 485) (i3 := 486) (by decide +kernel) (ab_t2 (List.mem_of_getElem? (i := 188) rfl))
abbrev mS_run : ab_Mt := (⟨"BusServo", "run", "(I)I"⟩, prog_1_method_4_code, 4, (some .int))
def kS_run : ab_Cd := [
  (0, (.iload_n 1, 1, .null, 0, 0)),
  (1, (.ifCond .lt 9, 3, .null, 0, 10)),
  (4, (.iload_n 1, 1, .null, 0, 0)),
  (5, (.bipush 100, 2, .int 100, 0, 0)),
  (7, (.if_icmp .le 5, 3, .null, 0, 12)),
  (10, (.iconst (-1), 1, .int (-1), 0, 0)),
  (11, (.ireturn, 1, .null, 0, 0)),
  (12, (.iconst 0, 1, .int 0, 0, 0)),
  (13, (.istore_n 2, 1, .null, 0, 0)),
  (14, (.iconst 0, 1, .int 0, 0, 0)),
  (15, (.istore_n 3, 1, .null, 0, 0)),
  (16, (.iload_n 3, 1, .null, 0, 0)),
  (17, (.iload_n 1, 1, .null, 0, 0)),
  (18, (.if_icmp .ge 33, 3, .null, 0, 51)),
  (21, (.aload_n 0, 1, .null, 0, 0)),
  (22, (.aload_n 0, 1, .null, 0, 0)),
  (23, (.getfield 45, 3, .ref 244, 0, 5)),
  (26, (.invokevirtual 94, 3, .ref 522, 0, 0)),
  (29, (.invokevirtual 90, 3, .ref 490, 0, 0)),
  (32, (.aload_n 0, 1, .null, 0, 0)),
  (33, (.getfield 36, 3, .ref 243, 0, 4)),
  (36, (.invokevirtual 97, 3, .ref 424, 0, 0)),
  (39, (.ifCond .eq 6, 3, .null, 0, 45)),
  (42, (.iinc 2 1, 3, .int 1, 0, 0)),
  (45, (.iinc 3 1, 3, .int 1, 0, 0)),
  (48, (.goto (-32), 3, .null, 0, 16)),
  (51, (.iload_n 2, 1, .null, 0, 0)),
  (52, (.ireturn, 1, .null, 0, 0))]
set_option maxRecDepth 100000 in
theorem ckS_run : ab_ckM mS_run kS_run = true := by decide +kernel
set_option maxRecDepth 100000 in
theorem wS_run : ab_MW mS_run 1 1 := ab_mw_ok (i1 := 60) (i2 := 606) (i3 := 607) (by decide +kernel) (ab_t3 (List.mem_of_getElem? (i := 69) rfl))
abbrev mS_bus : ab_Mt := (⟨"BusServo", "bus", "(Z)V"⟩, prog_1_method_5_code, 2, none)
def kS_bus : ab_Cd := [
  (0, (.iload_n 1, 1, .null, 0, 0)),
  (1, (.aload_n 0, 1, .null, 0, 0)),
  (2, (.getfield 22, 3, .ref 241, 0, 2)),
  (5, (.invokevirtual 66, 3, .ref 274, 0, 0)),
  (8, (.if_icmp .ne 4, 3, .null, 0, 12)),
  (11, (.return_, 1, .null, 0, 0)),
  (12, (.aload_n 0, 1, .null, 0, 0)),
  (13, (.getfield 22, 3, .ref 241, 0, 2)),
  (16, (.iload_n 1, 1, .null, 0, 0)),
  (17, (.invokevirtual 100, 3, .ref 227, 0, 0)),
  (20, (.iload_n 1, 1, .null, 0, 0)),
  (21, (.ifCond .ne 16, 3, .null, 0, 37)),
  (24, (.aload_n 0, 1, .null, 0, 0)),
  (25, (.getfield 22, 3, .ref 241, 0, 2)),
  (28, (.invokevirtual 104, 3, .ref 231, 0, 0)),
  (31, (.aload_n 0, 1, .null, 0, 0)),
  (32, (.ldc 107, 2, .int 33088, 0, 613)),
  (34, (.invokevirtual 108, 3, .ref 508, 0, 0)),
  (37, (.return_, 1, .null, 0, 0))]
set_option maxRecDepth 100000 in
theorem ckS_bus : ab_ckM mS_bus kS_bus = true := by decide +kernel
set_option maxRecDepth 100000 in
theorem wS_bus : ab_MW mS_bus 1 1 := ab_mw_ok (i1 := 60) (i2 := 610) (i3 := 611) (by decide +kernel) (ab_t3 (List.mem_of_getElem? (i := 73) rfl))
abbrev mS_restart : ab_Mt := (⟨"BusServo", "restart", "()V"⟩, prog_1_method_6_code, 1, none)
def kS_restart : ab_Cd := [
  (0, (.aload_n 0, 1, .null, 0, 0)),
  (1, (.invokevirtual 63, 3, .ref 189, 0, 0)),
  (4, (.return_, 1, .null, 0, 0))]
set_option maxRecDepth 100000 in
theorem ckS_restart : ab_ckM mS_restart kS_restart = true := by decide +kernel
set_option maxRecDepth 100000 in
theorem wS_restart : ab_MW mS_restart 1 0 := ab_mw_ok (i1 := 60) (i2 := 615) (i3 := 616) (by decide +kernel) (ab_t3 (List.mem_of_getElem? (i := 78) rfl))
abbrev mS_nextIdentifier : ab_Mt := (⟨"BusServo", "nextIdentifier", "()I"⟩, prog_1_method_7_code, 1, (some .int))
def kS_nextIdentifier : ab_Cd := [
  (0, (.aload_n 0, 1, .null, 0, 0)),
  (1, (.getfield 22, 3, .ref 241, 0, 2)),
  (4, (.invokevirtual 111, 3, .ref 622, 0, 0)),
  (7, (.ireturn, 1, .null, 0, 0))]
set_option maxRecDepth 100000 in
theorem ckS_nextIdentifier : ab_ckM mS_nextIdentifier kS_nextIdentifier = true := by decide +kernel
set_option maxRecDepth 100000 in
theorem wS_nextIdentifier : ab_MW mS_nextIdentifier 1 0 := ab_mw_ok (i1 := 60) (i2 := 619) (i3 := 620) (by decide +kernel) (ab_t3 (List.mem_of_getElem? (i := 82) rfl))
abbrev mS_nextLength : ab_Mt := (⟨"BusServo", "nextLength", "()I"⟩, prog_1_method_8_code, 1, (some .int))
def kS_nextLength : ab_Cd := [
  (0, (.aload_n 0, 1, .null, 0, 0)),
  (1, (.getfield 22, 3, .ref 241, 0, 2)),
  (4, (.invokevirtual 114, 3, .ref 630, 0, 0)),
  (7, (.ireturn, 1, .null, 0, 0))]
set_option maxRecDepth 100000 in
theorem ckS_nextLength : ab_ckM mS_nextLength kS_nextLength = true := by decide +kernel
set_option maxRecDepth 100000 in
theorem wS_nextLength : ab_MW mS_nextLength 1 0 := ab_mw_ok (i1 := 60) (i2 := 627) (i3 := 628) (by decide +kernel) (ab_t3 (List.mem_of_getElem? (i := 90) rfl))
abbrev mS_nextData : ab_Mt := (⟨"BusServo", "nextData", "()J"⟩, prog_1_method_9_code, 1, (some .long))
def kS_nextData : ab_Cd := [
  (0, (.aload_n 0, 1, .null, 0, 0)),
  (1, (.getfield 22, 3, .ref 241, 0, 2)),
  (4, (.invokevirtual 117, 3, .ref 638, 0, 0)),
  (7, (.lreturn, 1, .null, 0, 0))]
set_option maxRecDepth 100000 in
theorem ckS_nextData : ab_ckM mS_nextData kS_nextData = true := by decide +kernel
set_option maxRecDepth 100000 in
theorem wS_nextData : ab_MW mS_nextData 1 0 := ab_mw_ok (i1 := 60) (i2 := 635) (i3 := 636) (by decide +kernel) (ab_t3 (List.mem_of_getElem? (i := 98) rfl))
abbrev mS_take : ab_Mt := (⟨"BusServo", "take", "()Z"⟩, prog_1_method_10_code, 1, (some .boolean))
def kS_take : ab_Cd := [
  (0, (.aload_n 0, 1, .null, 0, 0)),
  (1, (.getfield 22, 3, .ref 241, 0, 2)),
  (4, (.invokevirtual 121, 3, .ref 646, 0, 0)),
  (7, (.ireturn, 1, .null, 0, 0))]
set_option maxRecDepth 100000 in
theorem ckS_take : ab_ckM mS_take kS_take = true := by decide +kernel
set_option maxRecDepth 100000 in
theorem wS_take : ab_MW mS_take 1 0 := ab_mw_ok (i1 := 60) (i2 := 643) (i3 := 644) (by decide +kernel) (ab_t3 (List.mem_of_getElem? (i := 106) rfl))
abbrev mS_waiting : ab_Mt := (⟨"BusServo", "waiting", "()I"⟩, prog_1_method_11_code, 1, (some .int))
def kS_waiting : ab_Cd := [
  (0, (.aload_n 0, 1, .null, 0, 0)),
  (1, (.getfield 22, 3, .ref 241, 0, 2)),
  (4, (.invokevirtual 124, 3, .ref 654, 0, 0)),
  (7, (.ireturn, 1, .null, 0, 0))]
set_option maxRecDepth 100000 in
theorem ckS_waiting : ab_ckM mS_waiting kS_waiting = true := by decide +kernel
set_option maxRecDepth 100000 in
theorem wS_waiting : ab_MW mS_waiting 1 0 := ab_mw_ok (i1 := 60) (i2 := 651) (i3 := 652) (by decide +kernel) (ab_t3 (List.mem_of_getElem? (i := 114) rfl))
abbrev mS_lost : ab_Mt := (⟨"BusServo", "lost", "()I"⟩, prog_1_method_12_code, 1, (some .int))
def kS_lost : ab_Cd := [
  (0, (.aload_n 0, 1, .null, 0, 0)),
  (1, (.getfield 22, 3, .ref 241, 0, 2)),
  (4, (.invokevirtual 127, 3, .ref 662, 0, 0)),
  (7, (.ireturn, 1, .null, 0, 0))]
set_option maxRecDepth 100000 in
theorem ckS_lost : ab_ckM mS_lost kS_lost = true := by decide +kernel
set_option maxRecDepth 100000 in
theorem wS_lost : ab_MW mS_lost 1 0 := ab_mw_ok (i1 := 60) (i2 := 659) (i3 := 660) (by decide +kernel) (ab_t3 (List.mem_of_getElem? (i := 122) rfl))
abbrev mS_object : ab_Mt := (⟨"BusServo", "object", "(II)I"⟩, prog_1_method_13_code, 4, (some .int))
def kS_object : ab_Cd := [
  (0, (.iload_n 1, 1, .null, 0, 0)),
  (1, (.iload_n 2, 1, .null, 0, 0)),
  (2, (.invokestatic 130, 3, .ref 378, 0, 0)),
  (5, (.istore_n 3, 1, .null, 0, 0)),
  (6, (.iload_n 3, 1, .null, 0, 0)),
  (7, (.iconst (-1), 1, .int (-1), 0, 0)),
  (8, (.if_icmp .eq 11, 3, .null, 0, 19)),
  (11, (.iload_n 3, 1, .null, 0, 0)),
  (12, (.invokestatic 133, 3, .ref 400, 0, 0)),
  (15, (.iconst 1, 1, .int 1, 0, 0)),
  (16, (.if_icmp .ne 5, 3, .null, 0, 21)),
  (19, (.iconst 0, 1, .int 0, 0, 0)),
  (20, (.ireturn, 1, .null, 0, 0)),
  (21, (.aload_n 0, 1, .null, 0, 0)),
  (22, (.invokevirtual 137, 3, .ref 298, 0, 0)),
  (25, (.aload_n 0, 1, .null, 0, 0)),
  (26, (.getfield 15, 3, .ref 240, 0, 1)),
  (29, (.iload_n 3, 1, .null, 0, 0)),
  (30, (.iaload, 1, .null, 0, 0)),
  (31, (.ireturn, 1, .null, 0, 0))]
set_option maxRecDepth 100000 in
theorem ckS_object : ab_ckM mS_object kS_object = true := by decide +kernel
set_option maxRecDepth 100000 in
theorem wS_object : ab_MW mS_object 1 2 := ab_mw_ok (i1 := 60) (i2 := 667) (i3 := 668) (by decide +kernel) (ab_t3 (List.mem_of_getElem? (i := 130) rfl))
abbrev mS_network : ab_Mt := (⟨"BusServo", "network", "()I"⟩, prog_1_method_14_code, 1, (some .int))
def kS_network : ab_Cd := [
  (0, (.aload_n 0, 1, .null, 0, 0)),
  (1, (.getfield 140, 3, .ref 247, 0, 8)),
  (4, (.ireturn, 1, .null, 0, 0))]
set_option maxRecDepth 100000 in
theorem ckS_network : ab_ckM mS_network kS_network = true := by decide +kernel
set_option maxRecDepth 100000 in
theorem wS_network : ab_MW mS_network 1 0 := ab_mw_ok (i1 := 60) (i2 := 671) (i3 := 672) (by decide +kernel) (ab_t3 (List.mem_of_getElem? (i := 134) rfl))
abbrev mS_power : ab_Mt := (⟨"BusServo", "power", "()I"⟩, prog_1_method_15_code, 1, (some .int))
def kS_power : ab_Cd := [
  (0, (.aload_n 0, 1, .null, 0, 0)),
  (1, (.getfield 36, 3, .ref 243, 0, 4)),
  (4, (.invokevirtual 143, 3, .ref 678, 0, 0)),
  (7, (.ireturn, 1, .null, 0, 0))]
set_option maxRecDepth 100000 in
theorem ckS_power : ab_ckM mS_power kS_power = true := by decide +kernel
set_option maxRecDepth 100000 in
theorem wS_power : ab_MW mS_power 1 0 := ab_mw_ok (i1 := 60) (i2 := 675) (i3 := 676) (by decide +kernel) (ab_t3 (List.mem_of_getElem? (i := 138) rfl))
abbrev mS_speed : ab_Mt := (⟨"BusServo", "speed", "()I"⟩, prog_1_method_16_code, 1, (some .int))
def kS_speed : ab_Cd := [
  (0, (.aload_n 0, 1, .null, 0, 0)),
  (1, (.getfield 15, 3, .ref 240, 0, 1)),
  (4, (.bipush 21, 2, .int 21, 0, 0)),
  (6, (.iaload, 1, .null, 1, 0)),
  (7, (.ireturn, 1, .null, 0, 0))]
set_option maxRecDepth 100000 in
theorem ckS_speed : ab_ckM mS_speed kS_speed = true := by decide +kernel
set_option maxRecDepth 100000 in
theorem wS_speed : ab_MW mS_speed 1 0 := ab_mw_ok (i1 := 60) (i2 := 683) (i3 := 684) (by decide +kernel) (ab_t3 (List.mem_of_getElem? (i := 146) rfl))
abbrev mS_position : ab_Mt := (⟨"BusServo", "position", "()I"⟩, prog_1_method_17_code, 1, (some .int))
def kS_position : ab_Cd := [
  (0, (.aload_n 0, 1, .null, 0, 0)),
  (1, (.getfield 45, 3, .ref 244, 0, 5)),
  (4, (.invokevirtual 94, 3, .ref 522, 0, 0)),
  (7, (.ireturn, 1, .null, 0, 0))]
set_option maxRecDepth 100000 in
theorem ckS_position : ab_ckM mS_position kS_position = true := by decide +kernel
set_option maxRecDepth 100000 in
theorem wS_position : ab_MW mS_position 1 0 := ab_mw_ok (i1 := 60) (i2 := 687) (i3 := 688) (by decide +kernel) (ab_t3 (List.mem_of_getElem? (i := 150) rfl))
abbrev mS_word : ab_Mt := (⟨"BusServo", "word", "(II)I"⟩, prog_1_method_18_code, 3, (some .int))
def kS_word : ab_Cd := [
  (0, (.aload_n 0, 1, .null, 0, 0)),
  (1, (.getfield 29, 3, .ref 242, 0, 3)),
  (4, (.iload_n 1, 1, .null, 0, 0)),
  (5, (.iload_n 2, 1, .null, 0, 0)),
  (6, (.invokevirtual 146, 3, .ref 694, 0, 0)),
  (9, (.ireturn, 1, .null, 0, 0))]
set_option maxRecDepth 100000 in
theorem ckS_word : ab_ckM mS_word kS_word = true := by decide +kernel
set_option maxRecDepth 100000 in
theorem wS_word : ab_MW mS_word 1 2 := ab_mw_ok (i1 := 60) (i2 := 691) (i3 := 692) (by decide +kernel) (ab_t3 (List.mem_of_getElem? (i := 154) rfl))
abbrev mS_comeUp : ab_Mt := (⟨"BusServo", "comeUp", "()V"⟩, prog_1_method_19_code, 2, none)
def kS_comeUp : ab_Cd := [
  (0, (.aload_n 0, 1, .null, 0, 0)),
  (1, (.getfield 15, 3, .ref 240, 0, 1)),
  (4, (.bipush 19, 2, .int 19, 0, 0)),
  (6, (.iaload, 1, .null, 1, 0)),
  (7, (.istore_n 1, 1, .null, 0, 0)),
  (8, (.aload_n 0, 1, .null, 0, 0)),
  (9, (.getfield 29, 3, .ref 242, 0, 3)),
  (12, (.invokevirtual 149, 3, .ref 193, 0, 0)),
  (15, (.aload_n 0, 1, .null, 0, 0)),
  (16, (.getfield 29, 3, .ref 242, 0, 3)),
  (19, (.aload_n 0, 1, .null, 0, 0)),
  (20, (.getfield 15, 3, .ref 240, 0, 1)),
  (23, (.invokevirtual 152, 3, .ref 197, 0, 0)),
  (26, (.aload_n 0, 1, .null, 0, 0)),
  (27, (.getfield 15, 3, .ref 240, 0, 1)),
  (30, (.bipush 19, 2, .int 19, 0, 0)),
  (32, (.iload_n 1, 1, .null, 0, 0)),
  (33, (.iastore, 1, .null, 1, 0)),
  (34, (.aload_n 0, 1, .null, 0, 0)),
  (35, (.getfield 45, 3, .ref 244, 0, 5)),
  (38, (.iload_n 1, 1, .null, 0, 0)),
  (39, (.invokevirtual 155, 3, .ref 211, 0, 0)),
  (42, (.aload_n 0, 1, .null, 0, 0)),
  (43, (.getfield 36, 3, .ref 243, 0, 4)),
  (46, (.invokevirtual 158, 3, .ref 215, 0, 0)),
  (49, (.aload_n 0, 1, .null, 0, 0)),
  (50, (.getfield 52, 3, .ref 245, 0, 6)),
  (53, (.invokevirtual 159, 3, .ref 219, 0, 0)),
  (56, (.aload_n 0, 1, .null, 0, 0)),
  (57, (.getfield 59, 3, .ref 246, 0, 7)),
  (60, (.invokevirtual 162, 3, .ref 223, 0, 0)),
  (63, (.aload_n 0, 1, .null, 0, 0)),
  (64, (.bipush 127, 2, .int 127, 0, 0)),
  (66, (.putfield 140, 3, .ref 247, 0, 8)),
  (69, (.aload_n 0, 1, .null, 0, 0)),
  (70, (.iconst 0, 1, .int 0, 0, 0)),
  (71, (.putfield 165, 3, .ref 248, 0, 9)),
  (74, (.aload_n 0, 1, .null, 0, 0)),
  (75, (.getfield 22, 3, .ref 241, 0, 2)),
  (78, (.iconst 1, 1, .int 1, 0, 0)),
  (79, (.invokevirtual 100, 3, .ref 227, 0, 0)),
  (82, (.aload_n 0, 1, .null, 0, 0)),
  (83, (.getfield 22, 3, .ref 241, 0, 2)),
  (86, (.invokevirtual 104, 3, .ref 231, 0, 0)),
  (89, (.aload_n 0, 1, .null, 0, 0)),
  (90, (.getfield 22, 3, .ref 241, 0, 2)),
  (93, (.sipush 1792, 3, .int 1792, 0, 0)),
  (96, (.aload_n 0, 1, .null, 0, 0)),
  (97, (.getfield 9, 3, .ref 239, 0, 0)),
  (100, (.iadd, 1, .null, 0, 0)),
  (101, (.iconst 1, 1, .int 1, 0, 0)),
  (102, (.lconst 0, 1, .long 0, 0, 0)),
  (103, (.invokevirtual 168, 3, .ref 235, 0, 0)),
  (106, (.return_, 1, .null, 0, 0))]
set_option maxRecDepth 100000 in
theorem ckS_comeUp : ab_ckM mS_comeUp kS_comeUp = true := by decide +kernel
set_option maxRecDepth 100000 in
theorem wS_comeUp : ab_MW mS_comeUp 1 0 := ab_mw_ok (i1 := 60) (i2 := 191) (i3 := 0) (by decide +kernel) (ab_t1 (List.mem_of_getElem? (i := 133) rfl))
abbrev mS_acceptNetwork : ab_Mt := (⟨"BusServo", "acceptNetwork", "(IJ)I"⟩, prog_1_method_20_code, 5, (some .int))
def kS_acceptNetwork : ab_Cd := [
  (0, (.lload_n 2, 1, .null, 0, 0)),
  (1, (.bipush 8, 2, .int 8, 0, 0)),
  (3, (.lushr, 1, .null, 0, 0)),
  (4, (.l2i, 1, .null, 0, 0)),
  (5, (.sipush 255, 3, .int 255, 0, 0)),
  (8, (.iand, 1, .null, 0, 0)),
  (9, (.istore 4, 2, .null, 0, 0)),
  (11, (.iload_n 1, 1, .null, 0, 0)),
  (12, (.iconst 2, 1, .int 2, 0, 0)),
  (13, (.if_icmp .ne 17, 3, .null, 0, 30)),
  (16, (.iload 4, 2, .null, 0, 0)),
  (18, (.ifCond .eq 14, 3, .null, 0, 32)),
  (21, (.iload 4, 2, .null, 0, 0)),
  (23, (.aload_n 0, 1, .null, 0, 0)),
  (24, (.getfield 9, 3, .ref 239, 0, 0)),
  (27, (.if_icmp .eq 5, 3, .null, 0, 32)),
  (30, (.iconst 0, 1, .int 0, 0, 0)),
  (31, (.ireturn, 1, .null, 0, 0)),
  (32, (.lload_n 2, 1, .null, 0, 0)),
  (33, (.l2i, 1, .null, 0, 0)),
  (34, (.sipush 255, 3, .int 255, 0, 0)),
  (37, (.iand, 1, .null, 0, 0)),
  (38, (.lookupswitch 69 #[(1, 42), (2, 48), (128, 55), (129, 63)], 42, .null, 0, 0)),
  (80, (.aload_n 0, 1, .null, 0, 0)),
  (81, (.invokevirtual 172, 3, .ref 282, 0, 0)),
  (84, (.iconst 1, 1, .int 1, 0, 0)),
  (85, (.ireturn, 1, .null, 0, 0)),
  (86, (.aload_n 0, 1, .null, 0, 0)),
  (87, (.iconst 4, 1, .int 4, 0, 0)),
  (88, (.putfield 140, 3, .ref 247, 0, 8)),
  (91, (.iconst 1, 1, .int 1, 0, 0)),
  (92, (.ireturn, 1, .null, 0, 0)),
  (93, (.aload_n 0, 1, .null, 0, 0)),
  (94, (.bipush 127, 2, .int 127, 0, 0)),
  (96, (.putfield 140, 3, .ref 247, 0, 8)),
  (99, (.iconst 1, 1, .int 1, 0, 0)),
  (100, (.ireturn, 1, .null, 0, 0)),
  (101, (.aload_n 0, 1, .null, 0, 0)),
  (102, (.invokevirtual 63, 3, .ref 189, 0, 0)),
  (105, (.iconst 1, 1, .int 1, 0, 0)),
  (106, (.ireturn, 1, .null, 0, 0)),
  (107, (.iconst 0, 1, .int 0, 0, 0)),
  (108, (.ireturn, 1, .null, 0, 0))]
set_option maxRecDepth 100000 in
theorem ckS_acceptNetwork : ab_ckM mS_acceptNetwork kS_acceptNetwork = true := by decide +kernel
set_option maxRecDepth 100000 in
theorem wS_acceptNetwork : ab_MW mS_acceptNetwork 1 2 := ab_mw_ok (i1 := 60) (i2 := 280) (i3 := 1) (by decide +kernel) (ab_t1 (List.mem_of_getElem? (i := 222) rfl))
abbrev mS_enterOperating : ab_Mt := (⟨"BusServo", "enterOperating", "()V"⟩, prog_1_method_21_code, 1, none)
def kS_enterOperating : ab_Cd := [
  (0, (.aload_n 0, 1, .null, 0, 0)),
  (1, (.getfield 140, 3, .ref 247, 0, 8)),
  (4, (.iconst 5, 1, .int 5, 0, 0)),
  (5, (.if_icmp .eq 15, 3, .null, 0, 20)),
  (8, (.aload_n 0, 1, .null, 0, 0)),
  (9, (.iconst 5, 1, .int 5, 0, 0)),
  (10, (.putfield 140, 3, .ref 247, 0, 8)),
  (13, (.aload_n 0, 1, .null, 0, 0)),
  (14, (.getfield 59, 3, .ref 246, 0, 7)),
  (17, (.invokevirtual 175, 3, .ref 286, 0, 0)),
  (20, (.return_, 1, .null, 0, 0))]
set_option maxRecDepth 100000 in
theorem ckS_enterOperating : ab_ckM mS_enterOperating kS_enterOperating = true := by decide +kernel
set_option maxRecDepth 100000 in
theorem wS_enterOperating : ab_MW mS_enterOperating 1 0 := ab_mw_ok (i1 := 60) (i2 := 284) (i3 := 2) (by decide +kernel) (ab_t1 (List.mem_of_getElem? (i := 226) rfl))
abbrev mS_acceptSync : ab_Mt := (⟨"BusServo", "acceptSync", "()I"⟩, prog_1_method_22_code, 2, (some .int))
def kS_acceptSync : ab_Cd := [
  (0, (.aload_n 0, 1, .null, 0, 0)),
  (1, (.getfield 140, 3, .ref 247, 0, 8)),
  (4, (.iconst 5, 1, .int 5, 0, 0)),
  (5, (.if_icmp .eq 5, 3, .null, 0, 10)),
  (8, (.iconst 0, 1, .int 0, 0, 0)),
  (9, (.ireturn, 1, .null, 0, 0)),
  (10, (.aload_n 0, 1, .null, 0, 0)),
  (11, (.getfield 15, 3, .ref 240, 0, 1)),
  (14, (.bipush 9, 2, .int 9, 0, 0)),
  (16, (.iaload, 1, .null, 1, 0)),
  (17, (.istore_n 1, 1, .null, 0, 0)),
  (18, (.iload_n 1, 1, .null, 0, 0)),
  (19, (.iconst 1, 1, .int 1, 0, 0)),
  (20, (.if_icmp .lt 55, 3, .null, 0, 75)),
  (23, (.iload_n 1, 1, .null, 0, 0)),
  (24, (.sipush 240, 3, .int 240, 0, 0)),
  (27, (.if_icmp .gt 48, 3, .null, 0, 75)),
  (30, (.aload_n 0, 1, .null, 0, 0)),
  (31, (.getfield 59, 3, .ref 246, 0, 7)),
  (34, (.iload_n 1, 1, .null, 0, 0)),
  (35, (.invokevirtual 178, 3, .ref 294, 0, 0)),
  (38, (.ifCond .eq 37, 3, .null, 0, 75)),
  (41, (.aload_n 0, 1, .null, 0, 0)),
  (42, (.getfield 15, 3, .ref 240, 0, 1)),
  (45, (.bipush 12, 2, .int 12, 0, 0)),
  (47, (.iaload, 1, .null, 1, 0)),
  (48, (.ifCond .le 27, 3, .null, 0, 75)),
  (51, (.aload_n 0, 1, .null, 0, 0)),
  (52, (.invokevirtual 137, 3, .ref 298, 0, 0)),
  (55, (.aload_n 0, 1, .null, 0, 0)),
  (56, (.aload_n 0, 1, .null, 0, 0)),
  (57, (.getfield 15, 3, .ref 240, 0, 1)),
  (60, (.invokestatic 182, 3, .ref 326, 0, 0)),
  (63, (.aload_n 0, 1, .null, 0, 0)),
  (64, (.getfield 15, 3, .ref 240, 0, 1)),
  (67, (.bipush 12, 2, .int 12, 0, 0)),
  (69, (.invokestatic 188, 3, .ref 340, 0, 0)),
  (72, (.invokevirtual 192, 3, .ref 343, 0, 0)),
  (75, (.iconst 2, 1, .int 2, 0, 0)),
  (76, (.ireturn, 1, .null, 0, 0))]
set_option maxRecDepth 100000 in
theorem ckS_acceptSync : ab_ckM mS_acceptSync kS_acceptSync = true := by decide +kernel
set_option maxRecDepth 100000 in
theorem wS_acceptSync : ab_MW mS_acceptSync 1 0 := ab_mw_ok (i1 := 60) (i2 := 292) (i3 := 3) (by decide +kernel) (ab_t1 (List.mem_of_getElem? (i := 234) rfl))
abbrev mS_acceptIn : ab_Mt := (⟨"BusServo", "acceptIn", "(IJ)I"⟩, prog_1_method_23_code, 4, (some .int))
def kS_acceptIn : ab_Cd := [
  (0, (.aload_n 0, 1, .null, 0, 0)),
  (1, (.getfield 140, 3, .ref 247, 0, 8)),
  (4, (.iconst 5, 1, .int 5, 0, 0)),
  (5, (.if_icmp .ne 24, 3, .null, 0, 29)),
  (8, (.aload_n 0, 1, .null, 0, 0)),
  (9, (.getfield 15, 3, .ref 240, 0, 1)),
  (12, (.iconst 5, 1, .int 5, 0, 0)),
  (13, (.iaload, 1, .null, 1, 0)),
  (14, (.ifCond .eq 15, 3, .null, 0, 29)),
  (17, (.iload_n 1, 1, .null, 0, 0)),
  (18, (.aload_n 0, 1, .null, 0, 0)),
  (19, (.getfield 15, 3, .ref 240, 0, 1)),
  (22, (.iconst 5, 1, .int 5, 0, 0)),
  (23, (.invokestatic 188, 3, .ref 340, 0, 0)),
  (26, (.if_icmp .ge 5, 3, .null, 0, 31)),
  (29, (.iconst 0, 1, .int 0, 0, 0)),
  (30, (.ireturn, 1, .null, 0, 0)),
  (31, (.aload_n 0, 1, .null, 0, 0)),
  (32, (.getfield 15, 3, .ref 240, 0, 1)),
  (35, (.lload_n 2, 1, .null, 0, 0)),
  (36, (.invokestatic 196, 3, .ref 355, 0, 0)),
  (39, (.iconst 3, 1, .int 3, 0, 0)),
  (40, (.ireturn, 1, .null, 0, 0))]
set_option maxRecDepth 100000 in
theorem ckS_acceptIn : ab_ckM mS_acceptIn kS_acceptIn = true := by decide +kernel
set_option maxRecDepth 100000 in
theorem wS_acceptIn : ab_MW mS_acceptIn 1 2 := ab_mw_ok (i1 := 60) (i2 := 353) (i3 := 7) (by decide +kernel) (ab_t2 (List.mem_of_getElem? (i := 55) rfl))
abbrev mS_acceptHeartbeat : ab_Mt := (⟨"BusServo", "acceptHeartbeat", "(II)I"⟩, prog_1_method_24_code, 4, (some .int))
def kS_acceptHeartbeat : ab_Cd := [
  (0, (.aload_n 0, 1, .null, 0, 0)),
  (1, (.getfield 15, 3, .ref 240, 0, 1)),
  (4, (.iconst 3, 1, .int 3, 0, 0)),
  (5, (.iaload, 1, .null, 1, 0)),
  (6, (.bipush 16, 2, .int 16, 0, 0)),
  (8, (.ishr, 1, .null, 0, 0)),
  (9, (.istore_n 3, 1, .null, 0, 0)),
  (10, (.iload_n 2, 1, .null, 0, 0)),
  (11, (.iconst 1, 1, .int 1, 0, 0)),
  (12, (.if_icmp .ne 20, 3, .null, 0, 32)),
  (15, (.iload_n 1, 1, .null, 0, 0)),
  (16, (.iconst 1, 1, .int 1, 0, 0)),
  (17, (.if_icmp .lt 15, 3, .null, 0, 32)),
  (20, (.iload_n 1, 1, .null, 0, 0)),
  (21, (.iload_n 3, 1, .null, 0, 0)),
  (22, (.if_icmp .ne 10, 3, .null, 0, 32)),
  (25, (.aload_n 0, 1, .null, 0, 0)),
  (26, (.invokevirtual 200, 3, .ref 476, 0, 0)),
  (29, (.ifCond .ne 5, 3, .null, 0, 34)),
  (32, (.iconst 0, 1, .int 0, 0, 0)),
  (33, (.ireturn, 1, .null, 0, 0)),
  (34, (.aload_n 0, 1, .null, 0, 0)),
  (35, (.getfield 52, 3, .ref 245, 0, 6)),
  (38, (.invokevirtual 203, 3, .ref 480, 0, 0)),
  (41, (.iconst 5, 1, .int 5, 0, 0)),
  (42, (.ireturn, 1, .null, 0, 0))]
set_option maxRecDepth 100000 in
theorem ckS_acceptHeartbeat : ab_ckM mS_acceptHeartbeat kS_acceptHeartbeat = true := by decide +kernel
set_option maxRecDepth 100000 in
theorem wS_acceptHeartbeat : ab_MW mS_acceptHeartbeat 1 2 := ab_mw_ok (i1 := 60) (i2 := 474) (i3 := 17) (by decide +kernel) (ab_t2 (List.mem_of_getElem? (i := 176) rfl))
abbrev mS_watchTime : ab_Mt := (⟨"BusServo", "watchTime", "()I"⟩, prog_1_method_25_code, 1, (some .int))
def kS_watchTime : ab_Cd := [
  (0, (.aload_n 0, 1, .null, 0, 0)),
  (1, (.getfield 15, 3, .ref 240, 0, 1)),
  (4, (.iconst 3, 1, .int 3, 0, 0)),
  (5, (.iaload, 1, .null, 1, 0)),
  (6, (.ldc 206, 2, .int 65535, 0, 377)),
  (8, (.iand, 1, .null, 0, 0)),
  (9, (.ireturn, 1, .null, 0, 0))]
set_option maxRecDepth 100000 in
theorem ckS_watchTime : ab_ckM mS_watchTime kS_watchTime = true := by decide +kernel
set_option maxRecDepth 100000 in
theorem wS_watchTime : ab_MW mS_watchTime 1 0 := ab_mw_ok (i1 := 60) (i2 := 478) (i3 := 18) (by decide +kernel) (ab_t2 (List.mem_of_getElem? (i := 180) rfl))
abbrev mS_acceptChannel : ab_Mt := (⟨"BusServo", "acceptChannel", "(IJ)I"⟩, prog_1_method_26_code, 9, (some .int))
def kS_acceptChannel : ab_Cd := [
  (0, (.iload_n 1, 1, .null, 0, 0)),
  (1, (.bipush 8, 2, .int 8, 0, 0)),
  (3, (.if_icmp .ne 11, 3, .null, 0, 14)),
  (6, (.aload_n 0, 1, .null, 0, 0)),
  (7, (.getfield 140, 3, .ref 247, 0, 8)),
  (10, (.iconst 4, 1, .int 4, 0, 0)),
  (11, (.if_icmp .ne 5, 3, .null, 0, 16)),
  (14, (.iconst 0, 1, .int 0, 0, 0)),
  (15, (.ireturn, 1, .null, 0, 0)),
  (16, (.lload_n 2, 1, .null, 0, 0)),
  (17, (.l2i, 1, .null, 0, 0)),
  (18, (.sipush 255, 3, .int 255, 0, 0)),
  (21, (.iand, 1, .null, 0, 0)),
  (22, (.istore 4, 2, .null, 0, 0)),
  (24, (.iload 4, 2, .null, 0, 0)),
  (26, (.sipush 128, 3, .int 128, 0, 0)),
  (29, (.if_icmp .ne 5, 3, .null, 0, 34)),
  (32, (.iconst 4, 1, .int 4, 0, 0)),
  (33, (.ireturn, 1, .null, 0, 0)),
  (34, (.lload_n 2, 1, .null, 0, 0)),
  (35, (.bipush 8, 2, .int 8, 0, 0)),
  (37, (.lushr, 1, .null, 0, 0)),
  (38, (.l2i, 1, .null, 0, 0)),
  (39, (.ldc 206, 2, .int 65535, 0, 377)),
  (41, (.iand, 1, .null, 0, 0)),
  (42, (.istore 5, 2, .null, 0, 0)),
  (44, (.lload_n 2, 1, .null, 0, 0)),
  (45, (.bipush 24, 2, .int 24, 0, 0)),
  (47, (.lushr, 1, .null, 0, 0)),
  (48, (.l2i, 1, .null, 0, 0)),
  (49, (.sipush 255, 3, .int 255, 0, 0)),
  (52, (.iand, 1, .null, 0, 0)),
  (53, (.istore 6, 2, .null, 0, 0)),
  (55, (.iload 5, 2, .null, 0, 0)),
  (57, (.iload 6, 2, .null, 0, 0)),
  (59, (.invokestatic 130, 3, .ref 378, 0, 0)),
  (62, (.istore 7, 2, .null, 0, 0)),
  (64, (.iload 4, 2, .null, 0, 0)),
  (66, (.iload 5, 2, .null, 0, 0)),
  (68, (.iload 7, 2, .null, 0, 0)),
  (70, (.invokestatic 209, 3, .ref 379, 0, 0)),
  (73, (.istore 8, 2, .null, 0, 0)),
  (75, (.iload 8, 2, .null, 0, 0)),
  (77, (.ifCond .ne 9, 3, .null, 0, 86)),
  (80, (.iload 7, 2, .null, 0, 0)),
  (82, (.iconst (-1), 1, .int (-1), 0, 0)),
  (83, (.if_icmp .ne 16, 3, .null, 0, 99)),
  (86, (.aload_n 0, 1, .null, 0, 0)),
  (87, (.lload_n 2, 1, .null, 0, 0)),
  (88, (.sipush 128, 3, .int 128, 0, 0)),
  (91, (.iload 8, 2, .null, 0, 0)),
  (93, (.invokevirtual 213, 3, .ref 391, 0, 0)),
  (96, (.goto 32, 3, .null, 0, 128)),
  (99, (.iload 4, 2, .null, 0, 0)),
  (101, (.bipush 64, 2, .int 64, 0, 0)),
  (103, (.if_icmp .ne 13, 3, .null, 0, 116)),
  (106, (.aload_n 0, 1, .null, 0, 0)),
  (107, (.lload_n 2, 1, .null, 0, 0)),
  (108, (.iload 7, 2, .null, 0, 0)),
  (110, (.invokevirtual 217, 3, .ref 396, 0, 0)),
  (113, (.goto 15, 3, .null, 0, 128)),
  (116, (.aload_n 0, 1, .null, 0, 0)),
  (117, (.lload_n 2, 1, .null, 0, 0)),
  (118, (.iload 7, 2, .null, 0, 0)),
  (120, (.iload 4, 2, .null, 0, 0)),
  (122, (.invokestatic 220, 3, .ref 408, 0, 0)),
  (125, (.invokevirtual 223, 3, .ref 409, 0, 0)),
  (128, (.iconst 4, 1, .int 4, 0, 0)),
  (129, (.ireturn, 1, .null, 0, 0))]
set_option maxRecDepth 100000 in
theorem ckS_acceptChannel : ab_ckM mS_acceptChannel kS_acceptChannel = true := by decide +kernel
set_option maxRecDepth 100000 in
theorem wS_acceptChannel : ab_MW mS_acceptChannel 1 2 := ab_mw_ok (i1 := 60) (i2 := 375) (i3 := 8) (by decide +kernel) (ab_t2 (List.mem_of_getElem? (i := 77) rfl))
abbrev mS_answerRead : ab_Mt := (⟨"BusServo", "answerRead", "(JI)V"⟩, prog_1_method_27_code, 4, none)
def kS_answerRead : ab_Cd := [
  (0, (.iload_n 3, 1, .null, 0, 0)),
  (1, (.invokestatic 133, 3, .ref 400, 0, 0)),
  (4, (.iconst 1, 1, .int 1, 0, 0)),
  (5, (.if_icmp .ne 14, 3, .null, 0, 19)),
  (8, (.aload_n 0, 1, .null, 0, 0)),
  (9, (.lload_n 1, 1, .null, 0, 0)),
  (10, (.sipush 128, 3, .int 128, 0, 0)),
  (13, (.ldc 226, 2, .int 100728833, 0, 403)),
  (15, (.invokevirtual 213, 3, .ref 391, 0, 0)),
  (18, (.return_, 1, .null, 0, 0)),
  (19, (.aload_n 0, 1, .null, 0, 0)),
  (20, (.invokevirtual 137, 3, .ref 298, 0, 0)),
  (23, (.aload_n 0, 1, .null, 0, 0)),
  (24, (.lload_n 1, 1, .null, 0, 0)),
  (25, (.iload_n 3, 1, .null, 0, 0)),
  (26, (.invokestatic 227, 3, .ref 404, 0, 0)),
  (29, (.invokestatic 230, 3, .ref 405, 0, 0)),
  (32, (.aload_n 0, 1, .null, 0, 0)),
  (33, (.getfield 15, 3, .ref 240, 0, 1)),
  (36, (.iload_n 3, 1, .null, 0, 0)),
  (37, (.iaload, 1, .null, 0, 0)),
  (38, (.invokevirtual 213, 3, .ref 391, 0, 0)),
  (41, (.return_, 1, .null, 0, 0))]
set_option maxRecDepth 100000 in
theorem ckS_answerRead : ab_ckM mS_answerRead kS_answerRead = true := by decide +kernel
set_option maxRecDepth 100000 in
theorem wS_answerRead : ab_MW mS_answerRead 1 2 := ab_mw_ok (i1 := 60) (i2 := 398) (i3 := 10) (by decide +kernel) (ab_t2 (List.mem_of_getElem? (i := 100) rfl))
abbrev mS_answerWrite : ab_Mt := (⟨"BusServo", "answerWrite", "(JII)V"⟩, prog_1_method_28_code, 7, none)
def kS_answerWrite : ab_Cd := [
  (0, (.lload_n 1, 1, .null, 0, 0)),
  (1, (.bipush 32, 2, .int 32, 0, 0)),
  (3, (.lushr, 1, .null, 0, 0)),
  (4, (.iload 4, 2, .null, 0, 0)),
  (6, (.invokestatic 233, 3, .ref 413, 0, 0)),
  (9, (.istore 5, 2, .null, 0, 0)),
  (11, (.aload_n 0, 1, .null, 0, 0)),
  (12, (.iload_n 3, 1, .null, 0, 0)),
  (13, (.iload 4, 2, .null, 0, 0)),
  (15, (.iload 5, 2, .null, 0, 0)),
  (17, (.invokevirtual 237, 3, .ref 414, 0, 0)),
  (20, (.istore 6, 2, .null, 0, 0)),
  (22, (.iload 6, 2, .null, 0, 0)),
  (24, (.ifCond .ne 22, 3, .null, 0, 46)),
  (27, (.iload_n 3, 1, .null, 0, 0)),
  (28, (.invokestatic 240, 3, .ref 428, 0, 0)),
  (31, (.ifCond .eq 15, 3, .null, 0, 46)),
  (34, (.aload_n 0, 1, .null, 0, 0)),
  (35, (.getfield 15, 3, .ref 240, 0, 1)),
  (38, (.iload_n 3, 1, .null, 0, 0)),
  (39, (.iload 5, 2, .null, 0, 0)),
  (41, (.invokestatic 243, 3, .ref 447, 0, 0)),
  (44, (.istore 6, 2, .null, 0, 0)),
  (46, (.iload 6, 2, .null, 0, 0)),
  (48, (.ifCond .eq 14, 3, .null, 0, 62)),
  (51, (.aload_n 0, 1, .null, 0, 0)),
  (52, (.lload_n 1, 1, .null, 0, 0)),
  (53, (.sipush 128, 3, .int 128, 0, 0)),
  (56, (.iload 6, 2, .null, 0, 0)),
  (58, (.invokevirtual 213, 3, .ref 391, 0, 0)),
  (61, (.return_, 1, .null, 0, 0)),
  (62, (.aload_n 0, 1, .null, 0, 0)),
  (63, (.iload_n 3, 1, .null, 0, 0)),
  (64, (.iload 5, 2, .null, 0, 0)),
  (66, (.invokevirtual 247, 3, .ref 456, 0, 0)),
  (69, (.aload_n 0, 1, .null, 0, 0)),
  (70, (.lload_n 1, 1, .null, 0, 0)),
  (71, (.bipush 96, 2, .int 96, 0, 0)),
  (73, (.iconst 0, 1, .int 0, 0, 0)),
  (74, (.invokevirtual 213, 3, .ref 391, 0, 0)),
  (77, (.return_, 1, .null, 0, 0))]
set_option maxRecDepth 100000 in
theorem ckS_answerWrite : ab_ckM mS_answerWrite kS_answerWrite = true := by decide +kernel
set_option maxRecDepth 100000 in
theorem wS_answerWrite : ab_MW mS_answerWrite 1 3 := ab_mw_ok (i1 := 60) (i2 := 411) (i3 := 11) (by decide +kernel) (ab_t2 (List.mem_of_getElem? (i := 113) rfl))
abbrev mS_sendAnswer : ab_Mt := (⟨"BusServo", "sendAnswer", "(JII)V"⟩, prog_1_method_29_code, 5, none)
def kS_sendAnswer : ab_Cd := [
  (0, (.aload_n 0, 1, .null, 0, 0)),
  (1, (.getfield 22, 3, .ref 241, 0, 2)),
  (4, (.sipush 1408, 3, .int 1408, 0, 0)),
  (7, (.aload_n 0, 1, .null, 0, 0)),
  (8, (.getfield 9, 3, .ref 239, 0, 0)),
  (11, (.iadd, 1, .null, 0, 0)),
  (12, (.bipush 8, 2, .int 8, 0, 0)),
  (14, (.iload_n 3, 1, .null, 0, 0)),
  (15, (.i2l, 1, .null, 0, 0)),
  (16, (.lload_n 1, 1, .null, 0, 0)),
  (17, (.ldc2_w 251, 3, .long 4294967040, 0, 395)),
  (20, (.land, 1, .null, 0, 0)),
  (21, (.lor, 1, .null, 0, 0)),
  (22, (.iload 4, 2, .null, 0, 0)),
  (24, (.i2l, 1, .null, 0, 0)),
  (25, (.bipush 32, 2, .int 32, 0, 0)),
  (27, (.lshl, 1, .null, 0, 0)),
  (28, (.lor, 1, .null, 0, 0)),
  (29, (.invokevirtual 168, 3, .ref 235, 0, 0)),
  (32, (.return_, 1, .null, 0, 0))]
set_option maxRecDepth 100000 in
theorem ckS_sendAnswer : ab_ckM mS_sendAnswer kS_sendAnswer = true := by decide +kernel
set_option maxRecDepth 100000 in
theorem wS_sendAnswer : ab_MW mS_sendAnswer 1 3 := ab_mw_ok (i1 := 60) (i2 := 393) (i3 := 9) (by decide +kernel) (ab_t2 (List.mem_of_getElem? (i := 95) rfl))
abbrev mS_refusalOfWrite : ab_Mt := (⟨"BusServo", "refusalOfWrite", "(III)I"⟩, prog_1_method_30_code, 4, (some .int))
def kS_refusalOfWrite : ab_Cd := [
  (0, (.iload_n 1, 1, .null, 0, 0)),
  (1, (.invokestatic 133, 3, .ref 400, 0, 0)),
  (4, (.ifCond .ne 6, 3, .null, 0, 10)),
  (7, (.ldc 253, 2, .int 100728834, 0, 418)),
  (9, (.ireturn, 1, .null, 0, 0)),
  (10, (.iload_n 2, 1, .null, 0, 0)),
  (11, (.iload_n 1, 1, .null, 0, 0)),
  (12, (.invokestatic 227, 3, .ref 404, 0, 0)),
  (15, (.if_icmp .eq 6, 3, .null, 0, 21)),
  (18, (.ldc 254, 2, .int 101122064, 0, 419)),
  (20, (.ireturn, 1, .null, 0, 0)),
  (21, (.aload_n 0, 1, .null, 0, 0)),
  (22, (.iload_n 1, 1, .null, 0, 0)),
  (23, (.invokevirtual 255, 3, .ref 420, 0, 0)),
  (26, (.ifCond .ne 7, 3, .null, 0, 33)),
  (29, (.ldc_w 258, 3, .int 134217762, 0, 434)),
  (32, (.ireturn, 1, .null, 0, 0)),
  (33, (.iload_n 1, 1, .null, 0, 0)),
  (34, (.iconst 1, 1, .int 1, 0, 0)),
  (35, (.if_icmp .ne 12, 3, .null, 0, 47)),
  (38, (.aload_n 0, 1, .null, 0, 0)),
  (39, (.iload_n 3, 1, .null, 0, 0)),
  (40, (.ldc_w 259, 3, .int 1702257011, 0, 435)),
  (43, (.invokevirtual 260, 3, .ref 436, 0, 0)),
  (46, (.ireturn, 1, .null, 0, 0)),
  (47, (.iload_n 1, 1, .null, 0, 0)),
  (48, (.iconst 2, 1, .int 2, 0, 0)),
  (49, (.if_icmp .ne 12, 3, .null, 0, 61)),
  (52, (.aload_n 0, 1, .null, 0, 0)),
  (53, (.iload_n 3, 1, .null, 0, 0)),
  (54, (.ldc_w 263, 3, .int 1684107116, 0, 445)),
  (57, (.invokevirtual 260, 3, .ref 436, 0, 0)),
  (60, (.ireturn, 1, .null, 0, 0)),
  (61, (.iload_n 1, 1, .null, 0, 0)),
  (62, (.iload_n 3, 1, .null, 0, 0)),
  (63, (.invokestatic 264, 3, .ref 446, 0, 0)),
  (66, (.ireturn, 1, .null, 0, 0))]
set_option maxRecDepth 100000 in
theorem ckS_refusalOfWrite : ab_ckM mS_refusalOfWrite kS_refusalOfWrite = true := by decide +kernel
set_option maxRecDepth 100000 in
theorem wS_refusalOfWrite : ab_MW mS_refusalOfWrite 1 3 := ab_mw_ok (i1 := 60) (i2 := 416) (i3 := 12) (by decide +kernel) (ab_t2 (List.mem_of_getElem? (i := 118) rfl))
abbrev mS_isWrittenNow : ab_Mt := (⟨"BusServo", "isWrittenNow", "(I)Z"⟩, prog_1_method_31_code, 2, (some .boolean))
def kS_isWrittenNow : ab_Cd := [
  (0, (.iload_n 1, 1, .null, 0, 0)),
  (1, (.invokestatic 133, 3, .ref 400, 0, 0)),
  (4, (.lookupswitch 78 #[(3, 28), (4, 44)], 28, .null, 0, 0)),
  (32, (.aload_n 0, 1, .null, 0, 0)),
  (33, (.getfield 36, 3, .ref 243, 0, 4)),
  (36, (.invokevirtual 97, 3, .ref 424, 0, 0)),
  (39, (.ifCond .ne 7, 3, .null, 0, 46)),
  (42, (.iconst 1, 1, .int 1, 0, 0)),
  (43, (.goto 4, 3, .null, 0, 47)),
  (46, (.iconst 0, 1, .int 0, 0, 0)),
  (47, (.ireturn, 1, .null, 0, 0)),
  (48, (.aload_n 0, 1, .null, 0, 0)),
  (49, (.getfield 140, 3, .ref 247, 0, 8)),
  (52, (.bipush 127, 2, .int 127, 0, 0)),
  (54, (.if_icmp .ne 26, 3, .null, 0, 80)),
  (57, (.iload_n 1, 1, .null, 0, 0)),
  (58, (.invokestatic 240, 3, .ref 428, 0, 0)),
  (61, (.ifCond .ne 15, 3, .null, 0, 76)),
  (64, (.aload_n 0, 1, .null, 0, 0)),
  (65, (.getfield 15, 3, .ref 240, 0, 1)),
  (68, (.iload_n 1, 1, .null, 0, 0)),
  (69, (.invokestatic 267, 3, .ref 431, 0, 0)),
  (72, (.iaload, 1, .null, 0, 0)),
  (73, (.ifCond .ne 7, 3, .null, 0, 80)),
  (76, (.iconst 1, 1, .int 1, 0, 0)),
  (77, (.goto 4, 3, .null, 0, 81)),
  (80, (.iconst 0, 1, .int 0, 0, 0)),
  (81, (.ireturn, 1, .null, 0, 0)),
  (82, (.iconst 1, 1, .int 1, 0, 0)),
  (83, (.ireturn, 1, .null, 0, 0))]
set_option maxRecDepth 100000 in
theorem ckS_isWrittenNow : ab_ckM mS_isWrittenNow kS_isWrittenNow = true := by decide +kernel
set_option maxRecDepth 100000 in
theorem wS_isWrittenNow : ab_MW mS_isWrittenNow 1 1 := ab_mw_ok (i1 := 60) (i2 := 422) (i3 := 13) (by decide +kernel) (ab_t2 (List.mem_of_getElem? (i := 124) rfl))
abbrev mS_refusalOfSave : ab_Mt := (⟨"BusServo", "refusalOfSave", "(II)I"⟩, prog_1_method_32_code, 3, (some .int))
def kS_refusalOfSave : ab_Cd := [
  (0, (.iload_n 1, 1, .null, 0, 0)),
  (1, (.iload_n 2, 1, .null, 0, 0)),
  (2, (.if_icmp .eq 7, 3, .null, 0, 9)),
  (5, (.ldc_w 270, 3, .int 134217760, 0, 440)),
  (8, (.ireturn, 1, .null, 0, 0)),
  (9, (.aload_n 0, 1, .null, 0, 0)),
  (10, (.getfield 29, 3, .ref 242, 0, 3)),
  (13, (.invokevirtual 271, 3, .ref 441, 0, 0)),
  (16, (.ifCond .eq 9, 3, .null, 0, 25)),
  (19, (.ldc_w 258, 3, .int 134217762, 0, 434)),
  (22, (.goto 4, 3, .null, 0, 26)),
  (25, (.iconst 0, 1, .int 0, 0, 0)),
  (26, (.ireturn, 1, .null, 0, 0))]
set_option maxRecDepth 100000 in
theorem ckS_refusalOfSave : ab_ckM mS_refusalOfSave kS_refusalOfSave = true := by decide +kernel
set_option maxRecDepth 100000 in
theorem wS_refusalOfSave : ab_MW mS_refusalOfSave 1 2 := ab_mw_ok (i1 := 60) (i2 := 438) (i3 := 14) (by decide +kernel) (ab_t2 (List.mem_of_getElem? (i := 140) rfl))
abbrev mS_write : ab_Mt := (⟨"BusServo", "write", "(II)V"⟩, prog_1_method_33_code, 3, none)
def kS_write : ab_Cd := [
  (0, (.iload_n 1, 1, .null, 0, 0)),
  (1, (.tableswitch 99 1 9 #[51, 63, 71, 81, 99, 99, 99, 99, 89], 51, .null, 0, 0)),
  (52, (.aload_n 0, 1, .null, 0, 0)),
  (53, (.getfield 29, 3, .ref 242, 0, 3)),
  (56, (.aload_n 0, 1, .null, 0, 0)),
  (57, (.getfield 15, 3, .ref 240, 0, 1)),
  (60, (.invokevirtual 274, 3, .ref 460, 0, 0)),
  (63, (.return_, 1, .null, 0, 0)),
  (64, (.aload_n 0, 1, .null, 0, 0)),
  (65, (.getfield 29, 3, .ref 242, 0, 3)),
  (68, (.invokevirtual 277, 3, .ref 468, 0, 0)),
  (71, (.return_, 1, .null, 0, 0)),
  (72, (.aload_n 0, 1, .null, 0, 0)),
  (73, (.getfield 52, 3, .ref 245, 0, 6)),
  (76, (.invokevirtual 159, 3, .ref 219, 0, 0)),
  (79, (.goto 21, 3, .null, 0, 100)),
  (82, (.aload_n 0, 1, .null, 0, 0)),
  (83, (.iconst 0, 1, .int 0, 0, 0)),
  (84, (.putfield 165, 3, .ref 248, 0, 9)),
  (87, (.goto 13, 3, .null, 0, 100)),
  (90, (.aload_n 0, 1, .null, 0, 0)),
  (91, (.getfield 59, 3, .ref 246, 0, 7)),
  (94, (.invokevirtual 162, 3, .ref 223, 0, 0)),
  (97, (.goto 3, 3, .null, 0, 100)),
  (100, (.aload_n 0, 1, .null, 0, 0)),
  (101, (.getfield 15, 3, .ref 240, 0, 1)),
  (104, (.iload_n 1, 1, .null, 0, 0)),
  (105, (.iload_n 2, 1, .null, 0, 0)),
  (106, (.iastore, 1, .null, 0, 0)),
  (107, (.return_, 1, .null, 0, 0))]
set_option maxRecDepth 100000 in
theorem ckS_write : ab_ckM mS_write kS_write = true := by decide +kernel
set_option maxRecDepth 100000 in
theorem wS_write : ab_MW mS_write 1 2 := ab_mw_ok (i1 := 60) (i2 := 458) (i3 := 15) (by decide +kernel) (ab_t2 (List.mem_of_getElem? (i := 160) rfl))
abbrev mS_makeTick : ab_Mt := (⟨"BusServo", "makeTick", "(I)V"⟩, prog_1_method_34_code, 2, none)
def kS_makeTick : ab_Cd := [
  (0, (.aload_n 0, 1, .null, 0, 0)),
  (1, (.getfield 15, 3, .ref 240, 0, 1)),
  (4, (.bipush 19, 2, .int 19, 0, 0)),
  (6, (.iload_n 1, 1, .null, 0, 0)),
  (7, (.iastore, 1, .null, 1, 0)),
  (8, (.aload_n 0, 1, .null, 0, 0)),
  (9, (.getfield 36, 3, .ref 243, 0, 4)),
  (12, (.invokevirtual 97, 3, .ref 424, 0, 0)),
  (15, (.ifCond .ne 11, 3, .null, 0, 26)),
  (18, (.aload_n 0, 1, .null, 0, 0)),
  (19, (.getfield 45, 3, .ref 244, 0, 5)),
  (22, (.iload_n 1, 1, .null, 0, 0)),
  (23, (.invokevirtual 155, 3, .ref 211, 0, 0)),
  (26, (.aload_n 0, 1, .null, 0, 0)),
  (27, (.getfield 29, 3, .ref 242, 0, 3)),
  (30, (.invokevirtual 280, 3, .ref 494, 0, 0)),
  (33, (.aload_n 0, 1, .null, 0, 0)),
  (34, (.invokevirtual 283, 3, .ref 498, 0, 0)),
  (37, (.aload_n 0, 1, .null, 0, 0)),
  (38, (.getfield 52, 3, .ref 245, 0, 6)),
  (41, (.aload_n 0, 1, .null, 0, 0)),
  (42, (.invokevirtual 200, 3, .ref 476, 0, 0)),
  (45, (.invokevirtual 286, 3, .ref 502, 0, 0)),
  (48, (.ifCond .eq 10, 3, .null, 0, 58)),
  (51, (.aload_n 0, 1, .null, 0, 0)),
  (52, (.ldc_w 289, 3, .int 33072, 0, 507)),
  (55, (.invokevirtual 108, 3, .ref 508, 0, 0)),
  (58, (.aload_n 0, 1, .null, 0, 0)),
  (59, (.getfield 36, 3, .ref 243, 0, 4)),
  (62, (.invokevirtual 290, 3, .ref 308, 0, 0)),
  (65, (.ifCond .eq 32, 3, .null, 0, 97)),
  (68, (.iload_n 1, 1, .null, 0, 0)),
  (69, (.aload_n 0, 1, .null, 0, 0)),
  (70, (.getfield 45, 3, .ref 244, 0, 5)),
  (73, (.invokevirtual 94, 3, .ref 522, 0, 0)),
  (76, (.isub, 1, .null, 0, 0)),
  (77, (.invokestatic 293, 3, .ref 526, 0, 0)),
  (80, (.aload_n 0, 1, .null, 0, 0)),
  (81, (.getfield 15, 3, .ref 240, 0, 1)),
  (84, (.bipush 20, 2, .int 20, 0, 0)),
  (86, (.iaload, 1, .null, 1, 0)),
  (87, (.if_icmp .le 10, 3, .null, 0, 97)),
  (90, (.aload_n 0, 1, .null, 0, 0)),
  (91, (.ldc_w 298, 3, .int 34321, 0, 517)),
  (94, (.invokevirtual 108, 3, .ref 508, 0, 0)),
  (97, (.aload_n 0, 1, .null, 0, 0)),
  (98, (.invokevirtual 299, 3, .ref 529, 0, 0)),
  (101, (.aload_n 0, 1, .null, 0, 0)),
  (102, (.iload_n 1, 1, .null, 0, 0)),
  (103, (.invokevirtual 302, 3, .ref 554, 0, 0)),
  (106, (.aload_n 0, 1, .null, 0, 0)),
  (107, (.getfield 59, 3, .ref 246, 0, 7)),
  (110, (.invokevirtual 305, 3, .ref 589, 0, 0)),
  (113, (.aload_n 0, 1, .null, 0, 0)),
  (114, (.invokevirtual 308, 3, .ref 593, 0, 0)),
  (117, (.return_, 1, .null, 0, 0))]
set_option maxRecDepth 100000 in
theorem ckS_makeTick : ab_ckM mS_makeTick kS_makeTick = true := by decide +kernel
set_option maxRecDepth 100000 in
theorem wS_makeTick : ab_MW mS_makeTick 1 1 := ab_mw_ok (i1 := 60) (i2 := 492) (i3 := 19) (by decide +kernel) (ab_t2 (List.mem_of_getElem? (i := 194) rfl))
abbrev mS_beat : ab_Mt := (⟨"BusServo", "beat", "()V"⟩, prog_1_method_35_code, 2, none)
def kS_beat : ab_Cd := [
  (0, (.aload_n 0, 1, .null, 0, 0)),
  (1, (.dup, 1, .null, 0, 0)),
  (2, (.getfield 165, 3, .ref 248, 0, 9)),
  (5, (.iconst 1, 1, .int 1, 0, 0)),
  (6, (.iadd, 1, .null, 0, 0)),
  (7, (.putfield 165, 3, .ref 248, 0, 9)),
  (10, (.aload_n 0, 1, .null, 0, 0)),
  (11, (.getfield 15, 3, .ref 240, 0, 1)),
  (14, (.iconst 4, 1, .int 4, 0, 0)),
  (15, (.iaload, 1, .null, 1, 0)),
  (16, (.istore_n 1, 1, .null, 0, 0)),
  (17, (.iload_n 1, 1, .null, 0, 0)),
  (18, (.ifCond .le 37, 3, .null, 0, 55)),
  (21, (.aload_n 0, 1, .null, 0, 0)),
  (22, (.getfield 165, 3, .ref 248, 0, 9)),
  (25, (.iload_n 1, 1, .null, 0, 0)),
  (26, (.if_icmp .lt 29, 3, .null, 0, 55)),
  (29, (.aload_n 0, 1, .null, 0, 0)),
  (30, (.iconst 0, 1, .int 0, 0, 0)),
  (31, (.putfield 165, 3, .ref 248, 0, 9)),
  (34, (.aload_n 0, 1, .null, 0, 0)),
  (35, (.getfield 22, 3, .ref 241, 0, 2)),
  (38, (.sipush 1792, 3, .int 1792, 0, 0)),
  (41, (.aload_n 0, 1, .null, 0, 0)),
  (42, (.getfield 9, 3, .ref 239, 0, 0)),
  (45, (.iadd, 1, .null, 0, 0)),
  (46, (.iconst 1, 1, .int 1, 0, 0)),
  (47, (.aload_n 0, 1, .null, 0, 0)),
  (48, (.getfield 140, 3, .ref 247, 0, 8)),
  (51, (.i2l, 1, .null, 0, 0)),
  (52, (.invokevirtual 168, 3, .ref 235, 0, 0)),
  (55, (.return_, 1, .null, 0, 0))]
set_option maxRecDepth 100000 in
theorem ckS_beat : ab_ckM mS_beat kS_beat = true := by decide +kernel
set_option maxRecDepth 100000 in
theorem wS_beat : ab_MW mS_beat 1 0 := ab_mw_ok (i1 := 60) (i2 := 500) (i3 := 20) (by decide +kernel) (ab_t2 (List.mem_of_getElem? (i := 202) rfl))
abbrev mS_obeyControl : ab_Mt := (⟨"BusServo", "obeyControl", "()V"⟩, prog_1_method_36_code, 2, none)
def kS_obeyControl : ab_Cd := [
  (0, (.aload_n 0, 1, .null, 0, 0)),
  (1, (.getfield 36, 3, .ref 243, 0, 4)),
  (4, (.aload_n 0, 1, .null, 0, 0)),
  (5, (.getfield 15, 3, .ref 240, 0, 1)),
  (8, (.bipush 16, 2, .int 16, 0, 0)),
  (10, (.iaload, 1, .null, 1, 0)),
  (11, (.invokevirtual 311, 3, .ref 533, 0, 0)),
  (14, (.istore_n 1, 1, .null, 0, 0)),
  (15, (.aload_n 0, 1, .null, 0, 0)),
  (16, (.getfield 36, 3, .ref 243, 0, 4)),
  (19, (.iload_n 1, 1, .null, 0, 0)),
  (20, (.aload_n 0, 1, .null, 0, 0)),
  (21, (.getfield 15, 3, .ref 240, 0, 1)),
  (24, (.bipush 21, 2, .int 21, 0, 0)),
  (26, (.iaload, 1, .null, 1, 0)),
  (27, (.ifCond .ne 7, 3, .null, 0, 34)),
  (30, (.iconst 1, 1, .int 1, 0, 0)),
  (31, (.goto 4, 3, .null, 0, 35)),
  (34, (.iconst 0, 1, .int 0, 0, 0)),
  (35, (.invokevirtual 314, 3, .ref 537, 0, 0)),
  (38, (.ifCond .eq 15, 3, .null, 0, 53)),
  (41, (.aload_n 0, 1, .null, 0, 0)),
  (42, (.getfield 15, 3, .ref 240, 0, 1)),
  (45, (.iconst 0, 1, .int 0, 0, 0)),
  (46, (.iconst 0, 1, .int 0, 0, 0)),
  (47, (.iastore, 1, .null, 1, 0)),
  (48, (.aload_n 0, 1, .null, 0, 0)),
  (49, (.iconst 0, 1, .int 0, 0, 0)),
  (50, (.invokevirtual 318, 3, .ref 518, 0, 0)),
  (53, (.return_, 1, .null, 0, 0))]
set_option maxRecDepth 100000 in
theorem ckS_obeyControl : ab_ckM mS_obeyControl kS_obeyControl = true := by decide +kernel
set_option maxRecDepth 100000 in
theorem wS_obeyControl : ab_MW mS_obeyControl 1 0 := ab_mw_ok (i1 := 60) (i2 := 531) (i3 := 23) (by decide +kernel) (ab_t2 (List.mem_of_getElem? (i := 233) rfl))
abbrev mS_move : ab_Mt := (⟨"BusServo", "move", "(I)V"⟩, prog_1_method_37_code, 2, none)
def kS_move : ab_Cd := [
  (0, (.aload_n 0, 1, .null, 0, 0)),
  (1, (.getfield 36, 3, .ref 243, 0, 4)),
  (4, (.invokevirtual 290, 3, .ref 308, 0, 0)),
  (7, (.ifCond .eq 13, 3, .null, 0, 20)),
  (10, (.aload_n 0, 1, .null, 0, 0)),
  (11, (.getfield 45, 3, .ref 244, 0, 5)),
  (14, (.invokevirtual 321, 3, .ref 558, 0, 0)),
  (17, (.goto 31, 3, .null, 0, 48)),
  (20, (.aload_n 0, 1, .null, 0, 0)),
  (21, (.getfield 36, 3, .ref 243, 0, 4)),
  (24, (.invokevirtual 97, 3, .ref 424, 0, 0)),
  (27, (.ifCond .eq 13, 3, .null, 0, 40)),
  (30, (.aload_n 0, 1, .null, 0, 0)),
  (31, (.getfield 45, 3, .ref 244, 0, 5)),
  (34, (.invokevirtual 324, 3, .ref 585, 0, 0)),
  (37, (.goto 11, 3, .null, 0, 48)),
  (40, (.aload_n 0, 1, .null, 0, 0)),
  (41, (.getfield 45, 3, .ref 244, 0, 5)),
  (44, (.iload_n 1, 1, .null, 0, 0)),
  (45, (.invokevirtual 155, 3, .ref 211, 0, 0)),
  (48, (.return_, 1, .null, 0, 0))]
set_option maxRecDepth 100000 in
theorem ckS_move : ab_ckM mS_move kS_move = true := by decide +kernel
set_option maxRecDepth 100000 in
theorem wS_move : ab_MW mS_move 1 1 := ab_mw_ok (i1 := 60) (i2 := 556) (i3 := 25) (by decide +kernel) (ab_t3 (List.mem_of_getElem? (i := 18) rfl))
abbrev mS_sendOutWhenDue : ab_Mt := (⟨"BusServo", "sendOutWhenDue", "()V"⟩, prog_1_method_38_code, 4, none)
def kS_sendOutWhenDue : ab_Cd := [
  (0, (.aload_n 0, 1, .null, 0, 0)),
  (1, (.getfield 140, 3, .ref 247, 0, 8)),
  (4, (.iconst 5, 1, .int 5, 0, 0)),
  (5, (.if_icmp .ne 43, 3, .null, 0, 48)),
  (8, (.aload_n 0, 1, .null, 0, 0)),
  (9, (.getfield 15, 3, .ref 240, 0, 1)),
  (12, (.bipush 9, 2, .int 9, 0, 0)),
  (14, (.iaload, 1, .null, 1, 0)),
  (15, (.sipush 240, 3, .int 240, 0, 0)),
  (18, (.if_icmp .le 30, 3, .null, 0, 48)),
  (21, (.aload_n 0, 1, .null, 0, 0)),
  (22, (.getfield 15, 3, .ref 240, 0, 1)),
  (25, (.bipush 12, 2, .int 12, 0, 0)),
  (27, (.iaload, 1, .null, 1, 0)),
  (28, (.ifCond .eq 20, 3, .null, 0, 48)),
  (31, (.aload_n 0, 1, .null, 0, 0)),
  (32, (.getfield 59, 3, .ref 246, 0, 7)),
  (35, (.aload_n 0, 1, .null, 0, 0)),
  (36, (.getfield 15, 3, .ref 240, 0, 1)),
  (39, (.bipush 10, 2, .int 10, 0, 0)),
  (41, (.iaload, 1, .null, 1, 0)),
  (42, (.invokevirtual 327, 3, .ref 597, 0, 0)),
  (45, (.ifCond .eq 4, 3, .null, 0, 49)),
  (48, (.return_, 1, .null, 0, 0)),
  (49, (.aload_n 0, 1, .null, 0, 0)),
  (50, (.invokevirtual 137, 3, .ref 298, 0, 0)),
  (53, (.aload_n 0, 1, .null, 0, 0)),
  (54, (.getfield 15, 3, .ref 240, 0, 1)),
  (57, (.invokestatic 182, 3, .ref 326, 0, 0)),
  (60, (.lstore_n 1, 1, .null, 0, 0)),
  (61, (.aload_n 0, 1, .null, 0, 0)),
  (62, (.getfield 15, 3, .ref 240, 0, 1)),
  (65, (.bipush 12, 2, .int 12, 0, 0)),
  (67, (.invokestatic 188, 3, .ref 340, 0, 0)),
  (70, (.istore_n 3, 1, .null, 0, 0)),
  (71, (.aload_n 0, 1, .null, 0, 0)),
  (72, (.getfield 59, 3, .ref 246, 0, 7)),
  (75, (.lload_n 1, 1, .null, 0, 0)),
  (76, (.iload_n 3, 1, .null, 0, 0)),
  (77, (.aload_n 0, 1, .null, 0, 0)),
  (78, (.getfield 15, 3, .ref 240, 0, 1)),
  (81, (.bipush 11, 2, .int 11, 0, 0)),
  (83, (.iaload, 1, .null, 1, 0)),
  (84, (.invokevirtual 330, 3, .ref 601, 0, 0)),
  (87, (.ifCond .eq 9, 3, .null, 0, 96)),
  (90, (.aload_n 0, 1, .null, 0, 0)),
  (91, (.lload_n 1, 1, .null, 0, 0)),
  (92, (.iload_n 3, 1, .null, 0, 0)),
  (93, (.invokevirtual 192, 3, .ref 343, 0, 0)),
  (96, (.return_, 1, .null, 0, 0))]
set_option maxRecDepth 100000 in
theorem ckS_sendOutWhenDue : ab_ckM mS_sendOutWhenDue kS_sendOutWhenDue = true := by decide +kernel
set_option maxRecDepth 100000 in
theorem wS_sendOutWhenDue : ab_MW mS_sendOutWhenDue 1 0 := ab_mw_ok (i1 := 60) (i2 := 595) (i3 := 30) (by decide +kernel) (ab_t3 (List.mem_of_getElem? (i := 57) rfl))
abbrev mS_sendOut : ab_Mt := (⟨"BusServo", "sendOut", "(JI)V"⟩, prog_1_method_39_code, 4, none)
def kS_sendOut : ab_Cd := [
  (0, (.aload_n 0, 1, .null, 0, 0)),
  (1, (.getfield 59, 3, .ref 246, 0, 7)),
  (4, (.lload_n 1, 1, .null, 0, 0)),
  (5, (.iload_n 3, 1, .null, 0, 0)),
  (6, (.invokevirtual 334, 3, .ref 347, 0, 0)),
  (9, (.aload_n 0, 1, .null, 0, 0)),
  (10, (.getfield 22, 3, .ref 241, 0, 2)),
  (13, (.sipush 384, 3, .int 384, 0, 0)),
  (16, (.aload_n 0, 1, .null, 0, 0)),
  (17, (.getfield 9, 3, .ref 239, 0, 0)),
  (20, (.iadd, 1, .null, 0, 0)),
  (21, (.iload_n 3, 1, .null, 0, 0)),
  (22, (.lload_n 1, 1, .null, 0, 0)),
  (23, (.invokevirtual 168, 3, .ref 235, 0, 0)),
  (26, (.return_, 1, .null, 0, 0))]
set_option maxRecDepth 100000 in
theorem ckS_sendOut : ab_ckM mS_sendOut kS_sendOut = true := by decide +kernel
set_option maxRecDepth 100000 in
theorem wS_sendOut : ab_MW mS_sendOut 1 2 := ab_mw_ok (i1 := 60) (i2 := 345) (i3 := 6) (by decide +kernel) (ab_t2 (List.mem_of_getElem? (i := 47) rfl))
abbrev mS_fault : ab_Mt := (⟨"BusServo", "fault", "(I)V"⟩, prog_1_method_40_code, 2, none)
def kS_fault : ab_Cd := [
  (0, (.aload_n 0, 1, .null, 0, 0)),
  (1, (.getfield 36, 3, .ref 243, 0, 4)),
  (4, (.invokevirtual 337, 3, .ref 512, 0, 0)),
  (7, (.ifCond .ne 4, 3, .null, 0, 11)),
  (10, (.return_, 1, .null, 0, 0)),
  (11, (.aload_n 0, 1, .null, 0, 0)),
  (12, (.getfield 15, 3, .ref 240, 0, 1)),
  (15, (.iconst 0, 1, .int 0, 0, 0)),
  (16, (.iload_n 1, 1, .null, 0, 0)),
  (17, (.ldc_w 298, 3, .int 34321, 0, 517)),
  (20, (.if_icmp .ne 8, 3, .null, 0, 28)),
  (23, (.bipush 33, 2, .int 33, 0, 0)),
  (25, (.goto 5, 3, .null, 0, 30)),
  (28, (.bipush 17, 2, .int 17, 0, 0)),
  (30, (.iastore, 1, .null, 0, 0)),
  (31, (.aload_n 0, 1, .null, 0, 0)),
  (32, (.iload_n 1, 1, .null, 0, 0)),
  (33, (.invokevirtual 318, 3, .ref 518, 0, 0)),
  (36, (.return_, 1, .null, 0, 0))]
set_option maxRecDepth 100000 in
theorem ckS_fault : ab_ckM mS_fault kS_fault = true := by decide +kernel
set_option maxRecDepth 100000 in
theorem wS_fault : ab_MW mS_fault 1 1 := ab_mw_ok (i1 := 60) (i2 := 510) (i3 := 21) (by decide +kernel) (ab_t2 (List.mem_of_getElem? (i := 212) rfl))
abbrev mS_sendEmergency : ab_Mt := (⟨"BusServo", "sendEmergency", "(I)V"⟩, prog_1_method_41_code, 2, none)
def kS_sendEmergency : ab_Cd := [
  (0, (.aload_n 0, 1, .null, 0, 0)),
  (1, (.getfield 140, 3, .ref 247, 0, 8)),
  (4, (.iconst 4, 1, .int 4, 0, 0)),
  (5, (.if_icmp .eq 33, 3, .null, 0, 38)),
  (8, (.aload_n 0, 1, .null, 0, 0)),
  (9, (.getfield 22, 3, .ref 241, 0, 2)),
  (12, (.sipush 128, 3, .int 128, 0, 0)),
  (15, (.aload_n 0, 1, .null, 0, 0)),
  (16, (.getfield 9, 3, .ref 239, 0, 0)),
  (19, (.iadd, 1, .null, 0, 0)),
  (20, (.bipush 8, 2, .int 8, 0, 0)),
  (22, (.iload_n 1, 1, .null, 0, 0)),
  (23, (.i2l, 1, .null, 0, 0)),
  (24, (.aload_n 0, 1, .null, 0, 0)),
  (25, (.getfield 15, 3, .ref 240, 0, 1)),
  (28, (.iconst 0, 1, .int 0, 0, 0)),
  (29, (.iaload, 1, .null, 1, 0)),
  (30, (.i2l, 1, .null, 0, 0)),
  (31, (.bipush 16, 2, .int 16, 0, 0)),
  (33, (.lshl, 1, .null, 0, 0)),
  (34, (.lor, 1, .null, 0, 0)),
  (35, (.invokevirtual 168, 3, .ref 235, 0, 0)),
  (38, (.return_, 1, .null, 0, 0))]
set_option maxRecDepth 100000 in
theorem ckS_sendEmergency : ab_ckM mS_sendEmergency kS_sendEmergency = true := by decide +kernel
set_option maxRecDepth 100000 in
theorem wS_sendEmergency : ab_MW mS_sendEmergency 1 1 := ab_mw_ok (i1 := 60) (i2 := 520) (i3 := 22) (by decide +kernel) (ab_t2 (List.mem_of_getElem? (i := 222) rfl))
abbrev mS_refreshStatus : ab_Mt := (⟨"BusServo", "refreshStatus", "()V"⟩, prog_1_method_42_code, 2, none)
def kS_refreshStatus : ab_Cd := [
  (0, (.aload_n 0, 1, .null, 0, 0)),
  (1, (.getfield 36, 3, .ref 243, 0, 4)),
  (4, (.invokevirtual 340, 3, .ref 302, 0, 0)),
  (7, (.istore_n 1, 1, .null, 0, 0)),
  (8, (.aload_n 0, 1, .null, 0, 0)),
  (9, (.getfield 140, 3, .ref 247, 0, 8)),
  (12, (.iconst 5, 1, .int 5, 0, 0)),
  (13, (.if_icmp .ne 9, 3, .null, 0, 22)),
  (16, (.iload_n 1, 1, .null, 0, 0)),
  (17, (.sipush 512, 3, .int 512, 0, 0)),
  (20, (.ior, 1, .null, 0, 0)),
  (21, (.istore_n 1, 1, .null, 0, 0)),
  (22, (.aload_n 0, 1, .null, 0, 0)),
  (23, (.getfield 36, 3, .ref 243, 0, 4)),
  (26, (.invokevirtual 290, 3, .ref 308, 0, 0)),
  (29, (.ifCond .eq 19, 3, .null, 0, 48)),
  (32, (.aload_n 0, 1, .null, 0, 0)),
  (33, (.getfield 45, 3, .ref 244, 0, 5)),
  (36, (.invokevirtual 343, 3, .ref 312, 0, 0)),
  (39, (.ifCond .eq 9, 3, .null, 0, 48)),
  (42, (.iload_n 1, 1, .null, 0, 0)),
  (43, (.sipush 1024, 3, .int 1024, 0, 0)),
  (46, (.ior, 1, .null, 0, 0)),
  (47, (.istore_n 1, 1, .null, 0, 0)),
  (48, (.aload_n 0, 1, .null, 0, 0)),
  (49, (.getfield 15, 3, .ref 240, 0, 1)),
  (52, (.bipush 17, 2, .int 17, 0, 0)),
  (54, (.iload_n 1, 1, .null, 0, 0)),
  (55, (.iastore, 1, .null, 1, 0)),
  (56, (.return_, 1, .null, 0, 0))]
set_option maxRecDepth 100000 in
theorem ckS_refreshStatus : ab_ckM mS_refreshStatus kS_refreshStatus = true := by decide +kernel
set_option maxRecDepth 100000 in
theorem wS_refreshStatus : ab_MW mS_refreshStatus 1 0 := ab_mw_ok (i1 := 60) (i2 := 300) (i3 := 4) (by decide +kernel) (ab_t2 (List.mem_of_getElem? (i := 2) rfl))
end
section
/-! methods and their code, by program -/
abbrev mR_row : ab_Mt := (⟨"BusServoModel", "row", "(IIIIIII)V"⟩, prog_12_method_2_code, 8, none)
def kR_row : ab_Cd := [
  (0, (.aload_n 0, 1, .null, 0, 0)),
  (1, (.getfield 7, 3, .ref 751, 7, 0)),
  (4, (.iload_n 1, 1, .null, 0, 0)),
  (5, (.iload_n 2, 1, .null, 0, 0)),
  (6, (.iastore, 1, .null, 0, 0)),
  (7, (.aload_n 0, 1, .null, 0, 0)),
  (8, (.getfield 13, 3, .ref 752, 7, 1)),
  (11, (.iload_n 1, 1, .null, 0, 0)),
  (12, (.iload_n 3, 1, .null, 0, 0)),
  (13, (.iastore, 1, .null, 0, 0)),
  (14, (.aload_n 0, 1, .null, 0, 0)),
  (15, (.getfield 16, 3, .ref 753, 7, 2)),
  (18, (.iload_n 1, 1, .null, 0, 0)),
  (19, (.iload 4, 2, .null, 0, 0)),
  (21, (.iastore, 1, .null, 0, 0)),
  (22, (.aload_n 0, 1, .null, 0, 0)),
  (23, (.getfield 19, 3, .ref 754, 7, 3)),
  (26, (.iload_n 1, 1, .null, 0, 0)),
  (27, (.iload 5, 2, .null, 0, 0)),
  (29, (.iastore, 1, .null, 0, 0)),
  (30, (.aload_n 0, 1, .null, 0, 0)),
  (31, (.getfield 22, 3, .ref 755, 7, 4)),
  (34, (.iload_n 1, 1, .null, 0, 0)),
  (35, (.iload 6, 2, .null, 0, 0)),
  (37, (.iastore, 1, .null, 0, 0)),
  (38, (.aload_n 0, 1, .null, 0, 0)),
  (39, (.getfield 25, 3, .ref 756, 7, 5)),
  (42, (.iload_n 1, 1, .null, 0, 0)),
  (43, (.iload 7, 2, .null, 0, 0)),
  (45, (.iastore, 1, .null, 0, 0)),
  (46, (.return_, 1, .null, 0, 0))]
set_option maxRecDepth 100000 in
theorem ckR_row : ab_ckM mR_row kR_row = true := by decide +kernel
set_option maxRecDepth 100000 in
theorem wR_row : ab_MW mR_row 1 7 := ab_mw_ok (i1 := 68) (i2 := 712) (i3 := 31) (by decide +kernel) (ab_t3 (List.mem_of_getElem? (i := 174) rfl))
abbrev mR_restart : ab_Mt := (⟨"BusServoModel", "restart", "()V"⟩, prog_12_method_3_code, 5, none)
def kR_restart_0 : ab_Cd := [
  (0, (.aload_n 0, 1, .null, 0, 0)),
  (1, (.getfield 41, 3, .ref 763, 7, 12)),
  (4, (.iconst 0, 1, .int 0, 0, 0)),
  (5, (.iaload, 1, .null, 1, 0)),
  (6, (.aload_n 0, 1, .null, 0, 0)),
  (7, (.getfield 41, 3, .ref 763, 7, 12)),
  (10, (.bipush 22, 2, .int 22, 0, 0)),
  (12, (.iaload, 1, .null, 1, 0)),
  (13, (.if_icmp .le 7, 3, .null, 0, 20)),
  (16, (.iconst 0, 1, .int 0, 0, 0)),
  (17, (.goto 24, 3, .null, 0, 41)),
  (20, (.aload_n 0, 1, .null, 0, 0)),
  (21, (.getfield 41, 3, .ref 763, 7, 12)),
  (24, (.bipush 22, 2, .int 22, 0, 0)),
  (26, (.iaload, 1, .null, 1, 0)),
  (27, (.aload_n 0, 1, .null, 0, 0)),
  (28, (.getfield 41, 3, .ref 763, 7, 12)),
  (31, (.iconst 0, 1, .int 0, 0, 0)),
  (32, (.iaload, 1, .null, 1, 0)),
  (33, (.if_icmp .le 7, 3, .null, 0, 40)),
  (36, (.iconst 1, 1, .int 1, 0, 0)),
  (37, (.goto 4, 3, .null, 0, 41)),
  (40, (.iconst (-1), 1, .int (-1), 0, 0)),
  (41, (.istore_n 1, 1, .null, 0, 0)),
  (42, (.iconst 1, 1, .int 1, 0, 0)),
  (43, (.istore_n 2, 1, .null, 0, 0)),
  (44, (.iconst 0, 1, .int 0, 0, 0)),
  (45, (.istore_n 3, 1, .null, 0, 0)),
  (46, (.iload_n 3, 1, .null, 0, 0)),
  (47, (.bipush 30, 2, .int 30, 0, 0)),
  (49, (.if_icmp .ge 81, 3, .null, 0, 130)),
  (52, (.aload_n 0, 1, .null, 0, 0)),
  (53, (.getfield 16, 3, .ref 753, 7, 2)),
  (56, (.iload_n 3, 1, .null, 0, 0)),
  (57, (.iaload, 1, .null, 0, 0)),
  (58, (.bipush 8, 2, .int 8, 0, 0)),
  (60, (.if_icmp .lt 7, 3, .null, 0, 67)),
  (63, (.iconst 1, 1, .int 1, 0, 0)),
  (64, (.goto 4, 3, .null, 0, 68)),
  (67, (.iconst 0, 1, .int 0, 0, 0)),
  (68, (.istore 4, 2, .null, 0, 0)),
  (70, (.iload_n 3, 1, .null, 0, 0))]
set_option maxRecDepth 100000 in
theorem ckR_restart_0 : ab_ckM mR_restart kR_restart_0 = true := by decide +kernel
def kR_restart_1 : ab_Cd := [
  (71, (.bipush 19, 2, .int 19, 0, 0)),
  (73, (.if_icmp .eq 38, 3, .null, 0, 111)),
  (76, (.aload_n 0, 1, .null, 0, 0)),
  (77, (.getfield 28, 3, .ref 757, 7, 6)),
  (80, (.iload_n 3, 1, .null, 0, 0)),
  (81, (.iload 4, 2, .null, 0, 0)),
  (83, (.ifCond .eq 21, 3, .null, 0, 104)),
  (86, (.iload_n 1, 1, .null, 0, 0)),
  (87, (.ifCond .lt 17, 3, .null, 0, 104)),
  (90, (.aload_n 0, 1, .null, 0, 0)),
  (91, (.getfield 41, 3, .ref 763, 7, 12)),
  (94, (.bipush 22, 2, .int 22, 0, 0)),
  (96, (.iload_n 1, 1, .null, 0, 0)),
  (97, (.imul, 1, .null, 0, 0)),
  (98, (.iload_n 2, 1, .null, 0, 0)),
  (99, (.iadd, 1, .null, 0, 0)),
  (100, (.iaload, 1, .null, 0, 0)),
  (101, (.goto 9, 3, .null, 0, 110)),
  (104, (.aload_n 0, 1, .null, 0, 0)),
  (105, (.getfield 19, 3, .ref 754, 7, 3)),
  (108, (.iload_n 3, 1, .null, 0, 0)),
  (109, (.iaload, 1, .null, 0, 0)),
  (110, (.iastore, 1, .null, 0, 0)),
  (111, (.iload 4, 2, .null, 0, 0)),
  (113, (.ifCond .eq 9, 3, .null, 0, 122)),
  (116, (.iload_n 2, 1, .null, 0, 0)),
  (117, (.iconst 1, 1, .int 1, 0, 0)),
  (118, (.iadd, 1, .null, 0, 0)),
  (119, (.goto 4, 3, .null, 0, 123)),
  (122, (.iload_n 2, 1, .null, 0, 0)),
  (123, (.istore_n 2, 1, .null, 0, 0)),
  (124, (.iinc 3 1, 3, .int 1, 0, 0)),
  (127, (.goto (-81), 3, .null, 0, 46)),
  (130, (.aload_n 0, 1, .null, 0, 0)),
  (131, (.iconst 0, 1, .int 0, 0, 0)),
  (132, (.putfield 93, 3, .ref 761, 7, 10)),
  (135, (.aload_n 0, 1, .null, 0, 0)),
  (136, (.iconst 0, 1, .int 0, 0, 0)),
  (137, (.putfield 96, 3, .ref 765, 7, 14)),
  (140, (.aload_n 0, 1, .null, 0, 0)),
  (141, (.bipush 127, 2, .int 127, 0, 0)),
  (143, (.putfield 99, 3, .ref 769, 7, 18))]
set_option maxRecDepth 100000 in
theorem ckR_restart_1 : ab_ckM mR_restart kR_restart_1 = true := by decide +kernel
def kR_restart_2 : ab_Cd := [
  (146, (.aload_n 0, 1, .null, 0, 0)),
  (147, (.iconst 1, 1, .int 1, 0, 0)),
  (148, (.putfield 102, 3, .ref 770, 7, 19)),
  (151, (.aload_n 0, 1, .null, 0, 0)),
  (152, (.aload_n 0, 1, .null, 0, 0)),
  (153, (.getfield 28, 3, .ref 757, 7, 6)),
  (156, (.bipush 19, 2, .int 19, 0, 0)),
  (158, (.iaload, 1, .null, 1, 0)),
  (159, (.putfield 105, 3, .ref 771, 7, 20)),
  (162, (.aload_n 0, 1, .null, 0, 0)),
  (163, (.iconst 1, 1, .int 1, 0, 0)),
  (164, (.putfield 108, 3, .ref 772, 7, 21)),
  (167, (.aload_n 0, 1, .null, 0, 0)),
  (168, (.iconst 0, 1, .int 0, 0, 0)),
  (169, (.putfield 112, 3, .ref 773, 7, 22)),
  (172, (.aload_n 0, 1, .null, 0, 0)),
  (173, (.iconst 0, 1, .int 0, 0, 0)),
  (174, (.putfield 115, 3, .ref 774, 7, 23)),
  (177, (.aload_n 0, 1, .null, 0, 0)),
  (178, (.iconst 0, 1, .int 0, 0, 0)),
  (179, (.putfield 118, 3, .ref 775, 7, 24)),
  (182, (.aload_n 0, 1, .null, 0, 0)),
  (183, (.iconst 0, 1, .int 0, 0, 0)),
  (184, (.putfield 121, 3, .ref 776, 7, 25)),
  (187, (.aload_n 0, 1, .null, 0, 0)),
  (188, (.iconst 0, 1, .int 0, 0, 0)),
  (189, (.putfield 124, 3, .ref 777, 7, 26)),
  (192, (.aload_n 0, 1, .null, 0, 0)),
  (193, (.iconst 0, 1, .int 0, 0, 0)),
  (194, (.putfield 127, 3, .ref 778, 7, 27)),
  (197, (.aload_n 0, 1, .null, 0, 0)),
  (198, (.sipush 1792, 3, .int 1792, 0, 0)),
  (201, (.aload_n 0, 1, .null, 0, 0)),
  (202, (.getfield 50, 3, .ref 768, 7, 17)),
  (205, (.iadd, 1, .null, 0, 0)),
  (206, (.iconst 1, 1, .int 1, 0, 0)),
  (207, (.lconst 0, 1, .long 0, 0, 0)),
  (208, (.invokevirtual 130, 3, .ref 747, 0, 0)),
  (211, (.return_, 1, .null, 0, 0))]
set_option maxRecDepth 100000 in
theorem ckR_restart_2 : ab_ckM mR_restart kR_restart_2 = true := by decide +kernel
def kR_restart : ab_Cd := kR_restart_0 ++ (kR_restart_1 ++ (kR_restart_2))
theorem ckR_restart : ab_ckM mR_restart kR_restart = true := ab_ck_app ckR_restart_0 (ab_ck_app ckR_restart_1 (ckR_restart_2))
set_option maxRecDepth 100000 in
theorem wR_restart : ab_MW mR_restart 1 0 := ab_mw_ok (i1 := 68) (i2 := 744) (i3 := 745) (by decide +kernel) (ab_t3 (List.mem_of_getElem? (i := 207) rfl))
abbrev mR_begin : ab_Mt := (⟨"BusServoModel", "begin", "(Z)V"⟩, prog_12_method_4_code, 4, none)
def kR_begin : ab_Cd := [
  (0, (.aload_n 0, 1, .null, 0, 0)),
  (1, (.aload_n 0, 1, .null, 0, 0)),
  (2, (.getfield 41, 3, .ref 763, 7, 12)),
  (5, (.bipush 22, 2, .int 22, 0, 0)),
  (7, (.iaload, 1, .null, 1, 0)),
  (8, (.aload_n 0, 1, .null, 0, 0)),
  (9, (.getfield 41, 3, .ref 763, 7, 12)),
  (12, (.iconst 0, 1, .int 0, 0, 0)),
  (13, (.iaload, 1, .null, 1, 0)),
  (14, (.if_icmp .ge 7, 3, .null, 0, 21)),
  (17, (.iconst 1, 1, .int 1, 0, 0)),
  (18, (.goto 4, 3, .null, 0, 22)),
  (21, (.iconst 0, 1, .int 0, 0, 0)),
  (22, (.putfield 134, 3, .ref 766, 7, 15)),
  (25, (.aload_n 0, 1, .null, 0, 0)),
  (26, (.bipush 23, 2, .int 23, 0, 0)),
  (28, (.putfield 96, 3, .ref 765, 7, 14)),
  (31, (.iconst 1, 1, .int 1, 0, 0)),
  (32, (.istore_n 2, 1, .null, 0, 0)),
  (33, (.iconst 0, 1, .int 0, 0, 0)),
  (34, (.istore_n 3, 1, .null, 0, 0)),
  (35, (.iload_n 3, 1, .null, 0, 0)),
  (36, (.bipush 30, 2, .int 30, 0, 0)),
  (38, (.if_icmp .ge 48, 3, .null, 0, 86)),
  (41, (.aload_n 0, 1, .null, 0, 0)),
  (42, (.getfield 16, 3, .ref 753, 7, 2)),
  (45, (.iload_n 3, 1, .null, 0, 0)),
  (46, (.iaload, 1, .null, 0, 0)),
  (47, (.bipush 8, 2, .int 8, 0, 0)),
  (49, (.if_icmp .lt 31, 3, .null, 0, 80)),
  (52, (.aload_n 0, 1, .null, 0, 0)),
  (53, (.getfield 44, 3, .ref 764, 7, 13)),
  (56, (.iload_n 2, 1, .null, 0, 0)),
  (57, (.iload_n 1, 1, .null, 0, 0)),
  (58, (.ifCond .eq 12, 3, .null, 0, 70)),
  (61, (.aload_n 0, 1, .null, 0, 0)),
  (62, (.getfield 28, 3, .ref 757, 7, 6)),
  (65, (.iload_n 3, 1, .null, 0, 0)),
  (66, (.iaload, 1, .null, 0, 0)),
  (67, (.goto 9, 3, .null, 0, 76)),
  (70, (.aload_n 0, 1, .null, 0, 0)),
  (71, (.getfield 19, 3, .ref 754, 7, 3)),
  (74, (.iload_n 3, 1, .null, 0, 0)),
  (75, (.iaload, 1, .null, 0, 0)),
  (76, (.iastore, 1, .null, 0, 0)),
  (77, (.iinc 2 1, 3, .int 1, 0, 0)),
  (80, (.iinc 3 1, 3, .int 1, 0, 0)),
  (83, (.goto (-48), 3, .null, 0, 35)),
  (86, (.return_, 1, .null, 0, 0))]
set_option maxRecDepth 100000 in
theorem ckR_begin : ab_ckM mR_begin kR_begin = true := by decide +kernel
set_option maxRecDepth 100000 in
theorem wR_begin : ab_MW mR_begin 1 1 := ab_mw_ok (i1 := 68) (i2 := 985) (i3 := 51) (by decide +kernel) (ab_t4 (List.mem_of_getElem? (i := 207) rfl))
abbrev mR_writeWord : ab_Mt := (⟨"BusServoModel", "writeWord", "()V"⟩, prog_12_method_5_code, 2, none)
def kR_writeWord : ab_Cd := [
  (0, (.aload_n 0, 1, .null, 0, 0)),
  (1, (.getfield 96, 3, .ref 765, 7, 14)),
  (4, (.ifCond .ne 4, 3, .null, 0, 8)),
  (7, (.return_, 1, .null, 0, 0)),
  (8, (.bipush 23, 2, .int 23, 0, 0)),
  (10, (.aload_n 0, 1, .null, 0, 0)),
  (11, (.getfield 96, 3, .ref 765, 7, 14)),
  (14, (.isub, 1, .null, 0, 0)),
  (15, (.istore_n 1, 1, .null, 0, 0)),
  (16, (.aload_n 0, 1, .null, 0, 0)),
  (17, (.dup, 1, .null, 0, 0)),
  (18, (.getfield 96, 3, .ref 765, 7, 14)),
  (21, (.iconst 1, 1, .int 1, 0, 0)),
  (22, (.isub, 1, .null, 0, 0)),
  (23, (.putfield 96, 3, .ref 765, 7, 14)),
  (26, (.iload_n 1, 1, .null, 0, 0)),
  (27, (.ifCond .ne 19, 3, .null, 0, 46)),
  (30, (.aload_n 0, 1, .null, 0, 0)),
  (31, (.getfield 41, 3, .ref 763, 7, 12)),
  (34, (.bipush 22, 2, .int 22, 0, 0)),
  (36, (.aload_n 0, 1, .null, 0, 0)),
  (37, (.getfield 134, 3, .ref 766, 7, 15)),
  (40, (.imul, 1, .null, 0, 0)),
  (41, (.iconst 0, 1, .int 0, 0, 0)),
  (42, (.iastore, 1, .null, 0, 0)),
  (43, (.goto 61, 3, .null, 0, 104)),
  (46, (.iload_n 1, 1, .null, 0, 0)),
  (47, (.bipush 22, 2, .int 22, 0, 0)),
  (49, (.if_icmp .ne 35, 3, .null, 0, 84)),
  (52, (.aload_n 0, 1, .null, 0, 0)),
  (53, (.getfield 41, 3, .ref 763, 7, 12)),
  (56, (.bipush 22, 2, .int 22, 0, 0)),
  (58, (.aload_n 0, 1, .null, 0, 0)),
  (59, (.getfield 134, 3, .ref 766, 7, 15)),
  (62, (.imul, 1, .null, 0, 0)),
  (63, (.aload_n 0, 1, .null, 0, 0)),
  (64, (.getfield 41, 3, .ref 763, 7, 12)),
  (67, (.bipush 22, 2, .int 22, 0, 0)),
  (69, (.bipush 22, 2, .int 22, 0, 0)),
  (71, (.aload_n 0, 1, .null, 0, 0)),
  (72, (.getfield 134, 3, .ref 766, 7, 15)),
  (75, (.imul, 1, .null, 0, 0)),
  (76, (.isub, 1, .null, 0, 0)),
  (77, (.iaload, 1, .null, 0, 0)),
  (78, (.iconst 1, 1, .int 1, 0, 0)),
  (79, (.iadd, 1, .null, 0, 0)),
  (80, (.iastore, 1, .null, 0, 0)),
  (81, (.goto 23, 3, .null, 0, 104)),
  (84, (.aload_n 0, 1, .null, 0, 0)),
  (85, (.getfield 41, 3, .ref 763, 7, 12)),
  (88, (.bipush 22, 2, .int 22, 0, 0)),
  (90, (.aload_n 0, 1, .null, 0, 0)),
  (91, (.getfield 134, 3, .ref 766, 7, 15)),
  (94, (.imul, 1, .null, 0, 0)),
  (95, (.iload_n 1, 1, .null, 0, 0)),
  (96, (.iadd, 1, .null, 0, 0)),
  (97, (.aload_n 0, 1, .null, 0, 0)),
  (98, (.getfield 44, 3, .ref 764, 7, 13)),
  (101, (.iload_n 1, 1, .null, 0, 0)),
  (102, (.iaload, 1, .null, 0, 0)),
  (103, (.iastore, 1, .null, 0, 0)),
  (104, (.return_, 1, .null, 0, 0))]
set_option maxRecDepth 100000 in
theorem ckR_writeWord : ab_ckM mR_writeWord kR_writeWord = true := by decide +kernel
set_option maxRecDepth 100000 in
theorem wR_writeWord : ab_MW mR_writeWord 1 0 := ab_mw_ok (i1 := 68) (i2 := 1000) (i3 := 53) (by decide +kernel) (ab_t4 (List.mem_of_getElem? (i := 222) rfl))
abbrev mR_word : ab_Mt := (⟨"BusServoModel", "word", "(II)I"⟩, prog_12_method_6_code, 3, (some .int))
def kR_word : ab_Cd := [
  (0, (.iload_n 1, 1, .null, 0, 0)),
  (1, (.ifCond .lt 18, 3, .null, 0, 19)),
  (4, (.iload_n 1, 1, .null, 0, 0)),
  (5, (.iconst 1, 1, .int 1, 0, 0)),
  (6, (.if_icmp .gt 13, 3, .null, 0, 19)),
  (9, (.iload_n 2, 1, .null, 0, 0)),
  (10, (.ifCond .lt 9, 3, .null, 0, 19)),
  (13, (.iload_n 2, 1, .null, 0, 0)),
  (14, (.bipush 21, 2, .int 21, 0, 0)),
  (16, (.if_icmp .le 7, 3, .null, 0, 23)),
  (19, (.iconst 0, 1, .int 0, 0, 0)),
  (20, (.goto 14, 3, .null, 0, 34)),
  (23, (.aload_n 0, 1, .null, 0, 0)),
  (24, (.getfield 41, 3, .ref 763, 7, 12)),
  (27, (.bipush 22, 2, .int 22, 0, 0)),
  (29, (.iload_n 1, 1, .null, 0, 0)),
  (30, (.imul, 1, .null, 0, 0)),
  (31, (.iload_n 2, 1, .null, 0, 0)),
  (32, (.iadd, 1, .null, 0, 0)),
  (33, (.iaload, 1, .null, 0, 0)),
  (34, (.ireturn, 1, .null, 0, 0))]
set_option maxRecDepth 100000 in
theorem ckR_word : ab_ckM mR_word kR_word = true := by decide +kernel
set_option maxRecDepth 100000 in
theorem wR_word : ab_MW mR_word 1 2 := ab_mw_ok (i1 := 68) (i2 := 847) (i3 := 848) (by decide +kernel) (ab_t4 (List.mem_of_getElem? (i := 70) rfl))
abbrev mR_send : ab_Mt := (⟨"BusServoModel", "send", "(IIJ)V"⟩, prog_12_method_7_code, 5, none)
def kR_send : ab_Cd := [
  (0, (.aload_n 0, 1, .null, 0, 0)),
  (1, (.getfield 108, 3, .ref 772, 7, 21)),
  (4, (.ifCond .eq 12, 3, .null, 0, 16)),
  (7, (.aload_n 0, 1, .null, 0, 0)),
  (8, (.getfield 93, 3, .ref 761, 7, 10)),
  (11, (.bipush 12, 2, .int 12, 0, 0)),
  (13, (.if_icmp .ne 14, 3, .null, 0, 27)),
  (16, (.aload_n 0, 1, .null, 0, 0)),
  (17, (.dup, 1, .null, 0, 0)),
  (18, (.getfield 137, 3, .ref 762, 7, 11)),
  (21, (.iconst 1, 1, .int 1, 0, 0)),
  (22, (.iadd, 1, .null, 0, 0)),
  (23, (.putfield 137, 3, .ref 762, 7, 11)),
  (26, (.return_, 1, .null, 0, 0)),
  (27, (.aload_n 0, 1, .null, 0, 0)),
  (28, (.getfield 31, 3, .ref 758, 7, 7)),
  (31, (.aload_n 0, 1, .null, 0, 0)),
  (32, (.getfield 93, 3, .ref 761, 7, 10)),
  (35, (.iload_n 1, 1, .null, 0, 0)),
  (36, (.iastore, 1, .null, 0, 0)),
  (37, (.aload_n 0, 1, .null, 0, 0)),
  (38, (.getfield 34, 3, .ref 759, 7, 8)),
  (41, (.aload_n 0, 1, .null, 0, 0)),
  (42, (.getfield 93, 3, .ref 761, 7, 10)),
  (45, (.iload_n 2, 1, .null, 0, 0)),
  (46, (.iastore, 1, .null, 0, 0)),
  (47, (.aload_n 0, 1, .null, 0, 0)),
  (48, (.getfield 37, 3, .ref 760, 7, 9)),
  (51, (.aload_n 0, 1, .null, 0, 0)),
  (52, (.getfield 93, 3, .ref 761, 7, 10)),
  (55, (.lload_n 3, 1, .null, 0, 0)),
  (56, (.lastore, 1, .null, 0, 0)),
  (57, (.aload_n 0, 1, .null, 0, 0)),
  (58, (.dup, 1, .null, 0, 0)),
  (59, (.getfield 93, 3, .ref 761, 7, 10)),
  (62, (.iconst 1, 1, .int 1, 0, 0)),
  (63, (.iadd, 1, .null, 0, 0)),
  (64, (.putfield 93, 3, .ref 761, 7, 10)),
  (67, (.return_, 1, .null, 0, 0))]
set_option maxRecDepth 100000 in
theorem ckR_send : ab_ckM mR_send kR_send = true := by decide +kernel
set_option maxRecDepth 100000 in
theorem wR_send : ab_MW mR_send 1 3 := ab_mw_ok (i1 := 68) (i2 := 749) (i3 := 32) (by decide +kernel) (ab_t3 (List.mem_of_getElem? (i := 211) rfl))
abbrev mR_next : ab_Mt := (⟨"BusServoModel", "next", "()I"⟩, prog_12_method_8_code, 3, (some .int))
def kR_next : ab_Cd := [
  (0, (.iconst (-1), 1, .int (-1), 0, 0)),
  (1, (.istore_n 1, 1, .null, 0, 0)),
  (2, (.iconst 0, 1, .int 0, 0, 0)),
  (3, (.istore_n 2, 1, .null, 0, 0)),
  (4, (.iload_n 2, 1, .null, 0, 0)),
  (5, (.aload_n 0, 1, .null, 0, 0)),
  (6, (.getfield 93, 3, .ref 761, 7, 10)),
  (9, (.if_icmp .ge 30, 3, .null, 0, 39)),
  (12, (.iload_n 1, 1, .null, 0, 0)),
  (13, (.ifCond .lt 18, 3, .null, 0, 31)),
  (16, (.aload_n 0, 1, .null, 0, 0)),
  (17, (.getfield 31, 3, .ref 758, 7, 7)),
  (20, (.iload_n 2, 1, .null, 0, 0)),
  (21, (.iaload, 1, .null, 0, 0)),
  (22, (.aload_n 0, 1, .null, 0, 0)),
  (23, (.getfield 31, 3, .ref 758, 7, 7)),
  (26, (.iload_n 1, 1, .null, 0, 0)),
  (27, (.iaload, 1, .null, 0, 0)),
  (28, (.if_icmp .ge 5, 3, .null, 0, 33)),
  (31, (.iload_n 2, 1, .null, 0, 0)),
  (32, (.istore_n 1, 1, .null, 0, 0)),
  (33, (.iinc 2 1, 3, .int 1, 0, 0)),
  (36, (.goto (-32), 3, .null, 0, 4)),
  (39, (.iload_n 1, 1, .null, 0, 0)),
  (40, (.ireturn, 1, .null, 0, 0))]
set_option maxRecDepth 100000 in
theorem ckR_next : ab_ckM mR_next kR_next = true := by decide +kernel
set_option maxRecDepth 100000 in
theorem wR_next : ab_MW mR_next 1 0 := ab_mw_ok (i1 := 68) (i2 := 856) (i3 := 33) (by decide +kernel) (ab_t4 (List.mem_of_getElem? (i := 78) rfl))
abbrev mR_nextIdentifier : ab_Mt := (⟨"BusServoModel", "nextIdentifier", "()I"⟩, prog_12_method_9_code, 2, (some .int))
def kR_nextIdentifier : ab_Cd := [
  (0, (.aload_n 0, 1, .null, 0, 0)),
  (1, (.invokevirtual 140, 3, .ref 854, 0, 0)),
  (4, (.istore_n 1, 1, .null, 0, 0)),
  (5, (.iload_n 1, 1, .null, 0, 0)),
  (6, (.ifCond .ge 7, 3, .null, 0, 13)),
  (9, (.iconst (-1), 1, .int (-1), 0, 0)),
  (10, (.goto 9, 3, .null, 0, 19)),
  (13, (.aload_n 0, 1, .null, 0, 0)),
  (14, (.getfield 31, 3, .ref 758, 7, 7)),
  (17, (.iload_n 1, 1, .null, 0, 0)),
  (18, (.iaload, 1, .null, 0, 0)),
  (19, (.ireturn, 1, .null, 0, 0))]
set_option maxRecDepth 100000 in
theorem ckR_nextIdentifier : ab_ckM mR_nextIdentifier kR_nextIdentifier = true := by decide +kernel
set_option maxRecDepth 100000 in
theorem wR_nextIdentifier : ab_MW mR_nextIdentifier 1 0 := ab_mw_ok (i1 := 68) (i2 := 851) (i3 := 852) (by decide +kernel) (ab_t4 (List.mem_of_getElem? (i := 74) rfl))
abbrev mR_nextLength : ab_Mt := (⟨"BusServoModel", "nextLength", "()I"⟩, prog_12_method_10_code, 2, (some .int))
def kR_nextLength : ab_Cd := [
  (0, (.aload_n 0, 1, .null, 0, 0)),
  (1, (.invokevirtual 140, 3, .ref 854, 0, 0)),
  (4, (.istore_n 1, 1, .null, 0, 0)),
  (5, (.iload_n 1, 1, .null, 0, 0)),
  (6, (.ifCond .ge 7, 3, .null, 0, 13)),
  (9, (.iconst (-1), 1, .int (-1), 0, 0)),
  (10, (.goto 9, 3, .null, 0, 19)),
  (13, (.aload_n 0, 1, .null, 0, 0)),
  (14, (.getfield 34, 3, .ref 759, 7, 8)),
  (17, (.iload_n 1, 1, .null, 0, 0)),
  (18, (.iaload, 1, .null, 0, 0)),
  (19, (.ireturn, 1, .null, 0, 0))]
set_option maxRecDepth 100000 in
theorem ckR_nextLength : ab_ckM mR_nextLength kR_nextLength = true := by decide +kernel
set_option maxRecDepth 100000 in
theorem wR_nextLength : ab_MW mR_nextLength 1 0 := ab_mw_ok (i1 := 68) (i2 := 859) (i3 := 860) (by decide +kernel) (ab_t4 (List.mem_of_getElem? (i := 82) rfl))
abbrev mR_nextData : ab_Mt := (⟨"BusServoModel", "nextData", "()J"⟩, prog_12_method_11_code, 2, (some .long))
def kR_nextData : ab_Cd := [
  (0, (.aload_n 0, 1, .null, 0, 0)),
  (1, (.invokevirtual 140, 3, .ref 854, 0, 0)),
  (4, (.istore_n 1, 1, .null, 0, 0)),
  (5, (.iload_n 1, 1, .null, 0, 0)),
  (6, (.ifCond .ge 7, 3, .null, 0, 13)),
  (9, (.lconst 0, 1, .long 0, 0, 0)),
  (10, (.goto 9, 3, .null, 0, 19)),
  (13, (.aload_n 0, 1, .null, 0, 0)),
  (14, (.getfield 37, 3, .ref 760, 7, 9)),
  (17, (.iload_n 1, 1, .null, 0, 0)),
  (18, (.laload, 1, .null, 0, 0)),
  (19, (.lreturn, 1, .null, 0, 0))]
set_option maxRecDepth 100000 in
theorem ckR_nextData : ab_ckM mR_nextData kR_nextData = true := by decide +kernel
set_option maxRecDepth 100000 in
theorem wR_nextData : ab_MW mR_nextData 1 0 := ab_mw_ok (i1 := 68) (i2 := 863) (i3 := 864) (by decide +kernel) (ab_t4 (List.mem_of_getElem? (i := 86) rfl))
abbrev mR_take : ab_Mt := (⟨"BusServoModel", "take", "()Z"⟩, prog_12_method_12_code, 3, (some .boolean))
def kR_take : ab_Cd := [
  (0, (.aload_n 0, 1, .null, 0, 0)),
  (1, (.invokevirtual 140, 3, .ref 854, 0, 0)),
  (4, (.istore_n 1, 1, .null, 0, 0)),
  (5, (.iload_n 1, 1, .null, 0, 0)),
  (6, (.ifCond .ge 5, 3, .null, 0, 11)),
  (9, (.iconst 0, 1, .int 0, 0, 0)),
  (10, (.ireturn, 1, .null, 0, 0)),
  (11, (.iload_n 1, 1, .null, 0, 0)),
  (12, (.iconst 1, 1, .int 1, 0, 0)),
  (13, (.iadd, 1, .null, 0, 0)),
  (14, (.istore_n 2, 1, .null, 0, 0)),
  (15, (.iload_n 2, 1, .null, 0, 0)),
  (16, (.aload_n 0, 1, .null, 0, 0)),
  (17, (.getfield 93, 3, .ref 761, 7, 10)),
  (20, (.if_icmp .ge 51, 3, .null, 0, 71)),
  (23, (.aload_n 0, 1, .null, 0, 0)),
  (24, (.getfield 31, 3, .ref 758, 7, 7)),
  (27, (.iload_n 2, 1, .null, 0, 0)),
  (28, (.iconst 1, 1, .int 1, 0, 0)),
  (29, (.isub, 1, .null, 0, 0)),
  (30, (.aload_n 0, 1, .null, 0, 0)),
  (31, (.getfield 31, 3, .ref 758, 7, 7)),
  (34, (.iload_n 2, 1, .null, 0, 0)),
  (35, (.iaload, 1, .null, 0, 0)),
  (36, (.iastore, 1, .null, 0, 0)),
  (37, (.aload_n 0, 1, .null, 0, 0)),
  (38, (.getfield 34, 3, .ref 759, 7, 8)),
  (41, (.iload_n 2, 1, .null, 0, 0)),
  (42, (.iconst 1, 1, .int 1, 0, 0)),
  (43, (.isub, 1, .null, 0, 0)),
  (44, (.aload_n 0, 1, .null, 0, 0)),
  (45, (.getfield 34, 3, .ref 759, 7, 8)),
  (48, (.iload_n 2, 1, .null, 0, 0)),
  (49, (.iaload, 1, .null, 0, 0)),
  (50, (.iastore, 1, .null, 0, 0)),
  (51, (.aload_n 0, 1, .null, 0, 0)),
  (52, (.getfield 37, 3, .ref 760, 7, 9)),
  (55, (.iload_n 2, 1, .null, 0, 0)),
  (56, (.iconst 1, 1, .int 1, 0, 0)),
  (57, (.isub, 1, .null, 0, 0)),
  (58, (.aload_n 0, 1, .null, 0, 0)),
  (59, (.getfield 37, 3, .ref 760, 7, 9)),
  (62, (.iload_n 2, 1, .null, 0, 0)),
  (63, (.laload, 1, .null, 0, 0)),
  (64, (.lastore, 1, .null, 0, 0)),
  (65, (.iinc 2 1, 3, .int 1, 0, 0)),
  (68, (.goto (-53), 3, .null, 0, 15)),
  (71, (.aload_n 0, 1, .null, 0, 0)),
  (72, (.dup, 1, .null, 0, 0)),
  (73, (.getfield 93, 3, .ref 761, 7, 10)),
  (76, (.iconst 1, 1, .int 1, 0, 0)),
  (77, (.isub, 1, .null, 0, 0)),
  (78, (.putfield 93, 3, .ref 761, 7, 10)),
  (81, (.iconst 1, 1, .int 1, 0, 0)),
  (82, (.ireturn, 1, .null, 0, 0))]
set_option maxRecDepth 100000 in
theorem ckR_take : ab_ckM mR_take kR_take = true := by decide +kernel
set_option maxRecDepth 100000 in
theorem wR_take : ab_MW mR_take 1 0 := ab_mw_ok (i1 := 68) (i2 := 867) (i3 := 868) (by decide +kernel) (ab_t4 (List.mem_of_getElem? (i := 90) rfl))
abbrev mR_waiting : ab_Mt := (⟨"BusServoModel", "waiting", "()I"⟩, prog_12_method_13_code, 1, (some .int))
def kR_waiting : ab_Cd := [
  (0, (.aload_n 0, 1, .null, 0, 0)),
  (1, (.getfield 93, 3, .ref 761, 7, 10)),
  (4, (.ireturn, 1, .null, 0, 0))]
set_option maxRecDepth 100000 in
theorem ckR_waiting : ab_ckM mR_waiting kR_waiting = true := by decide +kernel
set_option maxRecDepth 100000 in
theorem wR_waiting : ab_MW mR_waiting 1 0 := ab_mw_ok (i1 := 68) (i2 := 871) (i3 := 872) (by decide +kernel) (ab_t4 (List.mem_of_getElem? (i := 94) rfl))
abbrev mR_lost : ab_Mt := (⟨"BusServoModel", "lost", "()I"⟩, prog_12_method_14_code, 1, (some .int))
def kR_lost : ab_Cd := [
  (0, (.aload_n 0, 1, .null, 0, 0)),
  (1, (.getfield 137, 3, .ref 762, 7, 11)),
  (4, (.ireturn, 1, .null, 0, 0))]
set_option maxRecDepth 100000 in
theorem ckR_lost : ab_ckM mR_lost kR_lost = true := by decide +kernel
set_option maxRecDepth 100000 in
theorem wR_lost : ab_MW mR_lost 1 0 := ab_mw_ok (i1 := 68) (i2 := 875) (i3 := 876) (by decide +kernel) (ab_t4 (List.mem_of_getElem? (i := 98) rfl))
abbrev mR_bus : ab_Mt := (⟨"BusServoModel", "bus", "(Z)V"⟩, prog_12_method_15_code, 2, none)
def kR_bus : ab_Cd := [
  (0, (.iload_n 1, 1, .null, 0, 0)),
  (1, (.aload_n 0, 1, .null, 0, 0)),
  (2, (.getfield 108, 3, .ref 772, 7, 21)),
  (5, (.if_icmp .ne 4, 3, .null, 0, 9)),
  (8, (.return_, 1, .null, 0, 0)),
  (9, (.aload_n 0, 1, .null, 0, 0)),
  (10, (.iload_n 1, 1, .null, 0, 0)),
  (11, (.putfield 108, 3, .retAddr 772, 7, 21)),
  (14, (.iload_n 1, 1, .null, 0, 0)),
  (15, (.ifCond .ne 14, 3, .null, 0, 29)),
  (18, (.aload_n 0, 1, .null, 0, 0)),
  (19, (.iconst 0, 1, .int 0, 0, 0)),
  (20, (.putfield 93, 3, .ref 761, 7, 10)),
  (23, (.aload_n 0, 1, .null, 0, 0)),
  (24, (.ldc 144, 2, .int 33088, 0, 882)),
  (26, (.invokevirtual 145, 3, .ref 883, 0, 0)),
  (29, (.return_, 1, .null, 0, 0))]
set_option maxRecDepth 100000 in
theorem ckR_bus : ab_ckM mR_bus kR_bus = true := by decide +kernel
set_option maxRecDepth 100000 in
theorem wR_bus : ab_MW mR_bus 1 1 := ab_mw_ok (i1 := 68) (i2 := 879) (i3 := 880) (by decide +kernel) (ab_t4 (List.mem_of_getElem? (i := 102) rfl))
abbrev mR_emergency : ab_Mt := (⟨"BusServoModel", "emergency", "(I)V"⟩, prog_12_method_16_code, 2, none)
def kR_emergency : ab_Cd := [
  (0, (.aload_n 0, 1, .null, 0, 0)),
  (1, (.getfield 99, 3, .ref 769, 7, 18)),
  (4, (.iconst 4, 1, .int 4, 0, 0)),
  (5, (.if_icmp .eq 30, 3, .null, 0, 35)),
  (8, (.aload_n 0, 1, .null, 0, 0)),
  (9, (.sipush 128, 3, .int 128, 0, 0)),
  (12, (.aload_n 0, 1, .null, 0, 0)),
  (13, (.getfield 50, 3, .ref 768, 7, 17)),
  (16, (.iadd, 1, .null, 0, 0)),
  (17, (.bipush 8, 2, .int 8, 0, 0)),
  (19, (.iload_n 1, 1, .null, 0, 0)),
  (20, (.i2l, 1, .null, 0, 0)),
  (21, (.aload_n 0, 1, .null, 0, 0)),
  (22, (.getfield 28, 3, .ref 757, 7, 6)),
  (25, (.iconst 0, 1, .int 0, 0, 0)),
  (26, (.iaload, 1, .null, 1, 0)),
  (27, (.i2l, 1, .null, 0, 0)),
  (28, (.bipush 16, 2, .int 16, 0, 0)),
  (30, (.lshl, 1, .null, 0, 0)),
  (31, (.lor, 1, .null, 0, 0)),
  (32, (.invokevirtual 130, 3, .ref 747, 0, 0)),
  (35, (.return_, 1, .null, 0, 0))]
set_option maxRecDepth 100000 in
theorem ckR_emergency : ab_ckM mR_emergency kR_emergency = true := by decide +kernel
set_option maxRecDepth 100000 in
theorem wR_emergency : ab_MW mR_emergency 1 1 := ab_mw_ok (i1 := 68) (i2 := 890) (i3 := 35) (by decide +kernel) (ab_t4 (List.mem_of_getElem? (i := 112) rfl))
abbrev mR_fault : ab_Mt := (⟨"BusServoModel", "fault", "(I)V"⟩, prog_12_method_17_code, 2, none)
def kR_fault : ab_Cd := [
  (0, (.aload_n 0, 1, .null, 0, 0)),
  (1, (.getfield 102, 3, .ref 770, 7, 19)),
  (4, (.bipush 6, 2, .int 6, 0, 0)),
  (6, (.if_icmp .lt 4, 3, .null, 0, 10)),
  (9, (.return_, 1, .null, 0, 0)),
  (10, (.aload_n 0, 1, .null, 0, 0)),
  (11, (.aload_n 0, 1, .null, 0, 0)),
  (12, (.getfield 102, 3, .ref 770, 7, 19)),
  (15, (.iconst 4, 1, .int 4, 0, 0)),
  (16, (.if_icmp .lt 8, 3, .null, 0, 24)),
  (19, (.bipush 6, 2, .int 6, 0, 0)),
  (21, (.goto 5, 3, .null, 0, 26)),
  (24, (.bipush 7, 2, .int 7, 0, 0)),
  (26, (.putfield 102, 3, .ref 770, 7, 19)),
  (29, (.aload_n 0, 1, .null, 0, 0)),
  (30, (.getfield 28, 3, .ref 757, 7, 6)),
  (33, (.iconst 0, 1, .int 0, 0, 0)),
  (34, (.iload_n 1, 1, .null, 0, 0)),
  (35, (.ldc 149, 2, .int 34321, 0, 887)),
  (37, (.if_icmp .ne 8, 3, .null, 0, 45)),
  (40, (.bipush 33, 2, .int 33, 0, 0)),
  (42, (.goto 5, 3, .null, 0, 47)),
  (45, (.bipush 17, 2, .int 17, 0, 0)),
  (47, (.iastore, 1, .null, 0, 0)),
  (48, (.aload_n 0, 1, .null, 0, 0)),
  (49, (.iload_n 1, 1, .null, 0, 0)),
  (50, (.invokevirtual 150, 3, .ref 888, 0, 0)),
  (53, (.return_, 1, .null, 0, 0))]
set_option maxRecDepth 100000 in
theorem ckR_fault : ab_ckM mR_fault kR_fault = true := by decide +kernel
set_option maxRecDepth 100000 in
theorem wR_fault : ab_MW mR_fault 1 1 := ab_mw_ok (i1 := 68) (i2 := 885) (i3 := 34) (by decide +kernel) (ab_t4 (List.mem_of_getElem? (i := 107) rfl))
abbrev mR_receive : ab_Mt := (⟨"BusServoModel", "receive", "(IIJ)I"⟩, prog_12_method_18_code, 6, (some .int))
def kR_receive_0 : ab_Cd := [
  (0, (.iload_n 1, 1, .null, 0, 0)),
  (1, (.ifCond .lt 20, 3, .null, 0, 21)),
  (4, (.iload_n 1, 1, .null, 0, 0)),
  (5, (.sipush 2047, 3, .int 2047, 0, 0)),
  (8, (.if_icmp .gt 13, 3, .null, 0, 21)),
  (11, (.iload_n 2, 1, .null, 0, 0)),
  (12, (.ifCond .lt 9, 3, .null, 0, 21)),
  (15, (.iload_n 2, 1, .null, 0, 0)),
  (16, (.bipush 8, 2, .int 8, 0, 0)),
  (18, (.if_icmp .le 5, 3, .null, 0, 23)),
  (21, (.iconst (-1), 1, .int (-1), 0, 0)),
  (22, (.ireturn, 1, .null, 0, 0)),
  (23, (.aload_n 0, 1, .null, 0, 0)),
  (24, (.getfield 108, 3, .ref 772, 7, 21)),
  (27, (.ifCond .ne 5, 3, .null, 0, 32)),
  (30, (.iconst 0, 1, .int 0, 0, 0)),
  (31, (.ireturn, 1, .null, 0, 0)),
  (32, (.iload_n 1, 1, .null, 0, 0)),
  (33, (.ifCond .ne 32, 3, .null, 0, 65)),
  (36, (.iload_n 2, 1, .null, 0, 0)),
  (37, (.iconst 2, 1, .int 2, 0, 0)),
  (38, (.if_icmp .ne 25, 3, .null, 0, 63)),
  (41, (.aload_n 0, 1, .null, 0, 0)),
  (42, (.lload_n 3, 1, .null, 0, 0)),
  (43, (.ldc2_w 153, 3, .long 255, 0, 896)),
  (46, (.land, 1, .null, 0, 0)),
  (47, (.l2i, 1, .null, 0, 0)),
  (48, (.lload_n 3, 1, .null, 0, 0)),
  (49, (.bipush 8, 2, .int 8, 0, 0)),
  (51, (.lshr, 1, .null, 0, 0)),
  (52, (.ldc2_w 153, 3, .long 255, 0, 896)),
  (55, (.land, 1, .null, 0, 0)),
  (56, (.l2i, 1, .null, 0, 0)),
  (57, (.invokevirtual 155, 3, .ref 897, 0, 0)),
  (60, (.goto 4, 3, .null, 0, 64)),
  (63, (.iconst 0, 1, .int 0, 0, 0)),
  (64, (.ireturn, 1, .null, 0, 0)),
  (65, (.iload_n 1, 1, .null, 0, 0)),
  (66, (.sipush 128, 3, .int 128, 0, 0)),
  (69, (.if_icmp .ne 8, 3, .null, 0, 77)),
  (72, (.aload_n 0, 1, .null, 0, 0)),
  (73, (.invokevirtual 159, 3, .ref 901, 0, 0)),
  (76, (.ireturn, 1, .null, 0, 0)),
  (77, (.iload_n 1, 1, .null, 0, 0)),
  (78, (.sipush 512, 3, .int 512, 0, 0)),
  (81, (.aload_n 0, 1, .null, 0, 0)),
  (82, (.getfield 50, 3, .ref 768, 7, 17)),
  (85, (.iadd, 1, .null, 0, 0)),
  (86, (.if_icmp .ne 10, 3, .null, 0, 96))]
set_option maxRecDepth 100000 in
theorem ckR_receive_0 : ab_ckM mR_receive kR_receive_0 = true := by decide +kernel
def kR_receive_1 : ab_Cd := [
  (89, (.aload_n 0, 1, .null, 0, 0)),
  (90, (.iload_n 2, 1, .null, 0, 0)),
  (91, (.lload_n 3, 1, .null, 0, 0)),
  (92, (.invokevirtual 162, 3, .ref 937, 0, 0)),
  (95, (.ireturn, 1, .null, 0, 0)),
  (96, (.iload_n 1, 1, .null, 0, 0)),
  (97, (.sipush 1536, 3, .int 1536, 0, 0)),
  (100, (.aload_n 0, 1, .null, 0, 0)),
  (101, (.getfield 50, 3, .ref 768, 7, 17)),
  (104, (.iadd, 1, .null, 0, 0)),
  (105, (.if_icmp .ne 19, 3, .null, 0, 124)),
  (108, (.iload_n 2, 1, .null, 0, 0)),
  (109, (.bipush 8, 2, .int 8, 0, 0)),
  (111, (.if_icmp .ne 11, 3, .null, 0, 122)),
  (114, (.aload_n 0, 1, .null, 0, 0)),
  (115, (.lload_n 3, 1, .null, 0, 0)),
  (116, (.invokevirtual 166, 3, .ref 944, 0, 0)),
  (119, (.goto 4, 3, .null, 0, 123)),
  (122, (.iconst 0, 1, .int 0, 0, 0)),
  (123, (.ireturn, 1, .null, 0, 0)),
  (124, (.aload_n 0, 1, .null, 0, 0)),
  (125, (.getfield 28, 3, .ref 757, 7, 6)),
  (128, (.iconst 3, 1, .int 3, 0, 0)),
  (129, (.iaload, 1, .null, 1, 0)),
  (130, (.bipush 16, 2, .int 16, 0, 0)),
  (132, (.ishr, 1, .null, 0, 0)),
  (133, (.istore 5, 2, .null, 0, 0)),
  (135, (.iload 5, 2, .null, 0, 0)),
  (137, (.iconst 1, 1, .int 1, 0, 0)),
  (138, (.if_icmp .lt 30, 3, .null, 0, 168)),
  (141, (.iload_n 1, 1, .null, 0, 0)),
  (142, (.sipush 1792, 3, .int 1792, 0, 0)),
  (145, (.iload 5, 2, .null, 0, 0)),
  (147, (.iadd, 1, .null, 0, 0)),
  (148, (.if_icmp .ne 20, 3, .null, 0, 168)),
  (151, (.iload_n 2, 1, .null, 0, 0)),
  (152, (.iconst 1, 1, .int 1, 0, 0)),
  (153, (.if_icmp .ne 15, 3, .null, 0, 168)),
  (156, (.aload_n 0, 1, .null, 0, 0)),
  (157, (.getfield 28, 3, .ref 757, 7, 6)),
  (160, (.iconst 3, 1, .int 3, 0, 0)),
  (161, (.iaload, 1, .null, 1, 0)),
  (162, (.ldc 66, 2, .int 65535, 0, 719)),
  (164, (.iand, 1, .null, 0, 0)),
  (165, (.ifCond .ne 5, 3, .null, 0, 170)),
  (168, (.iconst 0, 1, .int 0, 0, 0)),
  (169, (.ireturn, 1, .null, 0, 0)),
  (170, (.aload_n 0, 1, .null, 0, 0)),
  (171, (.iconst 1, 1, .int 1, 0, 0))]
set_option maxRecDepth 100000 in
theorem ckR_receive_1 : ab_ckM mR_receive kR_receive_1 = true := by decide +kernel
def kR_receive_2 : ab_Cd := [
  (172, (.putfield 112, 3, .ref 773, 7, 22)),
  (175, (.aload_n 0, 1, .null, 0, 0)),
  (176, (.iconst 0, 1, .int 0, 0, 0)),
  (177, (.putfield 124, 3, .ref 777, 7, 26)),
  (180, (.iconst 5, 1, .int 5, 0, 0)),
  (181, (.ireturn, 1, .null, 0, 0))]
set_option maxRecDepth 100000 in
theorem ckR_receive_2 : ab_ckM mR_receive kR_receive_2 = true := by decide +kernel
def kR_receive : ab_Cd := kR_receive_0 ++ (kR_receive_1 ++ (kR_receive_2))
theorem ckR_receive : ab_ckM mR_receive kR_receive = true := ab_ck_app ckR_receive_0 (ab_ck_app ckR_receive_1 (ckR_receive_2))
set_option maxRecDepth 100000 in
theorem wR_receive : ab_MW mR_receive 1 3 := ab_mw_ok (i1 := 68) (i2 := 893) (i3 := 894) (by decide +kernel) (ab_t4 (List.mem_of_getElem? (i := 116) rfl))
abbrev mR_state : ab_Mt := (⟨"BusServoModel", "state", "(II)I"⟩, prog_12_method_19_code, 3, (some .int))
def kR_state : ab_Cd := [
  (0, (.iload_n 2, 1, .null, 0, 0)),
  (1, (.ifCond .eq 13, 3, .null, 0, 14)),
  (4, (.iload_n 2, 1, .null, 0, 0)),
  (5, (.aload_n 0, 1, .null, 0, 0)),
  (6, (.getfield 50, 3, .ref 768, 7, 17)),
  (9, (.if_icmp .eq 5, 3, .null, 0, 14)),
  (12, (.iconst 0, 1, .int 0, 0, 0)),
  (13, (.ireturn, 1, .null, 0, 0)),
  (14, (.iload_n 1, 1, .null, 0, 0)),
  (15, (.sipush 129, 3, .int 129, 0, 0)),
  (18, (.if_icmp .ne 10, 3, .null, 0, 28)),
  (21, (.aload_n 0, 1, .null, 0, 0)),
  (22, (.invokevirtual 90, 3, .ref 743, 0, 0)),
  (25, (.goto 71, 3, .null, 0, 96)),
  (28, (.iload_n 1, 1, .null, 0, 0)),
  (29, (.iconst 1, 1, .int 1, 0, 0)),
  (30, (.if_icmp .ne 35, 3, .null, 0, 65)),
  (33, (.aload_n 0, 1, .null, 0, 0)),
  (34, (.aload_n 0, 1, .null, 0, 0)),
  (35, (.getfield 118, 3, .ref 775, 7, 24)),
  (38, (.ifCond .eq 15, 3, .null, 0, 53)),
  (41, (.aload_n 0, 1, .null, 0, 0)),
  (42, (.getfield 99, 3, .ref 769, 7, 18)),
  (45, (.iconst 5, 1, .int 5, 0, 0)),
  (46, (.if_icmp .ne 7, 3, .null, 0, 53)),
  (49, (.iconst 1, 1, .int 1, 0, 0)),
  (50, (.goto 4, 3, .null, 0, 54)),
  (53, (.iconst 0, 1, .int 0, 0, 0)),
  (54, (.putfield 118, 3, .retAddr 775, 7, 24)),
  (57, (.aload_n 0, 1, .null, 0, 0)),
  (58, (.iconst 5, 1, .int 5, 0, 0)),
  (59, (.putfield 99, 3, .ref 769, 7, 18)),
  (62, (.goto 34, 3, .null, 0, 96)),
  (65, (.iload_n 1, 1, .null, 0, 0)),
  (66, (.iconst 2, 1, .int 2, 0, 0)),
  (67, (.if_icmp .ne 11, 3, .null, 0, 78)),
  (70, (.aload_n 0, 1, .null, 0, 0)),
  (71, (.iconst 4, 1, .int 4, 0, 0)),
  (72, (.putfield 99, 3, .ref 769, 7, 18)),
  (75, (.goto 21, 3, .null, 0, 96)),
  (78, (.iload_n 1, 1, .null, 0, 0)),
  (79, (.sipush 128, 3, .int 128, 0, 0)),
  (82, (.if_icmp .ne 12, 3, .null, 0, 94)),
  (85, (.aload_n 0, 1, .null, 0, 0)),
  (86, (.bipush 127, 2, .int 127, 0, 0)),
  (88, (.putfield 99, 3, .ref 769, 7, 18)),
  (91, (.goto 5, 3, .null, 0, 96)),
  (94, (.iconst 0, 1, .int 0, 0, 0)),
  (95, (.ireturn, 1, .null, 0, 0)),
  (96, (.iconst 1, 1, .int 1, 0, 0)),
  (97, (.ireturn, 1, .null, 0, 0))]
set_option maxRecDepth 100000 in
theorem ckR_state : ab_ckM mR_state kR_state = true := by decide +kernel
set_option maxRecDepth 100000 in
theorem wR_state : ab_MW mR_state 1 2 := ab_mw_ok (i1 := 68) (i2 := 899) (i3 := 36) (by decide +kernel) (ab_t4 (List.mem_of_getElem? (i := 121) rfl))
abbrev mR_sync : ab_Mt := (⟨"BusServoModel", "sync", "()I"⟩, prog_12_method_20_code, 1, (some .int))
def kR_sync : ab_Cd := [
  (0, (.aload_n 0, 1, .null, 0, 0)),
  (1, (.getfield 99, 3, .ref 769, 7, 18)),
  (4, (.iconst 5, 1, .int 5, 0, 0)),
  (5, (.if_icmp .eq 5, 3, .null, 0, 10)),
  (8, (.iconst 0, 1, .int 0, 0, 0)),
  (9, (.ireturn, 1, .null, 0, 0)),
  (10, (.aload_n 0, 1, .null, 0, 0)),
  (11, (.getfield 28, 3, .ref 757, 7, 6)),
  (14, (.bipush 9, 2, .int 9, 0, 0)),
  (16, (.iaload, 1, .null, 1, 0)),
  (17, (.iconst 1, 1, .int 1, 0, 0)),
  (18, (.if_icmp .lt 16, 3, .null, 0, 34)),
  (21, (.aload_n 0, 1, .null, 0, 0)),
  (22, (.getfield 28, 3, .ref 757, 7, 6)),
  (25, (.bipush 9, 2, .int 9, 0, 0)),
  (27, (.iaload, 1, .null, 1, 0)),
  (28, (.sipush 240, 3, .int 240, 0, 0)),
  (31, (.if_icmp .le 5, 3, .null, 0, 36)),
  (34, (.iconst 2, 1, .int 2, 0, 0)),
  (35, (.ireturn, 1, .null, 0, 0)),
  (36, (.aload_n 0, 1, .null, 0, 0)),
  (37, (.dup, 1, .null, 0, 0)),
  (38, (.getfield 127, 3, .ref 778, 7, 27)),
  (41, (.iconst 1, 1, .int 1, 0, 0)),
  (42, (.iadd, 1, .null, 0, 0)),
  (43, (.putfield 127, 3, .ref 778, 7, 27)),
  (46, (.aload_n 0, 1, .null, 0, 0)),
  (47, (.getfield 127, 3, .ref 778, 7, 27)),
  (50, (.aload_n 0, 1, .null, 0, 0)),
  (51, (.getfield 28, 3, .ref 757, 7, 6)),
  (54, (.bipush 9, 2, .int 9, 0, 0)),
  (56, (.iaload, 1, .null, 1, 0)),
  (57, (.if_icmp .lt 12, 3, .null, 0, 69)),
  (60, (.aload_n 0, 1, .null, 0, 0)),
  (61, (.iconst 0, 1, .int 0, 0, 0)),
  (62, (.putfield 127, 3, .ref 778, 7, 27)),
  (65, (.aload_n 0, 1, .null, 0, 0)),
  (66, (.invokevirtual 170, 3, .ref 905, 0, 0)),
  (69, (.iconst 2, 1, .int 2, 0, 0)),
  (70, (.ireturn, 1, .null, 0, 0))]
set_option maxRecDepth 100000 in
theorem ckR_sync : ab_ckM mR_sync kR_sync = true := by decide +kernel
set_option maxRecDepth 100000 in
theorem wR_sync : ab_MW mR_sync 1 0 := ab_mw_ok (i1 := 68) (i2 := 903) (i3 := 37) (by decide +kernel) (ab_t4 (List.mem_of_getElem? (i := 125) rfl))
abbrev mR_find : ab_Mt := (⟨"BusServoModel", "find", "(I)I"⟩, prog_12_method_21_code, 3, (some .int))
def kR_find : ab_Cd := [
  (0, (.iconst 0, 1, .int 0, 0, 0)),
  (1, (.istore_n 2, 1, .null, 0, 0)),
  (2, (.iload_n 2, 1, .null, 0, 0)),
  (3, (.bipush 30, 2, .int 30, 0, 0)),
  (5, (.if_icmp .ge 21, 3, .null, 0, 26)),
  (8, (.aload_n 0, 1, .null, 0, 0)),
  (9, (.getfield 7, 3, .ref 751, 7, 0)),
  (12, (.iload_n 2, 1, .null, 0, 0)),
  (13, (.iaload, 1, .null, 0, 0)),
  (14, (.iload_n 1, 1, .null, 0, 0)),
  (15, (.if_icmp .ne 5, 3, .null, 0, 20)),
  (18, (.iload_n 2, 1, .null, 0, 0)),
  (19, (.ireturn, 1, .null, 0, 0)),
  (20, (.iinc 2 1, 3, .int 1, 0, 0)),
  (23, (.goto (-21), 3, .null, 0, 2)),
  (26, (.iconst (-1), 1, .int (-1), 0, 0)),
  (27, (.ireturn, 1, .null, 0, 0))]
set_option maxRecDepth 100000 in
theorem ckR_find : ab_ckM mR_find kR_find = true := by decide +kernel
set_option maxRecDepth 100000 in
theorem wR_find : ab_MW mR_find 1 1 := ab_mw_ok (i1 := 68) (i2 := 915) (i3 := 40) (by decide +kernel) (ab_t4 (List.mem_of_getElem? (i := 137) rfl))
abbrev mR_size : ab_Mt := (⟨"BusServoModel", "size", "(I)I"⟩, prog_12_method_22_code, 5, (some .int))
def kR_size : ab_Cd := [
  (0, (.iconst 0, 1, .int 0, 0, 0)),
  (1, (.istore_n 2, 1, .null, 0, 0)),
  (2, (.iconst 1, 1, .int 1, 0, 0)),
  (3, (.istore_n 3, 1, .null, 0, 0)),
  (4, (.iload_n 3, 1, .null, 0, 0)),
  (5, (.aload_n 0, 1, .null, 0, 0)),
  (6, (.getfield 28, 3, .ref 757, 7, 6)),
  (9, (.iload_n 1, 1, .null, 0, 0)),
  (10, (.iaload, 1, .null, 0, 0)),
  (11, (.if_icmp .gt 45, 3, .null, 0, 56)),
  (14, (.aload_n 0, 1, .null, 0, 0)),
  (15, (.aload_n 0, 1, .null, 0, 0)),
  (16, (.getfield 28, 3, .ref 757, 7, 6)),
  (19, (.iload_n 1, 1, .null, 0, 0)),
  (20, (.iload_n 3, 1, .null, 0, 0)),
  (21, (.iadd, 1, .null, 0, 0)),
  (22, (.iaload, 1, .null, 0, 0)),
  (23, (.bipush 8, 2, .int 8, 0, 0)),
  (25, (.iushr, 1, .null, 0, 0)),
  (26, (.invokevirtual 173, 3, .ref 913, 0, 0)),
  (29, (.istore 4, 2, .null, 0, 0)),
  (31, (.iload_n 2, 1, .null, 0, 0)),
  (32, (.iload 4, 2, .null, 0, 0)),
  (34, (.ifCond .ge 7, 3, .null, 0, 41)),
  (37, (.iconst 0, 1, .int 0, 0, 0)),
  (38, (.goto 10, 3, .null, 0, 48)),
  (41, (.aload_n 0, 1, .null, 0, 0)),
  (42, (.getfield 13, 3, .ref 752, 7, 1)),
  (45, (.iload 4, 2, .null, 0, 0)),
  (47, (.iaload, 1, .null, 0, 0)),
  (48, (.iadd, 1, .null, 0, 0)),
  (49, (.istore_n 2, 1, .null, 0, 0)),
  (50, (.iinc 3 1, 3, .int 1, 0, 0)),
  (53, (.goto (-49), 3, .null, 0, 4)),
  (56, (.iload_n 2, 1, .null, 0, 0)),
  (57, (.ireturn, 1, .null, 0, 0))]
set_option maxRecDepth 100000 in
theorem ckR_size : ab_ckM mR_size kR_size = true := by decide +kernel
set_option maxRecDepth 100000 in
theorem wR_size : ab_MW mR_size 1 1 := ab_mw_ok (i1 := 68) (i2 := 935) (i3 := 43) (by decide +kernel) (ab_t4 (List.mem_of_getElem? (i := 157) rfl))
abbrev mR_cut : ab_Mt := (⟨"BusServoModel", "cut", "(II)I"⟩, prog_12_method_23_code, 2, (some .int))
def kR_cut : ab_Cd := [
  (0, (.iload_n 1, 1, .null, 0, 0)),
  (1, (.iconst 1, 1, .int 1, 0, 0)),
  (2, (.if_icmp .ne 11, 3, .null, 0, 13)),
  (5, (.iload_n 0, 1, .null, 0, 0)),
  (6, (.sipush 255, 3, .int 255, 0, 0)),
  (9, (.iand, 1, .null, 0, 0)),
  (10, (.goto 16, 3, .null, 0, 26)),
  (13, (.iload_n 1, 1, .null, 0, 0)),
  (14, (.iconst 2, 1, .int 2, 0, 0)),
  (15, (.if_icmp .ne 10, 3, .null, 0, 25)),
  (18, (.iload_n 0, 1, .null, 0, 0)),
  (19, (.ldc 66, 2, .int 65535, 0, 719)),
  (21, (.iand, 1, .null, 0, 0)),
  (22, (.goto 4, 3, .null, 0, 26)),
  (25, (.iload_n 0, 1, .null, 0, 0)),
  (26, (.ireturn, 1, .null, 0, 0))]
set_option maxRecDepth 100000 in
theorem ckR_cut : ab_ckM mR_cut kR_cut = true := by decide +kernel
set_option maxRecDepth 100000 in
theorem wR_cut : ab_MW mR_cut 0 2 := ab_mw_ok (i1 := 68) (i2 := 942) (i3 := 0) (by decide +kernel) (ab_t4 (List.mem_of_getElem? (i := 164) rfl))
abbrev mR_mapped : ab_Mt := (⟨"BusServoModel", "mapped", "(IJ)I"⟩, prog_12_method_24_code, 9, (some .int))
def kR_mapped_0 : ab_Cd := [
  (0, (.aload_n 0, 1, .null, 0, 0)),
  (1, (.iconst 5, 1, .int 5, 0, 0)),
  (2, (.invokevirtual 177, 3, .ref 933, 0, 0)),
  (5, (.istore 4, 2, .null, 0, 0)),
  (7, (.aload_n 0, 1, .null, 0, 0)),
  (8, (.getfield 99, 3, .ref 769, 7, 18)),
  (11, (.iconst 5, 1, .int 5, 0, 0)),
  (12, (.if_icmp .ne 18, 3, .null, 0, 30)),
  (15, (.aload_n 0, 1, .null, 0, 0)),
  (16, (.getfield 28, 3, .ref 757, 7, 6)),
  (19, (.iconst 5, 1, .int 5, 0, 0)),
  (20, (.iaload, 1, .null, 1, 0)),
  (21, (.ifCond .eq 9, 3, .null, 0, 30)),
  (24, (.iload_n 1, 1, .null, 0, 0)),
  (25, (.iload 4, 2, .null, 0, 0)),
  (27, (.if_icmp .ge 5, 3, .null, 0, 32)),
  (30, (.iconst 0, 1, .int 0, 0, 0)),
  (31, (.ireturn, 1, .null, 0, 0)),
  (32, (.iconst 0, 1, .int 0, 0, 0)),
  (33, (.istore 5, 2, .null, 0, 0)),
  (35, (.iconst 1, 1, .int 1, 0, 0)),
  (36, (.istore 6, 2, .null, 0, 0)),
  (38, (.iload 6, 2, .null, 0, 0)),
  (40, (.aload_n 0, 1, .null, 0, 0)),
  (41, (.getfield 28, 3, .ref 757, 7, 6)),
  (44, (.iconst 5, 1, .int 5, 0, 0)),
  (45, (.iaload, 1, .null, 1, 0)),
  (46, (.if_icmp .gt 105, 3, .null, 0, 151)),
  (49, (.aload_n 0, 1, .null, 0, 0)),
  (50, (.aload_n 0, 1, .null, 0, 0)),
  (51, (.getfield 28, 3, .ref 757, 7, 6)),
  (54, (.iconst 5, 1, .int 5, 0, 0)),
  (55, (.iload 6, 2, .null, 0, 0)),
  (57, (.iadd, 1, .null, 0, 0)),
  (58, (.iaload, 1, .null, 0, 0)),
  (59, (.bipush 8, 2, .int 8, 0, 0)),
  (61, (.iushr, 1, .null, 0, 0)),
  (62, (.invokevirtual 173, 3, .ref 913, 0, 0)),
  (65, (.istore 7, 2, .null, 0, 0)),
  (67, (.lload_n 2, 1, .null, 0, 0)),
  (68, (.bipush 8, 2, .int 8, 0, 0)),
  (70, (.iload 5, 2, .null, 0, 0)),
  (72, (.imul, 1, .null, 0, 0)),
  (73, (.lushr, 1, .null, 0, 0)),
  (74, (.l2i, 1, .null, 0, 0)),
  (75, (.aload_n 0, 1, .null, 0, 0)),
  (76, (.getfield 13, 3, .ref 752, 7, 1)),
  (79, (.iload 7, 2, .null, 0, 0)),
  (81, (.iaload, 1, .null, 0, 0)),
  (82, (.invokestatic 180, 3, .ref 941, 0, 0)),
  (85, (.istore 8, 2, .null, 0, 0)),
  (87, (.iload 5, 2, .null, 0, 0)),
  (89, (.aload_n 0, 1, .null, 0, 0)),
  (90, (.getfield 13, 3, .ref 752, 7, 1)),
  (93, (.iload 7, 2, .null, 0, 0)),
  (95, (.iaload, 1, .null, 0, 0)),
  (96, (.iadd, 1, .null, 0, 0)),
  (97, (.istore 5, 2, .null, 0, 0))]
set_option maxRecDepth 100000 in
theorem ckR_mapped_0 : ab_ckM mR_mapped kR_mapped_0 = true := by decide +kernel
def kR_mapped_1 : ab_Cd := [
  (99, (.iload 8, 2, .null, 0, 0)),
  (101, (.aload_n 0, 1, .null, 0, 0)),
  (102, (.getfield 22, 3, .ref 755, 7, 4)),
  (105, (.iload 7, 2, .null, 0, 0)),
  (107, (.iaload, 1, .null, 0, 0)),
  (108, (.if_icmp .lt 37, 3, .null, 0, 145)),
  (111, (.iload 8, 2, .null, 0, 0)),
  (113, (.aload_n 0, 1, .null, 0, 0)),
  (114, (.getfield 25, 3, .ref 756, 7, 5)),
  (117, (.iload 7, 2, .null, 0, 0)),
  (119, (.iaload, 1, .null, 0, 0)),
  (120, (.if_icmp .gt 25, 3, .null, 0, 145)),
  (123, (.iload 7, 2, .null, 0, 0)),
  (125, (.bipush 18, 2, .int 18, 0, 0)),
  (127, (.if_icmp .ne 9, 3, .null, 0, 136)),
  (130, (.iload 8, 2, .null, 0, 0)),
  (132, (.iconst 2, 1, .int 2, 0, 0)),
  (133, (.if_icmp .eq 12, 3, .null, 0, 145)),
  (136, (.aload_n 0, 1, .null, 0, 0)),
  (137, (.getfield 28, 3, .ref 757, 7, 6)),
  (140, (.iload 7, 2, .null, 0, 0)),
  (142, (.iload 8, 2, .null, 0, 0)),
  (144, (.iastore, 1, .null, 0, 0)),
  (145, (.iinc 6 1, 3, .int 1, 0, 0)),
  (148, (.goto (-110), 3, .null, 0, 38)),
  (151, (.iconst 3, 1, .int 3, 0, 0)),
  (152, (.ireturn, 1, .null, 0, 0))]
set_option maxRecDepth 100000 in
theorem ckR_mapped_1 : ab_ckM mR_mapped kR_mapped_1 = true := by decide +kernel
def kR_mapped : ab_Cd := kR_mapped_0 ++ (kR_mapped_1)
theorem ckR_mapped : ab_ckM mR_mapped kR_mapped = true := ab_ck_app ckR_mapped_0 (ckR_mapped_1)
set_option maxRecDepth 100000 in
theorem wR_mapped : ab_MW mR_mapped 1 2 := ab_mw_ok (i1 := 68) (i2 := 939) (i3 := 44) (by decide +kernel) (ab_t4 (List.mem_of_getElem? (i := 161) rfl))
abbrev mR_channel : ab_Mt := (⟨"BusServoModel", "channel", "(J)I"⟩, prog_12_method_25_code, 11, (some .int))
def kR_channel_0 : ab_Cd := [
  (0, (.aload_n 0, 1, .null, 0, 0)),
  (1, (.getfield 99, 3, .ref 769, 7, 18)),
  (4, (.iconst 4, 1, .int 4, 0, 0)),
  (5, (.if_icmp .ne 5, 3, .null, 0, 10)),
  (8, (.iconst 0, 1, .int 0, 0, 0)),
  (9, (.ireturn, 1, .null, 0, 0)),
  (10, (.lload_n 1, 1, .null, 0, 0)),
  (11, (.ldc2_w 153, 3, .long 255, 0, 896)),
  (14, (.land, 1, .null, 0, 0)),
  (15, (.l2i, 1, .null, 0, 0)),
  (16, (.istore_n 3, 1, .null, 0, 0)),
  (17, (.iload_n 3, 1, .null, 0, 0)),
  (18, (.sipush 128, 3, .int 128, 0, 0)),
  (21, (.if_icmp .ne 5, 3, .null, 0, 26)),
  (24, (.iconst 4, 1, .int 4, 0, 0)),
  (25, (.ireturn, 1, .null, 0, 0)),
  (26, (.lload_n 1, 1, .null, 0, 0)),
  (27, (.bipush 8, 2, .int 8, 0, 0)),
  (29, (.lshr, 1, .null, 0, 0)),
  (30, (.ldc2_w 183, 3, .long 65535, 0, 932)),
  (33, (.land, 1, .null, 0, 0)),
  (34, (.l2i, 1, .null, 0, 0)),
  (35, (.istore 4, 2, .null, 0, 0)),
  (37, (.aload_n 0, 1, .null, 0, 0)),
  (38, (.iload 4, 2, .null, 0, 0)),
  (40, (.sipush 256, 3, .int 256, 0, 0)),
  (43, (.imul, 1, .null, 0, 0)),
  (44, (.lload_n 1, 1, .null, 0, 0)),
  (45, (.bipush 24, 2, .int 24, 0, 0))]
set_option maxRecDepth 100000 in
theorem ckR_channel_0 : ab_ckM mR_channel kR_channel_0 = true := by decide +kernel
def kR_channel_1 : ab_Cd := [
  (47, (.lshr, 1, .null, 0, 0)),
  (48, (.ldc2_w 153, 3, .long 255, 0, 896)),
  (51, (.land, 1, .null, 0, 0)),
  (52, (.l2i, 1, .null, 0, 0)),
  (53, (.iadd, 1, .null, 0, 0)),
  (54, (.invokevirtual 173, 3, .ref 913, 0, 0)),
  (57, (.istore 5, 2, .null, 0, 0)),
  (59, (.lload_n 1, 1, .null, 0, 0)),
  (60, (.bipush 32, 2, .int 32, 0, 0)),
  (62, (.lshr, 1, .null, 0, 0)),
  (63, (.l2i, 1, .null, 0, 0)),
  (64, (.istore 6, 2, .null, 0, 0)),
  (66, (.iload_n 3, 1, .null, 0, 0)),
  (67, (.bipush 47, 2, .int 47, 0, 0)),
  (69, (.if_icmp .ne 7, 3, .null, 0, 76)),
  (72, (.iconst 1, 1, .int 1, 0, 0)),
  (73, (.goto 44, 3, .null, 0, 117)),
  (76, (.iload_n 3, 1, .null, 0, 0)),
  (77, (.bipush 43, 2, .int 43, 0, 0)),
  (79, (.if_icmp .ne 7, 3, .null, 0, 86)),
  (82, (.iconst 2, 1, .int 2, 0, 0)),
  (83, (.goto 34, 3, .null, 0, 117)),
  (86, (.iload_n 3, 1, .null, 0, 0)),
  (87, (.bipush 39, 2, .int 39, 0, 0)),
  (89, (.if_icmp .ne 7, 3, .null, 0, 96)),
  (92, (.iconst 3, 1, .int 3, 0, 0)),
  (93, (.goto 24, 3, .null, 0, 117)),
  (96, (.iload_n 3, 1, .null, 0, 0)),
  (97, (.bipush 35, 2, .int 35, 0, 0))]
set_option maxRecDepth 100000 in
theorem ckR_channel_1 : ab_ckM mR_channel kR_channel_1 = true := by decide +kernel
def kR_channel_2 : ab_Cd := [
  (99, (.if_icmp .ne 7, 3, .null, 0, 106)),
  (102, (.iconst 4, 1, .int 4, 0, 0)),
  (103, (.goto 14, 3, .null, 0, 117)),
  (106, (.iload_n 3, 1, .null, 0, 0)),
  (107, (.bipush 64, 2, .int 64, 0, 0)),
  (109, (.if_icmp .ne 7, 3, .null, 0, 116)),
  (112, (.iconst 0, 1, .int 0, 0, 0)),
  (113, (.goto 4, 3, .null, 0, 117)),
  (116, (.iconst (-1), 1, .int (-1), 0, 0)),
  (117, (.istore 7, 2, .null, 0, 0)),
  (119, (.iload 7, 2, .null, 0, 0)),
  (121, (.ifCond .ge 8, 3, .null, 0, 129)),
  (124, (.ldc 185, 2, .int 84148225, 0, 948)),
  (126, (.goto 62, 3, .null, 0, 188)),
  (129, (.aload_n 0, 1, .null, 0, 0)),
  (130, (.iload 4, 2, .null, 0, 0)),
  (132, (.invokevirtual 186, 3, .ref 949, 0, 0)),
  (135, (.ifCond .ne 8, 3, .null, 0, 143)),
  (138, (.ldc 190, 2, .int 100794368, 0, 953)),
  (140, (.goto 48, 3, .null, 0, 188)),
  (143, (.iload 5, 2, .null, 0, 0)),
  (145, (.ifCond .ge 8, 3, .null, 0, 153)),
  (148, (.ldc 191, 2, .int 101253137, 0, 954)),
  (150, (.goto 38, 3, .null, 0, 188)),
  (153, (.iload 7, 2, .null, 0, 0)),
  (155, (.ifCond .ne 23, 3, .null, 0, 178)),
  (158, (.aload_n 0, 1, .null, 0, 0)),
  (159, (.getfield 16, 3, .ref 753, 7, 2)),
  (162, (.iload 5, 2, .null, 0, 0))]
set_option maxRecDepth 100000 in
theorem ckR_channel_2 : ab_ckM mR_channel kR_channel_2 = true := by decide +kernel
def kR_channel_3 : ab_Cd := [
  (164, (.iaload, 1, .null, 0, 0)),
  (165, (.iconst 1, 1, .int 1, 0, 0)),
  (166, (.if_icmp .ne 8, 3, .null, 0, 174)),
  (169, (.ldc 192, 2, .int 100728833, 0, 955)),
  (171, (.goto 17, 3, .null, 0, 188)),
  (174, (.iconst 0, 1, .int 0, 0, 0)),
  (175, (.goto 13, 3, .null, 0, 188)),
  (178, (.aload_n 0, 1, .null, 0, 0)),
  (179, (.iload 5, 2, .null, 0, 0)),
  (181, (.iload 7, 2, .null, 0, 0)),
  (183, (.iload 6, 2, .null, 0, 0)),
  (185, (.invokevirtual 193, 3, .ref 956, 0, 0)),
  (188, (.istore 8, 2, .null, 0, 0)),
  (190, (.sipush 128, 3, .int 128, 0, 0)),
  (193, (.istore 9, 2, .null, 0, 0)),
  (195, (.iload 8, 2, .null, 0, 0)),
  (197, (.istore 10, 2, .null, 0, 0)),
  (199, (.iload 8, 2, .null, 0, 0)),
  (201, (.ifCond .ne 55, 3, .null, 0, 256)),
  (204, (.iload 7, 2, .null, 0, 0)),
  (206, (.ifCond .ne 50, 3, .null, 0, 256)),
  (209, (.aload_n 0, 1, .null, 0, 0)),
  (210, (.getfield 13, 3, .ref 752, 7, 1)),
  (213, (.iload 5, 2, .null, 0, 0)),
  (215, (.iaload, 1, .null, 0, 0)),
  (216, (.iconst 1, 1, .int 1, 0, 0)),
  (217, (.if_icmp .ne 8, 3, .null, 0, 225)),
  (220, (.bipush 79, 2, .int 79, 0, 0)),
  (222, (.goto 21, 3, .null, 0, 243))]
set_option maxRecDepth 100000 in
theorem ckR_channel_3 : ab_ckM mR_channel kR_channel_3 = true := by decide +kernel
def kR_channel_4 : ab_Cd := [
  (225, (.aload_n 0, 1, .null, 0, 0)),
  (226, (.getfield 13, 3, .ref 752, 7, 1)),
  (229, (.iload 5, 2, .null, 0, 0)),
  (231, (.iaload, 1, .null, 0, 0)),
  (232, (.iconst 2, 1, .int 2, 0, 0)),
  (233, (.if_icmp .ne 8, 3, .null, 0, 241)),
  (236, (.bipush 75, 2, .int 75, 0, 0)),
  (238, (.goto 5, 3, .null, 0, 243)),
  (241, (.bipush 67, 2, .int 67, 0, 0)),
  (243, (.istore 9, 2, .null, 0, 0)),
  (245, (.aload_n 0, 1, .null, 0, 0)),
  (246, (.iload 5, 2, .null, 0, 0)),
  (248, (.invokevirtual 197, 3, .ref 917, 0, 0)),
  (251, (.istore 10, 2, .null, 0, 0)),
  (253, (.goto 25, 3, .null, 0, 278)),
  (256, (.iload 8, 2, .null, 0, 0)),
  (258, (.ifCond .ne 20, 3, .null, 0, 278)),
  (261, (.bipush 96, 2, .int 96, 0, 0)),
  (263, (.istore 9, 2, .null, 0, 0)),
  (265, (.aload_n 0, 1, .null, 0, 0)),
  (266, (.iload 5, 2, .null, 0, 0)),
  (268, (.iload 6, 2, .null, 0, 0)),
  (270, (.iload 7, 2, .null, 0, 0)),
  (272, (.invokestatic 180, 3, .ref 941, 0, 0)),
  (275, (.invokevirtual 200, 3, .ref 979, 0, 0)),
  (278, (.aload_n 0, 1, .null, 0, 0)),
  (279, (.sipush 1408, 3, .int 1408, 0, 0)),
  (282, (.aload_n 0, 1, .null, 0, 0)),
  (283, (.getfield 50, 3, .ref 768, 7, 17))]
set_option maxRecDepth 100000 in
theorem ckR_channel_4 : ab_ckM mR_channel kR_channel_4 = true := by decide +kernel
def kR_channel_5 : ab_Cd := [
  (286, (.iadd, 1, .null, 0, 0)),
  (287, (.bipush 8, 2, .int 8, 0, 0)),
  (289, (.iload 9, 2, .null, 0, 0)),
  (291, (.i2l, 1, .null, 0, 0)),
  (292, (.lload_n 1, 1, .null, 0, 0)),
  (293, (.ldc2_w 204, 3, .long 4294967040, 0, 987)),
  (296, (.land, 1, .null, 0, 0)),
  (297, (.lor, 1, .null, 0, 0)),
  (298, (.iload 10, 2, .null, 0, 0)),
  (300, (.i2l, 1, .null, 0, 0)),
  (301, (.bipush 32, 2, .int 32, 0, 0)),
  (303, (.lshl, 1, .null, 0, 0)),
  (304, (.lor, 1, .null, 0, 0)),
  (305, (.invokevirtual 130, 3, .ref 747, 0, 0)),
  (308, (.iconst 4, 1, .int 4, 0, 0)),
  (309, (.ireturn, 1, .null, 0, 0))]
set_option maxRecDepth 100000 in
theorem ckR_channel_5 : ab_ckM mR_channel kR_channel_5 = true := by decide +kernel
def kR_channel : ab_Cd := kR_channel_0 ++ (kR_channel_1 ++ (kR_channel_2 ++ (kR_channel_3 ++ (kR_channel_4 ++ (kR_channel_5)))))
theorem ckR_channel : ab_ckM mR_channel kR_channel = true := ab_ck_app ckR_channel_0 (ab_ck_app ckR_channel_1 (ab_ck_app ckR_channel_2 (ab_ck_app ckR_channel_3 (ab_ck_app ckR_channel_4 (ckR_channel_5)))))
set_option maxRecDepth 100000 in
theorem wR_channel : ab_MW mR_channel 1 1 := ab_mw_ok (i1 := 68) (i2 := 946) (i3 := 45) (by decide +kernel) (ab_t4 (List.mem_of_getElem? (i := 168) rfl))
abbrev mR_isIndex : ab_Mt := (⟨"BusServoModel", "isIndex", "(I)Z"⟩, prog_12_method_26_code, 4, (some .boolean))
def kR_isIndex : ab_Cd := [
  (0, (.iconst 0, 1, .int 0, 0, 0)),
  (1, (.istore_n 2, 1, .null, 0, 0)),
  (2, (.iconst 0, 1, .int 0, 0, 0)),
  (3, (.istore_n 3, 1, .null, 0, 0)),
  (4, (.iload_n 3, 1, .null, 0, 0)),
  (5, (.bipush 30, 2, .int 30, 0, 0)),
  (7, (.if_icmp .ge 32, 3, .null, 0, 39)),
  (10, (.iload_n 2, 1, .null, 0, 0)),
  (11, (.ifCond .ne 16, 3, .null, 0, 27)),
  (14, (.aload_n 0, 1, .null, 0, 0)),
  (15, (.getfield 7, 3, .ref 751, 7, 0)),
  (18, (.iload_n 3, 1, .null, 0, 0)),
  (19, (.iaload, 1, .null, 0, 0)),
  (20, (.bipush 8, 2, .int 8, 0, 0)),
  (22, (.ishr, 1, .null, 0, 0)),
  (23, (.iload_n 1, 1, .null, 0, 0)),
  (24, (.if_icmp .ne 7, 3, .null, 0, 31)),
  (27, (.iconst 1, 1, .int 1, 0, 0)),
  (28, (.goto 4, 3, .null, 0, 32)),
  (31, (.iconst 0, 1, .int 0, 0, 0)),
  (32, (.istore_n 2, 1, .null, 0, 0)),
  (33, (.iinc 3 1, 3, .int 1, 0, 0)),
  (36, (.goto (-32), 3, .null, 0, 4)),
  (39, (.iload_n 2, 1, .null, 0, 0)),
  (40, (.ireturn, 1, .null, 0, 0))]
set_option maxRecDepth 100000 in
theorem ckR_isIndex : ab_ckM mR_isIndex kR_isIndex = true := by decide +kernel
set_option maxRecDepth 100000 in
theorem wR_isIndex : ab_MW mR_isIndex 1 1 := ab_mw_ok (i1 := 68) (i2 := 951) (i3 := 46) (by decide +kernel) (ab_t4 (List.mem_of_getElem? (i := 173) rfl))
abbrev mR_refusal : ab_Mt := (⟨"BusServoModel", "refusal", "(III)I"⟩, prog_12_method_27_code, 7, (some .int))
def kR_refusal_0 : ab_Cd := [
  (0, (.aload_n 0, 1, .null, 0, 0)),
  (1, (.getfield 16, 3, .ref 753, 7, 2)),
  (4, (.iload_n 1, 1, .null, 0, 0)),
  (5, (.iaload, 1, .null, 0, 0)),
  (6, (.bipush 7, 2, .int 7, 0, 0)),
  (8, (.iand, 1, .null, 0, 0)),
  (9, (.istore 4, 2, .null, 0, 0)),
  (11, (.iload 4, 2, .null, 0, 0)),
  (13, (.ifCond .ne 6, 3, .null, 0, 19)),
  (16, (.ldc 206, 2, .int 100728834, 0, 960)),
  (18, (.ireturn, 1, .null, 0, 0)),
  (19, (.iload_n 2, 1, .null, 0, 0)),
  (20, (.aload_n 0, 1, .null, 0, 0)),
  (21, (.getfield 13, 3, .ref 752, 7, 1)),
  (24, (.iload_n 1, 1, .null, 0, 0)),
  (25, (.iaload, 1, .null, 0, 0)),
  (26, (.if_icmp .eq 6, 3, .null, 0, 32)),
  (29, (.ldc 207, 2, .int 101122064, 0, 961)),
  (31, (.ireturn, 1, .null, 0, 0)),
  (32, (.iload_n 1, 1, .null, 0, 0)),
  (33, (.iconst 5, 1, .int 5, 0, 0)),
  (34, (.if_icmp .le 18, 3, .null, 0, 52)),
  (37, (.iload_n 1, 1, .null, 0, 0)),
  (38, (.bipush 8, 2, .int 8, 0, 0)),
  (40, (.if_icmp .gt 12, 3, .null, 0, 52)),
  (43, (.aload_n 0, 1, .null, 0, 0)),
  (44, (.getfield 28, 3, .ref 757, 7, 6)),
  (47, (.iconst 5, 1, .int 5, 0, 0)),
  (48, (.iaload, 1, .null, 1, 0)),
  (49, (.ifCond .ne 25, 3, .null, 0, 74)),
  (52, (.iload_n 1, 1, .null, 0, 0)),
  (53, (.bipush 12, 2, .int 12, 0, 0)),
  (55, (.if_icmp .le 23, 3, .null, 0, 78)),
  (58, (.iload_n 1, 1, .null, 0, 0)),
  (59, (.bipush 15, 2, .int 15, 0, 0)),
  (61, (.if_icmp .gt 17, 3, .null, 0, 78)),
  (64, (.aload_n 0, 1, .null, 0, 0)),
  (65, (.getfield 28, 3, .ref 757, 7, 6))]
set_option maxRecDepth 100000 in
theorem ckR_refusal_0 : ab_ckM mR_refusal kR_refusal_0 = true := by decide +kernel
def kR_refusal_1 : ab_Cd := [
  (68, (.bipush 12, 2, .int 12, 0, 0)),
  (70, (.iaload, 1, .null, 1, 0)),
  (71, (.ifCond .eq 7, 3, .null, 0, 78)),
  (74, (.iconst 1, 1, .int 1, 0, 0)),
  (75, (.goto 4, 3, .null, 0, 79)),
  (78, (.iconst 0, 1, .int 0, 0, 0)),
  (79, (.istore 5, 2, .null, 0, 0)),
  (81, (.iload 4, 2, .null, 0, 0)),
  (83, (.iconst 3, 1, .int 3, 0, 0)),
  (84, (.if_icmp .ne 10, 3, .null, 0, 94)),
  (87, (.aload_n 0, 1, .null, 0, 0)),
  (88, (.invokevirtual 208, 3, .ref 962, 0, 0)),
  (91, (.ifCond .ne 23, 3, .null, 0, 114)),
  (94, (.iload 4, 2, .null, 0, 0)),
  (96, (.iconst 4, 1, .int 4, 0, 0)),
  (97, (.if_icmp .ne 20, 3, .null, 0, 117)),
  (100, (.aload_n 0, 1, .null, 0, 0)),
  (101, (.getfield 99, 3, .ref 769, 7, 18)),
  (104, (.bipush 127, 2, .int 127, 0, 0)),
  (106, (.if_icmp .ne 8, 3, .null, 0, 114)),
  (109, (.iload 5, 2, .null, 0, 0)),
  (111, (.ifCond .eq 6, 3, .null, 0, 117)),
  (114, (.ldc 212, 2, .int 134217762, 0, 966)),
  (116, (.ireturn, 1, .null, 0, 0)),
  (117, (.iload_n 1, 1, .null, 0, 0)),
  (118, (.iconst 1, 1, .int 1, 0, 0)),
  (119, (.if_icmp .ne 9, 3, .null, 0, 128)),
  (122, (.iload_n 3, 1, .null, 0, 0)),
  (123, (.ldc 213, 2, .int 1702257011, 0, 967)),
  (125, (.if_icmp .ne 14, 3, .null, 0, 139)),
  (128, (.iload_n 1, 1, .null, 0, 0)),
  (129, (.iconst 2, 1, .int 2, 0, 0)),
  (130, (.if_icmp .ne 12, 3, .null, 0, 142)),
  (133, (.iload_n 3, 1, .null, 0, 0)),
  (134, (.ldc 214, 2, .int 1684107116, 0, 968)),
  (136, (.if_icmp .eq 6, 3, .null, 0, 142)),
  (139, (.ldc 215, 2, .int 134217760, 0, 969)),
  (141, (.ireturn, 1, .null, 0, 0))]
set_option maxRecDepth 100000 in
theorem ckR_refusal_1 : ab_ckM mR_refusal kR_refusal_1 = true := by decide +kernel
def kR_refusal_2 : ab_Cd := [
  (142, (.iload 4, 2, .null, 0, 0)),
  (144, (.iconst 1, 1, .int 1, 0, 0)),
  (145, (.if_icmp .ne 13, 3, .null, 0, 158)),
  (148, (.aload_n 0, 1, .null, 0, 0)),
  (149, (.getfield 96, 3, .ref 765, 7, 14)),
  (152, (.ifCond .le 6, 3, .null, 0, 158)),
  (155, (.ldc 212, 2, .int 134217762, 0, 966)),
  (157, (.ireturn, 1, .null, 0, 0)),
  (158, (.iload_n 3, 1, .null, 0, 0)),
  (159, (.iload_n 2, 1, .null, 0, 0)),
  (160, (.invokestatic 180, 3, .ref 941, 0, 0)),
  (163, (.istore 6, 2, .null, 0, 0)),
  (165, (.iload 6, 2, .null, 0, 0)),
  (167, (.aload_n 0, 1, .null, 0, 0)),
  (168, (.getfield 25, 3, .ref 756, 7, 5)),
  (171, (.iload_n 1, 1, .null, 0, 0)),
  (172, (.iaload, 1, .null, 0, 0)),
  (173, (.if_icmp .le 6, 3, .null, 0, 179)),
  (176, (.ldc 216, 2, .int 101253169, 0, 970)),
  (178, (.ireturn, 1, .null, 0, 0)),
  (179, (.iload 6, 2, .null, 0, 0)),
  (181, (.aload_n 0, 1, .null, 0, 0)),
  (182, (.getfield 22, 3, .ref 755, 7, 4)),
  (185, (.iload_n 1, 1, .null, 0, 0)),
  (186, (.iaload, 1, .null, 0, 0)),
  (187, (.if_icmp .ge 6, 3, .null, 0, 193)),
  (190, (.ldc 217, 2, .int 101253170, 0, 971)),
  (192, (.ireturn, 1, .null, 0, 0)),
  (193, (.iload_n 1, 1, .null, 0, 0)),
  (194, (.bipush 18, 2, .int 18, 0, 0)),
  (196, (.if_icmp .ne 12, 3, .null, 0, 208)),
  (199, (.iload 6, 2, .null, 0, 0)),
  (201, (.iconst 2, 1, .int 2, 0, 0)),
  (202, (.if_icmp .ne 6, 3, .null, 0, 208)),
  (205, (.ldc 218, 2, .int 101253168, 0, 972)),
  (207, (.ireturn, 1, .null, 0, 0)),
  (208, (.iload_n 1, 1, .null, 0, 0)),
  (209, (.iconst 5, 1, .int 5, 0, 0))]
set_option maxRecDepth 100000 in
theorem ckR_refusal_2 : ab_ckM mR_refusal kR_refusal_2 = true := by decide +kernel
def kR_refusal_3 : ab_Cd := [
  (210, (.if_icmp .eq 9, 3, .null, 0, 219)),
  (213, (.iload_n 1, 1, .null, 0, 0)),
  (214, (.bipush 12, 2, .int 12, 0, 0)),
  (216, (.if_icmp .ne 13, 3, .null, 0, 229)),
  (219, (.aload_n 0, 1, .null, 0, 0)),
  (220, (.iload_n 1, 1, .null, 0, 0)),
  (221, (.iload 6, 2, .null, 0, 0)),
  (223, (.invokevirtual 219, 3, .ref 973, 0, 0)),
  (226, (.goto 4, 3, .null, 0, 230)),
  (229, (.iconst 0, 1, .int 0, 0, 0)),
  (230, (.ireturn, 1, .null, 0, 0))]
set_option maxRecDepth 100000 in
theorem ckR_refusal_3 : ab_ckM mR_refusal kR_refusal_3 = true := by decide +kernel
def kR_refusal : ab_Cd := kR_refusal_0 ++ (kR_refusal_1 ++ (kR_refusal_2 ++ (kR_refusal_3)))
theorem ckR_refusal : ab_ckM mR_refusal kR_refusal = true := ab_ck_app ckR_refusal_0 (ab_ck_app ckR_refusal_1 (ab_ck_app ckR_refusal_2 (ckR_refusal_3)))
set_option maxRecDepth 100000 in
theorem wR_refusal : ab_MW mR_refusal 1 3 := ab_mw_ok (i1 := 68) (i2 := 958) (i3 := 47) (by decide +kernel) (ab_t4 (List.mem_of_getElem? (i := 180) rfl))
abbrev mR_entries : ab_Mt := (⟨"BusServoModel", "entries", "(II)I"⟩, prog_12_method_28_code, 8, (some .int))
def kR_entries_0 : ab_Cd := [
  (0, (.iconst 0, 1, .int 0, 0, 0)),
  (1, (.istore_n 3, 1, .null, 0, 0)),
  (2, (.iconst 1, 1, .int 1, 0, 0)),
  (3, (.istore 4, 2, .null, 0, 0)),
  (5, (.iload 4, 2, .null, 0, 0)),
  (7, (.iload_n 2, 1, .null, 0, 0)),
  (8, (.if_icmp .gt 134, 3, .null, 0, 142)),
  (11, (.aload_n 0, 1, .null, 0, 0)),
  (12, (.getfield 28, 3, .ref 757, 7, 6)),
  (15, (.iload_n 1, 1, .null, 0, 0)),
  (16, (.iload 4, 2, .null, 0, 0)),
  (18, (.iadd, 1, .null, 0, 0)),
  (19, (.iaload, 1, .null, 0, 0)),
  (20, (.istore 5, 2, .null, 0, 0)),
  (22, (.aload_n 0, 1, .null, 0, 0)),
  (23, (.iload 5, 2, .null, 0, 0)),
  (25, (.bipush 8, 2, .int 8, 0, 0)),
  (27, (.iushr, 1, .null, 0, 0)),
  (28, (.invokevirtual 173, 3, .ref 913, 0, 0)),
  (31, (.istore 6, 2, .null, 0, 0)),
  (33, (.iload 6, 2, .null, 0, 0)),
  (35, (.ifCond .lt 33, 3, .null, 0, 68)),
  (38, (.iload 5, 2, .null, 0, 0)),
  (40, (.bipush 16, 2, .int 16, 0, 0)),
  (42, (.iushr, 1, .null, 0, 0)),
  (43, (.sipush 24576, 3, .int 24576, 0, 0)),
  (46, (.if_icmp .lt 22, 3, .null, 0, 68)),
  (49, (.iload 5, 2, .null, 0, 0)),
  (51, (.sipush 255, 3, .int 255, 0, 0)),
  (54, (.iand, 1, .null, 0, 0)),
  (55, (.bipush 8, 2, .int 8, 0, 0)),
  (57, (.aload_n 0, 1, .null, 0, 0)),
  (58, (.getfield 13, 3, .ref 752, 7, 1)),
  (61, (.iload 6, 2, .null, 0, 0)),
  (63, (.iaload, 1, .null, 0, 0)),
  (64, (.imul, 1, .null, 0, 0)),
  (65, (.if_icmp .eq 6, 3, .null, 0, 71)),
  (68, (.ldc 222, 2, .int 100925505, 0, 977)),
  (70, (.ireturn, 1, .null, 0, 0)),
  (71, (.aload_n 0, 1, .null, 0, 0)),
  (72, (.getfield 16, 3, .ref 753, 7, 2)),
  (75, (.iload 6, 2, .null, 0, 0)),
  (77, (.iaload, 1, .null, 0, 0)),
  (78, (.bipush 7, 2, .int 7, 0, 0)),
  (80, (.iand, 1, .null, 0, 0)),
  (81, (.istore 7, 2, .null, 0, 0)),
  (83, (.iload_n 1, 1, .null, 0, 0)),
  (84, (.iconst 5, 1, .int 5, 0, 0)),
  (85, (.if_icmp .ne 12, 3, .null, 0, 97)),
  (88, (.iload 7, 2, .null, 0, 0)),
  (90, (.iconst 2, 1, .int 2, 0, 0)),
  (91, (.if_icmp .eq 26, 3, .null, 0, 117)),
  (94, (.goto 20, 3, .null, 0, 114)),
  (97, (.iload 7, 2, .null, 0, 0)),
  (99, (.ifCond .eq 18, 3, .null, 0, 117)),
  (102, (.iload 7, 2, .null, 0, 0)),
  (104, (.iconst 2, 1, .int 2, 0, 0)),
  (105, (.if_icmp .eq 12, 3, .null, 0, 117)),
  (108, (.iload 7, 2, .null, 0, 0)),
  (110, (.iconst 3, 1, .int 3, 0, 0)),
  (111, (.if_icmp .eq 6, 3, .null, 0, 117)),
  (114, (.ldc 222, 2, .int 100925505, 0, 977))]
set_option maxRecDepth 100000 in
theorem ckR_entries_0 : ab_ckM mR_entries kR_entries_0 = true := by decide +kernel
def kR_entries_1 : ab_Cd := [
  (116, (.ireturn, 1, .null, 0, 0)),
  (117, (.iload_n 3, 1, .null, 0, 0)),
  (118, (.aload_n 0, 1, .null, 0, 0)),
  (119, (.getfield 13, 3, .ref 752, 7, 1)),
  (122, (.iload 6, 2, .null, 0, 0)),
  (124, (.iaload, 1, .null, 0, 0)),
  (125, (.iadd, 1, .null, 0, 0)),
  (126, (.istore_n 3, 1, .null, 0, 0)),
  (127, (.iload_n 3, 1, .null, 0, 0)),
  (128, (.bipush 8, 2, .int 8, 0, 0)),
  (130, (.if_icmp .le 6, 3, .null, 0, 136)),
  (133, (.ldc 223, 2, .int 100925506, 0, 978)),
  (135, (.ireturn, 1, .null, 0, 0)),
  (136, (.iinc 4 1, 3, .int 1, 0, 0)),
  (139, (.goto (-134), 3, .null, 0, 5)),
  (142, (.iconst 0, 1, .int 0, 0, 0)),
  (143, (.ireturn, 1, .null, 0, 0))]
set_option maxRecDepth 100000 in
theorem ckR_entries_1 : ab_ckM mR_entries kR_entries_1 = true := by decide +kernel
def kR_entries : ab_Cd := kR_entries_0 ++ (kR_entries_1)
theorem ckR_entries : ab_ckM mR_entries kR_entries = true := ab_ck_app ckR_entries_0 (ckR_entries_1)
set_option maxRecDepth 100000 in
theorem wR_entries : ab_MW mR_entries 1 2 := ab_mw_ok (i1 := 68) (i2 := 975) (i3 := 49) (by decide +kernel) (ab_t4 (List.mem_of_getElem? (i := 197) rfl))
abbrev mR_write : ab_Mt := (⟨"BusServoModel", "write", "(II)V"⟩, prog_12_method_29_code, 3, none)
def kR_write : ab_Cd := [
  (0, (.iload_n 1, 1, .null, 0, 0)),
  (1, (.iconst 1, 1, .int 1, 0, 0)),
  (2, (.if_icmp .eq 8, 3, .null, 0, 10)),
  (5, (.iload_n 1, 1, .null, 0, 0)),
  (6, (.iconst 2, 1, .int 2, 0, 0)),
  (7, (.if_icmp .ne 18, 3, .null, 0, 25)),
  (10, (.aload_n 0, 1, .null, 0, 0)),
  (11, (.iload_n 1, 1, .null, 0, 0)),
  (12, (.iconst 1, 1, .int 1, 0, 0)),
  (13, (.if_icmp .ne 7, 3, .null, 0, 20)),
  (16, (.iconst 1, 1, .int 1, 0, 0)),
  (17, (.goto 4, 3, .null, 0, 21)),
  (20, (.iconst 0, 1, .int 0, 0, 0)),
  (21, (.invokevirtual 224, 3, .ref 983, 0, 0)),
  (24, (.return_, 1, .null, 0, 0)),
  (25, (.aload_n 0, 1, .null, 0, 0)),
  (26, (.getfield 28, 3, .ref 757, 7, 6)),
  (29, (.iload_n 1, 1, .null, 0, 0)),
  (30, (.iload_n 2, 1, .null, 0, 0)),
  (31, (.iastore, 1, .null, 0, 0)),
  (32, (.iload_n 1, 1, .null, 0, 0)),
  (33, (.iconst 3, 1, .int 3, 0, 0)),
  (34, (.if_icmp .ne 8, 3, .null, 0, 42)),
  (37, (.aload_n 0, 1, .null, 0, 0)),
  (38, (.iconst 0, 1, .int 0, 0, 0)),
  (39, (.putfield 112, 3, .ref 773, 7, 22)),
  (42, (.iload_n 1, 1, .null, 0, 0)),
  (43, (.iconst 4, 1, .int 4, 0, 0)),
  (44, (.if_icmp .ne 8, 3, .null, 0, 52)),
  (47, (.aload_n 0, 1, .null, 0, 0)),
  (48, (.iconst 0, 1, .int 0, 0, 0)),
  (49, (.putfield 121, 3, .ref 776, 7, 25)),
  (52, (.iload_n 1, 1, .null, 0, 0)),
  (53, (.bipush 9, 2, .int 9, 0, 0)),
  (55, (.if_icmp .ne 8, 3, .null, 0, 63)),
  (58, (.aload_n 0, 1, .null, 0, 0)),
  (59, (.iconst 0, 1, .int 0, 0, 0)),
  (60, (.putfield 127, 3, .ref 778, 7, 27)),
  (63, (.return_, 1, .null, 0, 0))]
set_option maxRecDepth 100000 in
theorem ckR_write : ab_ckM mR_write kR_write = true := by decide +kernel
set_option maxRecDepth 100000 in
theorem wR_write : ab_MW mR_write 1 2 := ab_mw_ok (i1 := 68) (i2 := 981) (i3 := 50) (by decide +kernel) (ab_t4 (List.mem_of_getElem? (i := 203) rfl))
abbrev mR_gathered : ab_Mt := (⟨"BusServoModel", "gathered", "()J"⟩, prog_12_method_30_code, 8, (some .long))
def kR_gathered : ab_Cd := [
  (0, (.lconst 0, 1, .long 0, 0, 0)),
  (1, (.lstore_n 1, 1, .null, 0, 0)),
  (2, (.iconst 0, 1, .int 0, 0, 0)),
  (3, (.istore_n 3, 1, .null, 0, 0)),
  (4, (.iconst 1, 1, .int 1, 0, 0)),
  (5, (.istore 4, 2, .null, 0, 0)),
  (7, (.iload 4, 2, .null, 0, 0)),
  (9, (.aload_n 0, 1, .null, 0, 0)),
  (10, (.getfield 28, 3, .ref 757, 7, 6)),
  (13, (.bipush 12, 2, .int 12, 0, 0)),
  (15, (.iaload, 1, .null, 1, 0)),
  (16, (.if_icmp .gt 95, 3, .null, 0, 111)),
  (19, (.aload_n 0, 1, .null, 0, 0)),
  (20, (.aload_n 0, 1, .null, 0, 0)),
  (21, (.getfield 28, 3, .ref 757, 7, 6)),
  (24, (.bipush 12, 2, .int 12, 0, 0)),
  (26, (.iload 4, 2, .null, 0, 0)),
  (28, (.iadd, 1, .null, 0, 0)),
  (29, (.iaload, 1, .null, 0, 0)),
  (30, (.bipush 8, 2, .int 8, 0, 0)),
  (32, (.iushr, 1, .null, 0, 0)),
  (33, (.invokevirtual 173, 3, .ref 913, 0, 0)),
  (36, (.istore 5, 2, .null, 0, 0)),
  (38, (.aload_n 0, 1, .null, 0, 0)),
  (39, (.iload 5, 2, .null, 0, 0)),
  (41, (.invokevirtual 197, 3, .ref 917, 0, 0)),
  (44, (.i2l, 1, .null, 0, 0)),
  (45, (.aload_n 0, 1, .null, 0, 0)),
  (46, (.getfield 13, 3, .ref 752, 7, 1)),
  (49, (.iload 5, 2, .null, 0, 0)),
  (51, (.iaload, 1, .null, 0, 0)),
  (52, (.iconst 4, 1, .int 4, 0, 0)),
  (53, (.if_icmp .ne 9, 3, .null, 0, 62)),
  (56, (.ldc2_w 228, 3, .long 4294967295, 0, 931)),
  (59, (.goto 23, 3, .null, 0, 82)),
  (62, (.aload_n 0, 1, .null, 0, 0)),
  (63, (.getfield 13, 3, .ref 752, 7, 1)),
  (66, (.iload 5, 2, .null, 0, 0)),
  (68, (.iaload, 1, .null, 0, 0)),
  (69, (.iconst 2, 1, .int 2, 0, 0)),
  (70, (.if_icmp .ne 9, 3, .null, 0, 79)),
  (73, (.ldc2_w 183, 3, .long 65535, 0, 932)),
  (76, (.goto 6, 3, .null, 0, 82)),
  (79, (.ldc2_w 153, 3, .long 255, 0, 896)),
  (82, (.land, 1, .null, 0, 0)),
  (83, (.lstore 6, 2, .null, 0, 0)),
  (85, (.lload_n 1, 1, .null, 0, 0)),
  (86, (.lload 6, 2, .null, 0, 0)),
  (88, (.bipush 8, 2, .int 8, 0, 0)),
  (90, (.iload_n 3, 1, .null, 0, 0)),
  (91, (.imul, 1, .null, 0, 0)),
  (92, (.lshl, 1, .null, 0, 0)),
  (93, (.lor, 1, .null, 0, 0)),
  (94, (.lstore_n 1, 1, .null, 0, 0)),
  (95, (.iload_n 3, 1, .null, 0, 0)),
  (96, (.aload_n 0, 1, .null, 0, 0)),
  (97, (.getfield 13, 3, .ref 752, 7, 1)),
  (100, (.iload 5, 2, .null, 0, 0)),
  (102, (.iaload, 1, .null, 0, 0)),
  (103, (.iadd, 1, .null, 0, 0)),
  (104, (.istore_n 3, 1, .null, 0, 0)),
  (105, (.iinc 4 1, 3, .int 1, 0, 0)),
  (108, (.goto (-101), 3, .null, 0, 7)),
  (111, (.lload_n 1, 1, .null, 0, 0)),
  (112, (.lreturn, 1, .null, 0, 0))]
set_option maxRecDepth 100000 in
theorem ckR_gathered : ab_ckM mR_gathered kR_gathered = true := by decide +kernel
set_option maxRecDepth 100000 in
theorem wR_gathered : ab_MW mR_gathered 1 0 := ab_mw_ok (i1 := 68) (i2 := 911) (i3 := 39) (by decide +kernel) (ab_t4 (List.mem_of_getElem? (i := 133) rfl))
abbrev mR_out : ab_Mt := (⟨"BusServoModel", "out", "()V"⟩, prog_12_method_31_code, 1, none)
def kR_out : ab_Cd := [
  (0, (.aload_n 0, 1, .null, 0, 0)),
  (1, (.getfield 28, 3, .ref 757, 7, 6)),
  (4, (.bipush 12, 2, .int 12, 0, 0)),
  (6, (.iaload, 1, .null, 1, 0)),
  (7, (.ifCond .ne 4, 3, .null, 0, 11)),
  (10, (.return_, 1, .null, 0, 0)),
  (11, (.aload_n 0, 1, .null, 0, 0)),
  (12, (.aload_n 0, 1, .null, 0, 0)),
  (13, (.invokevirtual 230, 3, .ref 909, 0, 0)),
  (16, (.putfield 234, 3, .ref 781, 7, 30)),
  (19, (.aload_n 0, 1, .null, 0, 0)),
  (20, (.aload_n 0, 1, .null, 0, 0)),
  (21, (.bipush 12, 2, .int 12, 0, 0)),
  (23, (.invokevirtual 177, 3, .ref 933, 0, 0)),
  (26, (.putfield 238, 3, .ref 780, 7, 29)),
  (29, (.aload_n 0, 1, .null, 0, 0)),
  (30, (.iconst 1, 1, .int 1, 0, 0)),
  (31, (.putfield 118, 3, .ref 775, 7, 24)),
  (34, (.aload_n 0, 1, .null, 0, 0)),
  (35, (.iconst 0, 1, .int 0, 0, 0)),
  (36, (.putfield 241, 3, .ref 779, 7, 28)),
  (39, (.aload_n 0, 1, .null, 0, 0)),
  (40, (.sipush 384, 3, .int 384, 0, 0)),
  (43, (.aload_n 0, 1, .null, 0, 0)),
  (44, (.getfield 50, 3, .ref 768, 7, 17)),
  (47, (.iadd, 1, .null, 0, 0)),
  (48, (.aload_n 0, 1, .null, 0, 0)),
  (49, (.getfield 238, 3, .ref 780, 7, 29)),
  (52, (.aload_n 0, 1, .null, 0, 0)),
  (53, (.getfield 234, 3, .ref 781, 7, 30)),
  (56, (.invokevirtual 130, 3, .ref 747, 0, 0)),
  (59, (.return_, 1, .null, 0, 0))]
set_option maxRecDepth 100000 in
theorem ckR_out : ab_ckM mR_out kR_out = true := by decide +kernel
set_option maxRecDepth 100000 in
theorem wR_out : ab_MW mR_out 1 0 := ab_mw_ok (i1 := 68) (i2 := 907) (i3 := 38) (by decide +kernel) (ab_t4 (List.mem_of_getElem? (i := 129) rfl))
abbrev mR_outByTime : ab_Mt := (⟨"BusServoModel", "outByTime", "()V"⟩, prog_12_method_32_code, 3, none)
def kR_outByTime_0 : ab_Cd := [
  (0, (.aload_n 0, 1, .null, 0, 0)),
  (1, (.getfield 99, 3, .ref 769, 7, 18)),
  (4, (.iconst 5, 1, .int 5, 0, 0)),
  (5, (.if_icmp .ne 26, 3, .null, 0, 31)),
  (8, (.aload_n 0, 1, .null, 0, 0)),
  (9, (.getfield 28, 3, .ref 757, 7, 6)),
  (12, (.bipush 9, 2, .int 9, 0, 0)),
  (14, (.iaload, 1, .null, 1, 0)),
  (15, (.sipush 241, 3, .int 241, 0, 0)),
  (18, (.if_icmp .lt 13, 3, .null, 0, 31)),
  (21, (.aload_n 0, 1, .null, 0, 0)),
  (22, (.getfield 28, 3, .ref 757, 7, 6)),
  (25, (.bipush 12, 2, .int 12, 0, 0)),
  (27, (.iaload, 1, .null, 1, 0)),
  (28, (.ifCond .ne 4, 3, .null, 0, 32)),
  (31, (.return_, 1, .null, 0, 0)),
  (32, (.aload_n 0, 1, .null, 0, 0)),
  (33, (.getfield 118, 3, .ref 775, 7, 24)),
  (36, (.ifCond .eq 52, 3, .null, 0, 88)),
  (39, (.aload_n 0, 1, .null, 0, 0)),
  (40, (.invokevirtual 230, 3, .ref 909, 0, 0)),
  (43, (.aload_n 0, 1, .null, 0, 0)),
  (44, (.getfield 234, 3, .ref 781, 7, 30)),
  (47, (.lcmp, 1, .null, 0, 0)),
  (48, (.ifCond .ne 40, 3, .null, 0, 88)),
  (51, (.aload_n 0, 1, .null, 0, 0)),
  (52, (.bipush 12, 2, .int 12, 0, 0)),
  (54, (.invokevirtual 177, 3, .ref 933, 0, 0)),
  (57, (.aload_n 0, 1, .null, 0, 0)),
  (58, (.getfield 238, 3, .ref 780, 7, 29)),
  (61, (.if_icmp .ne 27, 3, .null, 0, 88)),
  (64, (.aload_n 0, 1, .null, 0, 0)),
  (65, (.getfield 28, 3, .ref 757, 7, 6)),
  (68, (.bipush 11, 2, .int 11, 0, 0)),
  (70, (.iaload, 1, .null, 1, 0)),
  (71, (.ifCond .le 21, 3, .null, 0, 92)),
  (74, (.aload_n 0, 1, .null, 0, 0)),
  (75, (.getfield 241, 3, .ref 779, 7, 28)),
  (78, (.aload_n 0, 1, .null, 0, 0)),
  (79, (.getfield 28, 3, .ref 757, 7, 6)),
  (82, (.bipush 11, 2, .int 11, 0, 0)),
  (84, (.iaload, 1, .null, 1, 0)),
  (85, (.if_icmp .lt 7, 3, .null, 0, 92)),
  (88, (.iconst 1, 1, .int 1, 0, 0)),
  (89, (.goto 4, 3, .null, 0, 93)),
  (92, (.iconst 0, 1, .int 0, 0, 0)),
  (93, (.istore_n 1, 1, .null, 0, 0)),
  (94, (.aload_n 0, 1, .null, 0, 0)),
  (95, (.getfield 118, 3, .ref 775, 7, 24)),
  (98, (.ifCond .eq 21, 3, .null, 0, 119)),
  (101, (.aload_n 0, 1, .null, 0, 0)),
  (102, (.getfield 241, 3, .ref 779, 7, 28)),
  (105, (.aload_n 0, 1, .null, 0, 0)),
  (106, (.getfield 28, 3, .ref 757, 7, 6)),
  (109, (.bipush 10, 2, .int 10, 0, 0)),
  (111, (.iaload, 1, .null, 1, 0)),
  (112, (.if_icmp .ge 7, 3, .null, 0, 119)),
  (115, (.iconst 1, 1, .int 1, 0, 0)),
  (116, (.goto 4, 3, .null, 0, 120)),
  (119, (.iconst 0, 1, .int 0, 0, 0)),
  (120, (.istore_n 2, 1, .null, 0, 0)),
  (121, (.iload_n 1, 1, .null, 0, 0)),
  (122, (.ifCond .eq 11, 3, .null, 0, 133)),
  (125, (.iload_n 2, 1, .null, 0, 0)),
  (126, (.ifCond .ne 7, 3, .null, 0, 133)),
  (129, (.aload_n 0, 1, .null, 0, 0)),
  (130, (.invokevirtual 170, 3, .ref 905, 0, 0))]
set_option maxRecDepth 100000 in
theorem ckR_outByTime_0 : ab_ckM mR_outByTime kR_outByTime_0 = true := by decide +kernel
def kR_outByTime_1 : ab_Cd := [
  (133, (.return_, 1, .null, 0, 0))]
set_option maxRecDepth 100000 in
theorem ckR_outByTime_1 : ab_ckM mR_outByTime kR_outByTime_1 = true := by decide +kernel
def kR_outByTime : ab_Cd := kR_outByTime_0 ++ (kR_outByTime_1)
theorem ckR_outByTime : ab_ckM mR_outByTime kR_outByTime = true := ab_ck_app ckR_outByTime_0 (ckR_outByTime_1)
set_option maxRecDepth 100000 in
theorem wR_outByTime : ab_MW mR_outByTime 1 0 := ab_mw_ok (i1 := 68) (i2 := 1027) (i3 := 58) (by decide +kernel) (ab_t5 (List.mem_of_getElem? (i := 9) rfl))
abbrev mR_tick : ab_Mt := (⟨"BusServoModel", "tick", "(I)Z"⟩, prog_12_method_33_code, 2, (some .boolean))
def kR_tick : ab_Cd := [
  (0, (.iload_n 1, 1, .null, 0, 0)),
  (1, (.ldc 244, 2, .int (-1000000), 0, 992)),
  (3, (.if_icmp .lt 9, 3, .null, 0, 12)),
  (6, (.iload_n 1, 1, .null, 0, 0)),
  (7, (.ldc 245, 2, .int 1000000, 0, 993)),
  (9, (.if_icmp .le 5, 3, .null, 0, 14)),
  (12, (.iconst 0, 1, .int 0, 0, 0)),
  (13, (.ireturn, 1, .null, 0, 0)),
  (14, (.aload_n 0, 1, .null, 0, 0)),
  (15, (.iload_n 1, 1, .null, 0, 0)),
  (16, (.invokevirtual 246, 3, .ref 994, 0, 0)),
  (19, (.iconst 1, 1, .int 1, 0, 0)),
  (20, (.ireturn, 1, .null, 0, 0))]
set_option maxRecDepth 100000 in
theorem ckR_tick : ab_ckM mR_tick kR_tick = true := by decide +kernel
set_option maxRecDepth 100000 in
theorem wR_tick : ab_MW mR_tick 1 1 := ab_mw_ok (i1 := 68) (i2 := 989) (i3 := 990) (by decide +kernel) (ab_t4 (List.mem_of_getElem? (i := 212) rfl))
abbrev mR_run : ab_Mt := (⟨"BusServoModel", "run", "(I)I"⟩, prog_12_method_34_code, 4, (some .int))
def kR_run : ab_Cd := [
  (0, (.iload_n 1, 1, .null, 0, 0)),
  (1, (.ifCond .lt 9, 3, .null, 0, 10)),
  (4, (.iload_n 1, 1, .null, 0, 0)),
  (5, (.bipush 100, 2, .int 100, 0, 0)),
  (7, (.if_icmp .le 5, 3, .null, 0, 12)),
  (10, (.iconst (-1), 1, .int (-1), 0, 0)),
  (11, (.ireturn, 1, .null, 0, 0)),
  (12, (.iconst 0, 1, .int 0, 0, 0)),
  (13, (.istore_n 2, 1, .null, 0, 0)),
  (14, (.iconst 0, 1, .int 0, 0, 0)),
  (15, (.istore_n 3, 1, .null, 0, 0)),
  (16, (.iload_n 3, 1, .null, 0, 0)),
  (17, (.iload_n 1, 1, .null, 0, 0)),
  (18, (.if_icmp .ge 32, 3, .null, 0, 50)),
  (21, (.aload_n 0, 1, .null, 0, 0)),
  (22, (.aload_n 0, 1, .null, 0, 0)),
  (23, (.getfield 105, 3, .ref 771, 7, 20)),
  (26, (.invokevirtual 246, 3, .ref 994, 0, 0)),
  (29, (.iload_n 2, 1, .null, 0, 0)),
  (30, (.aload_n 0, 1, .null, 0, 0)),
  (31, (.invokevirtual 208, 3, .ref 962, 0, 0)),
  (34, (.ifCond .eq 7, 3, .null, 0, 41)),
  (37, (.iconst 1, 1, .int 1, 0, 0)),
  (38, (.goto 4, 3, .null, 0, 42)),
  (41, (.iconst 0, 1, .int 0, 0, 0)),
  (42, (.iadd, 1, .null, 0, 0)),
  (43, (.istore_n 2, 1, .null, 0, 0)),
  (44, (.iinc 3 1, 3, .int 1, 0, 0)),
  (47, (.goto (-31), 3, .null, 0, 16)),
  (50, (.iload_n 2, 1, .null, 0, 0)),
  (51, (.ireturn, 1, .null, 0, 0))]
set_option maxRecDepth 100000 in
theorem ckR_run : ab_ckM mR_run kR_run = true := by decide +kernel
set_option maxRecDepth 100000 in
theorem wR_run : ab_MW mR_run 1 1 := ab_mw_ok (i1 := 68) (i2 := 1030) (i3 := 1031) (by decide +kernel) (ab_t5 (List.mem_of_getElem? (i := 13) rfl))
abbrev mR_stage : ab_Mt := (⟨"BusServoModel", "stage", "()Z"⟩, prog_12_method_35_code, 1, (some .boolean))
def kR_stage : ab_Cd := [
  (0, (.aload_n 0, 1, .null, 0, 0)),
  (1, (.getfield 102, 3, .ref 770, 7, 19)),
  (4, (.iconst 4, 1, .int 4, 0, 0)),
  (5, (.if_icmp .lt 16, 3, .null, 0, 21)),
  (8, (.aload_n 0, 1, .null, 0, 0)),
  (9, (.getfield 102, 3, .ref 770, 7, 19)),
  (12, (.bipush 6, 2, .int 6, 0, 0)),
  (14, (.if_icmp .gt 7, 3, .null, 0, 21)),
  (17, (.iconst 1, 1, .int 1, 0, 0)),
  (18, (.goto 4, 3, .null, 0, 22)),
  (21, (.iconst 0, 1, .int 0, 0, 0)),
  (22, (.ireturn, 1, .null, 0, 0))]
set_option maxRecDepth 100000 in
theorem ckR_stage : ab_ckM mR_stage kR_stage = true := by decide +kernel
set_option maxRecDepth 100000 in
theorem wR_stage : ab_MW mR_stage 1 0 := ab_mw_ok (i1 := 68) (i2 := 964) (i3 := 48) (by decide +kernel) (ab_t4 (List.mem_of_getElem? (i := 186) rfl))
abbrev mR_step : ab_Mt := (⟨"BusServoModel", "step", "(I)V"⟩, prog_12_method_36_code, 3, none)
def kR_step_0 : ab_Cd := [
  (0, (.aload_n 0, 1, .null, 0, 0)),
  (1, (.dup, 1, .null, 0, 0)),
  (2, (.getfield 241, 3, .ref 779, 7, 28)),
  (5, (.iconst 1, 1, .int 1, 0, 0)),
  (6, (.iadd, 1, .null, 0, 0)),
  (7, (.putfield 241, 3, .ref 779, 7, 28)),
  (10, (.aload_n 0, 1, .null, 0, 0)),
  (11, (.getfield 28, 3, .ref 757, 7, 6)),
  (14, (.bipush 19, 2, .int 19, 0, 0)),
  (16, (.iload_n 1, 1, .null, 0, 0)),
  (17, (.iastore, 1, .null, 1, 0)),
  (18, (.aload_n 0, 1, .null, 0, 0)),
  (19, (.invokevirtual 208, 3, .ref 962, 0, 0)),
  (22, (.ifCond .ne 8, 3, .null, 0, 30)),
  (25, (.aload_n 0, 1, .null, 0, 0)),
  (26, (.iload_n 1, 1, .null, 0, 0)),
  (27, (.putfield 105, 3, .ref 771, 7, 20)),
  (30, (.aload_n 0, 1, .null, 0, 0)),
  (31, (.invokevirtual 249, 3, .ref 998, 0, 0)),
  (34, (.aload_n 0, 1, .null, 0, 0)),
  (35, (.dup, 1, .null, 0, 0)),
  (36, (.getfield 121, 3, .ref 776, 7, 25)),
  (39, (.iconst 1, 1, .int 1, 0, 0)),
  (40, (.iadd, 1, .null, 0, 0)),
  (41, (.putfield 121, 3, .ref 776, 7, 25)),
  (44, (.aload_n 0, 1, .null, 0, 0)),
  (45, (.getfield 28, 3, .ref 757, 7, 6)),
  (48, (.iconst 4, 1, .int 4, 0, 0)),
  (49, (.iaload, 1, .null, 1, 0)),
  (50, (.ifCond .le 39, 3, .null, 0, 89)),
  (53, (.aload_n 0, 1, .null, 0, 0)),
  (54, (.getfield 121, 3, .ref 776, 7, 25)),
  (57, (.aload_n 0, 1, .null, 0, 0)),
  (58, (.getfield 28, 3, .ref 757, 7, 6)),
  (61, (.iconst 4, 1, .int 4, 0, 0)),
  (62, (.iaload, 1, .null, 1, 0)),
  (63, (.if_icmp .lt 26, 3, .null, 0, 89)),
  (66, (.aload_n 0, 1, .null, 0, 0))]
set_option maxRecDepth 100000 in
theorem ckR_step_0 : ab_ckM mR_step kR_step_0 = true := by decide +kernel
def kR_step_1 : ab_Cd := [
  (67, (.iconst 0, 1, .int 0, 0, 0)),
  (68, (.putfield 121, 3, .ref 776, 7, 25)),
  (71, (.aload_n 0, 1, .null, 0, 0)),
  (72, (.sipush 1792, 3, .int 1792, 0, 0)),
  (75, (.aload_n 0, 1, .null, 0, 0)),
  (76, (.getfield 50, 3, .ref 768, 7, 17)),
  (79, (.iadd, 1, .null, 0, 0)),
  (80, (.iconst 1, 1, .int 1, 0, 0)),
  (81, (.aload_n 0, 1, .null, 0, 0)),
  (82, (.getfield 99, 3, .ref 769, 7, 18)),
  (85, (.i2l, 1, .null, 0, 0)),
  (86, (.invokevirtual 130, 3, .ref 747, 0, 0)),
  (89, (.aload_n 0, 1, .null, 0, 0)),
  (90, (.aload_n 0, 1, .null, 0, 0)),
  (91, (.getfield 112, 3, .ref 773, 7, 22)),
  (94, (.ifCond .eq 12, 3, .null, 0, 106)),
  (97, (.aload_n 0, 1, .null, 0, 0)),
  (98, (.getfield 124, 3, .ref 777, 7, 26)),
  (101, (.iconst 1, 1, .int 1, 0, 0)),
  (102, (.iadd, 1, .null, 0, 0)),
  (103, (.goto 7, 3, .null, 0, 110)),
  (106, (.aload_n 0, 1, .null, 0, 0)),
  (107, (.getfield 124, 3, .ref 777, 7, 26)),
  (110, (.putfield 124, 3, .ref 777, 7, 26)),
  (113, (.aload_n 0, 1, .null, 0, 0)),
  (114, (.getfield 112, 3, .ref 773, 7, 22)),
  (117, (.ifCond .eq 30, 3, .null, 0, 147)),
  (120, (.aload_n 0, 1, .null, 0, 0)),
  (121, (.getfield 124, 3, .ref 777, 7, 26)),
  (124, (.aload_n 0, 1, .null, 0, 0)),
  (125, (.getfield 28, 3, .ref 757, 7, 6)),
  (128, (.iconst 3, 1, .int 3, 0, 0)),
  (129, (.iaload, 1, .null, 1, 0)),
  (130, (.ldc 66, 2, .int 65535, 0, 719)),
  (132, (.iand, 1, .null, 0, 0)),
  (133, (.if_icmp .lt 14, 3, .null, 0, 147)),
  (136, (.aload_n 0, 1, .null, 0, 0)),
  (137, (.iconst 0, 1, .int 0, 0, 0))]
set_option maxRecDepth 100000 in
theorem ckR_step_1 : ab_ckM mR_step kR_step_1 = true := by decide +kernel
def kR_step_2 : ab_Cd := [
  (138, (.putfield 112, 3, .ref 773, 7, 22)),
  (141, (.aload_n 0, 1, .null, 0, 0)),
  (142, (.ldc 252, 2, .int 33072, 0, 1002)),
  (144, (.invokevirtual 145, 3, .ref 883, 0, 0)),
  (147, (.iload_n 1, 1, .null, 0, 0)),
  (148, (.aload_n 0, 1, .null, 0, 0)),
  (149, (.getfield 105, 3, .ref 771, 7, 20)),
  (152, (.isub, 1, .null, 0, 0)),
  (153, (.istore_n 2, 1, .null, 0, 0)),
  (154, (.aload_n 0, 1, .null, 0, 0)),
  (155, (.getfield 102, 3, .ref 770, 7, 19)),
  (158, (.iconst 4, 1, .int 4, 0, 0)),
  (159, (.if_icmp .ne 32, 3, .null, 0, 191)),
  (162, (.iload_n 2, 1, .null, 0, 0)),
  (163, (.aload_n 0, 1, .null, 0, 0)),
  (164, (.getfield 28, 3, .ref 757, 7, 6)),
  (167, (.bipush 20, 2, .int 20, 0, 0)),
  (169, (.iaload, 1, .null, 1, 0)),
  (170, (.if_icmp .gt 15, 3, .null, 0, 185)),
  (173, (.iload_n 2, 1, .null, 0, 0)),
  (174, (.ineg, 1, .null, 0, 0)),
  (175, (.aload_n 0, 1, .null, 0, 0)),
  (176, (.getfield 28, 3, .ref 757, 7, 6)),
  (179, (.bipush 20, 2, .int 20, 0, 0)),
  (181, (.iaload, 1, .null, 1, 0)),
  (182, (.if_icmp .le 9, 3, .null, 0, 191)),
  (185, (.aload_n 0, 1, .null, 0, 0)),
  (186, (.ldc 149, 2, .int 34321, 0, 887)),
  (188, (.invokevirtual 145, 3, .ref 883, 0, 0)),
  (191, (.aload_n 0, 1, .null, 0, 0)),
  (192, (.aload_n 0, 1, .null, 0, 0)),
  (193, (.invokevirtual 253, 3, .ref 1003, 0, 0)),
  (196, (.invokevirtual 256, 3, .ref 1007, 0, 0)),
  (199, (.aload_n 0, 1, .null, 0, 0)),
  (200, (.aload_n 0, 1, .null, 0, 0)),
  (201, (.getfield 28, 3, .ref 757, 7, 6)),
  (204, (.bipush 16, 2, .int 16, 0, 0)),
  (206, (.iaload, 1, .null, 1, 0))]
set_option maxRecDepth 100000 in
theorem ckR_step_2 : ab_ckM mR_step kR_step_2 = true := by decide +kernel
def kR_step_3 : ab_Cd := [
  (207, (.sipush 128, 3, .int 128, 0, 0)),
  (210, (.iand, 1, .null, 0, 0)),
  (211, (.ifCond .eq 7, 3, .null, 0, 218)),
  (214, (.iconst 1, 1, .int 1, 0, 0)),
  (215, (.goto 4, 3, .null, 0, 219)),
  (218, (.iconst 0, 1, .int 0, 0, 0)),
  (219, (.putfield 115, 3, .retAddr 774, 7, 23)),
  (222, (.aload_n 0, 1, .null, 0, 0)),
  (223, (.iload_n 1, 1, .null, 0, 0)),
  (224, (.invokevirtual 259, 3, .ref 1011, 0, 0)),
  (227, (.aload_n 0, 1, .null, 0, 0)),
  (228, (.invokevirtual 262, 3, .ref 1025, 0, 0)),
  (231, (.return_, 1, .null, 0, 0))]
set_option maxRecDepth 100000 in
theorem ckR_step_3 : ab_ckM mR_step kR_step_3 = true := by decide +kernel
def kR_step : ab_Cd := kR_step_0 ++ (kR_step_1 ++ (kR_step_2 ++ (kR_step_3)))
theorem ckR_step : ab_ckM mR_step kR_step = true := ab_ck_app ckR_step_0 (ab_ck_app ckR_step_1 (ab_ck_app ckR_step_2 (ckR_step_3)))
set_option maxRecDepth 100000 in
theorem wR_step : ab_MW mR_step 1 1 := ab_mw_ok (i1 := 68) (i2 := 996) (i3 := 52) (by decide +kernel) (ab_t4 (List.mem_of_getElem? (i := 218) rfl))
abbrev mR_order : ab_Mt := (⟨"BusServoModel", "order", "()I"⟩, prog_12_method_37_code, 2, (some .int))
def kR_order : ab_Cd := [
  (0, (.aload_n 0, 1, .null, 0, 0)),
  (1, (.getfield 28, 3, .ref 757, 7, 6)),
  (4, (.bipush 16, 2, .int 16, 0, 0)),
  (6, (.iaload, 1, .null, 1, 0)),
  (7, (.istore_n 1, 1, .null, 0, 0)),
  (8, (.iload_n 1, 1, .null, 0, 0)),
  (9, (.sipush 128, 3, .int 128, 0, 0)),
  (12, (.iand, 1, .null, 0, 0)),
  (13, (.ifCond .eq 17, 3, .null, 0, 30)),
  (16, (.aload_n 0, 1, .null, 0, 0)),
  (17, (.getfield 115, 3, .ref 774, 7, 23)),
  (20, (.ifCond .eq 7, 3, .null, 0, 27)),
  (23, (.iconst 0, 1, .int 0, 0, 0)),
  (24, (.goto 5, 3, .null, 0, 29)),
  (27, (.bipush 6, 2, .int 6, 0, 0)),
  (29, (.ireturn, 1, .null, 0, 0)),
  (30, (.iload_n 1, 1, .null, 0, 0)),
  (31, (.iconst 2, 1, .int 2, 0, 0)),
  (32, (.iand, 1, .null, 0, 0)),
  (33, (.ifCond .ne 7, 3, .null, 0, 40)),
  (36, (.iconst 1, 1, .int 1, 0, 0)),
  (37, (.goto 35, 3, .null, 0, 72)),
  (40, (.iload_n 1, 1, .null, 0, 0)),
  (41, (.iconst 4, 1, .int 4, 0, 0)),
  (42, (.iand, 1, .null, 0, 0)),
  (43, (.ifCond .ne 7, 3, .null, 0, 50)),
  (46, (.iconst 2, 1, .int 2, 0, 0)),
  (47, (.goto 25, 3, .null, 0, 72)),
  (50, (.iload_n 1, 1, .null, 0, 0)),
  (51, (.iconst 1, 1, .int 1, 0, 0)),
  (52, (.iand, 1, .null, 0, 0)),
  (53, (.ifCond .ne 7, 3, .null, 0, 60)),
  (56, (.iconst 3, 1, .int 3, 0, 0)),
  (57, (.goto 15, 3, .null, 0, 72)),
  (60, (.iload_n 1, 1, .null, 0, 0)),
  (61, (.bipush 8, 2, .int 8, 0, 0)),
  (63, (.iand, 1, .null, 0, 0)),
  (64, (.ifCond .ne 7, 3, .null, 0, 71)),
  (67, (.iconst 4, 1, .int 4, 0, 0)),
  (68, (.goto 4, 3, .null, 0, 72)),
  (71, (.iconst 5, 1, .int 5, 0, 0)),
  (72, (.ireturn, 1, .null, 0, 0))]
set_option maxRecDepth 100000 in
theorem ckR_order : ab_ckM mR_order kR_order = true := by decide +kernel
set_option maxRecDepth 100000 in
theorem wR_order : ab_MW mR_order 1 0 := ab_mw_ok (i1 := 68) (i2 := 1005) (i3 := 54) (by decide +kernel) (ab_t4 (List.mem_of_getElem? (i := 227) rfl))
abbrev mR_obey : ab_Mt := (⟨"BusServoModel", "obey", "(I)V"⟩, prog_12_method_38_code, 4, none)
def kR_obey_0 : ab_Cd := [
  (0, (.iload_n 1, 1, .null, 0, 0)),
  (1, (.iconst 1, 1, .int 1, 0, 0)),
  (2, (.if_icmp .eq 8, 3, .null, 0, 10)),
  (5, (.iload_n 1, 1, .null, 0, 0)),
  (6, (.iconst 2, 1, .int 2, 0, 0)),
  (7, (.if_icmp .ne 7, 3, .null, 0, 14)),
  (10, (.iconst 1, 1, .int 1, 0, 0)),
  (11, (.goto 4, 3, .null, 0, 15)),
  (14, (.iconst 0, 1, .int 0, 0, 0)),
  (15, (.istore_n 2, 1, .null, 0, 0)),
  (16, (.aload_n 0, 1, .null, 0, 0)),
  (17, (.getfield 28, 3, .ref 757, 7, 6)),
  (20, (.bipush 21, 2, .int 21, 0, 0)),
  (22, (.iaload, 1, .null, 1, 0)),
  (23, (.ifCond .ne 7, 3, .null, 0, 30)),
  (26, (.iconst 1, 1, .int 1, 0, 0)),
  (27, (.goto 4, 3, .null, 0, 31)),
  (30, (.iconst 0, 1, .int 0, 0, 0)),
  (31, (.istore_n 3, 1, .null, 0, 0)),
  (32, (.aload_n 0, 1, .null, 0, 0)),
  (33, (.getfield 102, 3, .ref 770, 7, 19)),
  (36, (.iconst 1, 1, .int 1, 0, 0)),
  (37, (.if_icmp .ne 20, 3, .null, 0, 57)),
  (40, (.aload_n 0, 1, .null, 0, 0)),
  (41, (.iload_n 1, 1, .null, 0, 0)),
  (42, (.iconst 3, 1, .int 3, 0, 0)),
  (43, (.if_icmp .ne 7, 3, .null, 0, 50)),
  (46, (.iconst 2, 1, .int 2, 0, 0)),
  (47, (.goto 4, 3, .null, 0, 51)),
  (50, (.iconst 1, 1, .int 1, 0, 0)),
  (51, (.putfield 102, 3, .ref 770, 7, 19)),
  (54, (.goto 214, 3, .null, 0, 268)),
  (57, (.aload_n 0, 1, .null, 0, 0))]
set_option maxRecDepth 100000 in
theorem ckR_obey_0 : ab_ckM mR_obey kR_obey_0 = true := by decide +kernel
def kR_obey_1 : ab_Cd := [
  (58, (.getfield 102, 3, .ref 770, 7, 19)),
  (61, (.iconst 2, 1, .int 2, 0, 0)),
  (62, (.if_icmp .ne 33, 3, .null, 0, 95)),
  (65, (.aload_n 0, 1, .null, 0, 0)),
  (66, (.iload_n 1, 1, .null, 0, 0)),
  (67, (.iconst 4, 1, .int 4, 0, 0)),
  (68, (.if_icmp .eq 8, 3, .null, 0, 76)),
  (71, (.iload_n 1, 1, .null, 0, 0)),
  (72, (.iconst 5, 1, .int 5, 0, 0)),
  (73, (.if_icmp .ne 7, 3, .null, 0, 80)),
  (76, (.iconst 3, 1, .int 3, 0, 0)),
  (77, (.goto 12, 3, .null, 0, 89)),
  (80, (.iload_n 2, 1, .null, 0, 0)),
  (81, (.ifCond .eq 7, 3, .null, 0, 88)),
  (84, (.iconst 1, 1, .int 1, 0, 0)),
  (85, (.goto 4, 3, .null, 0, 89)),
  (88, (.iconst 2, 1, .int 2, 0, 0)),
  (89, (.putfield 102, 3, .ref 770, 7, 19)),
  (92, (.goto 176, 3, .null, 0, 268)),
  (95, (.aload_n 0, 1, .null, 0, 0)),
  (96, (.getfield 102, 3, .ref 770, 7, 19)),
  (99, (.iconst 3, 1, .int 3, 0, 0)),
  (100, (.if_icmp .ne 37, 3, .null, 0, 137)),
  (103, (.aload_n 0, 1, .null, 0, 0)),
  (104, (.iload_n 1, 1, .null, 0, 0)),
  (105, (.iconst 5, 1, .int 5, 0, 0)),
  (106, (.if_icmp .ne 7, 3, .null, 0, 113)),
  (109, (.iconst 4, 1, .int 4, 0, 0)),
  (110, (.goto 21, 3, .null, 0, 131)),
  (113, (.iload_n 1, 1, .null, 0, 0)),
  (114, (.iconst 3, 1, .int 3, 0, 0)),
  (115, (.if_icmp .ne 7, 3, .null, 0, 122)),
  (118, (.iconst 2, 1, .int 2, 0, 0))]
set_option maxRecDepth 100000 in
theorem ckR_obey_1 : ab_ckM mR_obey kR_obey_1 = true := by decide +kernel
def kR_obey_2 : ab_Cd := [
  (119, (.goto 12, 3, .null, 0, 131)),
  (122, (.iload_n 2, 1, .null, 0, 0)),
  (123, (.ifCond .eq 7, 3, .null, 0, 130)),
  (126, (.iconst 1, 1, .int 1, 0, 0)),
  (127, (.goto 4, 3, .null, 0, 131)),
  (130, (.iconst 3, 1, .int 3, 0, 0)),
  (131, (.putfield 102, 3, .ref 770, 7, 19)),
  (134, (.goto 134, 3, .null, 0, 268)),
  (137, (.aload_n 0, 1, .null, 0, 0)),
  (138, (.getfield 102, 3, .ref 770, 7, 19)),
  (141, (.iconst 4, 1, .int 4, 0, 0)),
  (142, (.if_icmp .ne 47, 3, .null, 0, 189)),
  (145, (.aload_n 0, 1, .null, 0, 0)),
  (146, (.iload_n 1, 1, .null, 0, 0)),
  (147, (.iconst 4, 1, .int 4, 0, 0)),
  (148, (.if_icmp .ne 7, 3, .null, 0, 155)),
  (151, (.iconst 3, 1, .int 3, 0, 0)),
  (152, (.goto 31, 3, .null, 0, 183)),
  (155, (.iload_n 1, 1, .null, 0, 0)),
  (156, (.iconst 3, 1, .int 3, 0, 0)),
  (157, (.if_icmp .ne 7, 3, .null, 0, 164)),
  (160, (.iconst 2, 1, .int 2, 0, 0)),
  (161, (.goto 22, 3, .null, 0, 183)),
  (164, (.iload_n 1, 1, .null, 0, 0)),
  (165, (.iconst 1, 1, .int 1, 0, 0)),
  (166, (.if_icmp .ne 7, 3, .null, 0, 173)),
  (169, (.iconst 1, 1, .int 1, 0, 0)),
  (170, (.goto 13, 3, .null, 0, 183)),
  (173, (.iload_n 1, 1, .null, 0, 0)),
  (174, (.iconst 2, 1, .int 2, 0, 0)),
  (175, (.if_icmp .ne 7, 3, .null, 0, 182)),
  (178, (.iconst 5, 1, .int 5, 0, 0)),
  (179, (.goto 4, 3, .null, 0, 183))]
set_option maxRecDepth 100000 in
theorem ckR_obey_2 : ab_ckM mR_obey kR_obey_2 = true := by decide +kernel
def kR_obey_3 : ab_Cd := [
  (182, (.iconst 4, 1, .int 4, 0, 0)),
  (183, (.putfield 102, 3, .ref 770, 7, 19)),
  (186, (.goto 82, 3, .null, 0, 268)),
  (189, (.aload_n 0, 1, .null, 0, 0)),
  (190, (.getfield 102, 3, .ref 770, 7, 19)),
  (193, (.iconst 5, 1, .int 5, 0, 0)),
  (194, (.if_icmp .ne 24, 3, .null, 0, 218)),
  (197, (.aload_n 0, 1, .null, 0, 0)),
  (198, (.iload_n 1, 1, .null, 0, 0)),
  (199, (.iconst 1, 1, .int 1, 0, 0)),
  (200, (.if_icmp .eq 7, 3, .null, 0, 207)),
  (203, (.iload_n 3, 1, .null, 0, 0)),
  (204, (.ifCond .eq 7, 3, .null, 0, 211)),
  (207, (.iconst 1, 1, .int 1, 0, 0)),
  (208, (.goto 4, 3, .null, 0, 212)),
  (211, (.iconst 5, 1, .int 5, 0, 0)),
  (212, (.putfield 102, 3, .ref 770, 7, 19)),
  (215, (.goto 53, 3, .null, 0, 268)),
  (218, (.aload_n 0, 1, .null, 0, 0)),
  (219, (.getfield 102, 3, .ref 770, 7, 19)),
  (222, (.bipush 6, 2, .int 6, 0, 0)),
  (224, (.if_icmp .ne 21, 3, .null, 0, 245)),
  (227, (.aload_n 0, 1, .null, 0, 0)),
  (228, (.iload_n 3, 1, .null, 0, 0)),
  (229, (.ifCond .eq 8, 3, .null, 0, 237)),
  (232, (.bipush 7, 2, .int 7, 0, 0)),
  (234, (.goto 5, 3, .null, 0, 239)),
  (237, (.bipush 6, 2, .int 6, 0, 0)),
  (239, (.putfield 102, 3, .ref 770, 7, 19)),
  (242, (.goto 26, 3, .null, 0, 268)),
  (245, (.iload_n 1, 1, .null, 0, 0)),
  (246, (.bipush 6, 2, .int 6, 0, 0)),
  (248, (.if_icmp .ne 20, 3, .null, 0, 268))]
set_option maxRecDepth 100000 in
theorem ckR_obey_3 : ab_ckM mR_obey kR_obey_3 = true := by decide +kernel
def kR_obey_4 : ab_Cd := [
  (251, (.aload_n 0, 1, .null, 0, 0)),
  (252, (.iconst 1, 1, .int 1, 0, 0)),
  (253, (.putfield 102, 3, .ref 770, 7, 19)),
  (256, (.aload_n 0, 1, .null, 0, 0)),
  (257, (.getfield 28, 3, .ref 757, 7, 6)),
  (260, (.iconst 0, 1, .int 0, 0, 0)),
  (261, (.iconst 0, 1, .int 0, 0, 0)),
  (262, (.iastore, 1, .null, 1, 0)),
  (263, (.aload_n 0, 1, .null, 0, 0)),
  (264, (.iconst 0, 1, .int 0, 0, 0)),
  (265, (.invokevirtual 150, 3, .ref 888, 0, 0)),
  (268, (.return_, 1, .null, 0, 0))]
set_option maxRecDepth 100000 in
theorem ckR_obey_4 : ab_ckM mR_obey kR_obey_4 = true := by decide +kernel
def kR_obey : ab_Cd := kR_obey_0 ++ (kR_obey_1 ++ (kR_obey_2 ++ (kR_obey_3 ++ (kR_obey_4))))
theorem ckR_obey : ab_ckM mR_obey kR_obey = true := ab_ck_app ckR_obey_0 (ab_ck_app ckR_obey_1 (ab_ck_app ckR_obey_2 (ab_ck_app ckR_obey_3 (ckR_obey_4))))
set_option maxRecDepth 100000 in
theorem wR_obey : ab_MW mR_obey 1 1 := ab_mw_ok (i1 := 68) (i2 := 1009) (i3 := 55) (by decide +kernel) (ab_t4 (List.mem_of_getElem? (i := 231) rfl))
abbrev mR_lesser : ab_Mt := (⟨"BusServoModel", "lesser", "(II)I"⟩, prog_12_method_39_code, 2, (some .int))
def kR_lesser : ab_Cd := [
  (0, (.iload_n 0, 1, .null, 0, 0)),
  (1, (.iload_n 1, 1, .null, 0, 0)),
  (2, (.if_icmp .ge 7, 3, .null, 0, 9)),
  (5, (.iload_n 0, 1, .null, 0, 0)),
  (6, (.goto 4, 3, .null, 0, 10)),
  (9, (.iload_n 1, 1, .null, 0, 0)),
  (10, (.ireturn, 1, .null, 0, 0))]
set_option maxRecDepth 100000 in
theorem ckR_lesser : ab_ckM mR_lesser kR_lesser = true := by decide +kernel
set_option maxRecDepth 100000 in
theorem wR_lesser : ab_MW mR_lesser 0 2 := ab_mw_ok (i1 := 68) (i2 := 926) (i3 := 0) (by decide +kernel) (ab_t4 (List.mem_of_getElem? (i := 148) rfl))
abbrev mR_greater : ab_Mt := (⟨"BusServoModel", "greater", "(II)I"⟩, prog_12_method_40_code, 2, (some .int))
def kR_greater : ab_Cd := [
  (0, (.iload_n 0, 1, .null, 0, 0)),
  (1, (.iload_n 1, 1, .null, 0, 0)),
  (2, (.if_icmp .le 7, 3, .null, 0, 9)),
  (5, (.iload_n 0, 1, .null, 0, 0)),
  (6, (.goto 4, 3, .null, 0, 10)),
  (9, (.iload_n 1, 1, .null, 0, 0)),
  (10, (.ireturn, 1, .null, 0, 0))]
set_option maxRecDepth 100000 in
theorem ckR_greater : ab_ckM mR_greater kR_greater = true := by decide +kernel
set_option maxRecDepth 100000 in
theorem wR_greater : ab_MW mR_greater 0 2 := ab_mw_ok (i1 := 68) (i2 := 929) (i3 := 0) (by decide +kernel) (ab_t4 (List.mem_of_getElem? (i := 151) rfl))
abbrev mR_size0 : ab_Mt := (⟨"BusServoModel", "size0", "(I)I"⟩, prog_12_method_41_code, 1, (some .int))
def kR_size0 : ab_Cd := [
  (0, (.iload_n 0, 1, .null, 0, 0)),
  (1, (.ifCond .ge 8, 3, .null, 0, 9)),
  (4, (.iload_n 0, 1, .null, 0, 0)),
  (5, (.ineg, 1, .null, 0, 0)),
  (6, (.goto 4, 3, .null, 0, 10)),
  (9, (.iload_n 0, 1, .null, 0, 0)),
  (10, (.ireturn, 1, .null, 0, 0))]
set_option maxRecDepth 100000 in
theorem ckR_size0 : ab_ckM mR_size0 kR_size0 = true := by decide +kernel
set_option maxRecDepth 100000 in
theorem wR_size0 : ab_MW mR_size0 0 1 := ab_mw_ok (i1 := 68) (i2 := 1023) (i3 := 0) (by decide +kernel) (ab_t5 (List.mem_of_getElem? (i := 5) rfl))
abbrev mR_aim : ab_Mt := (⟨"BusServoModel", "aim", "()I"⟩, prog_12_method_42_code, 2, (some .int))
def kR_aim : ab_Cd := [
  (0, (.aload_n 0, 1, .null, 0, 0)),
  (1, (.getfield 28, 3, .ref 757, 7, 6)),
  (4, (.bipush 18, 2, .int 18, 0, 0)),
  (6, (.iaload, 1, .null, 1, 0)),
  (7, (.iconst 1, 1, .int 1, 0, 0)),
  (8, (.if_icmp .ne 33, 3, .null, 0, 41)),
  (11, (.aload_n 0, 1, .null, 0, 0)),
  (12, (.getfield 28, 3, .ref 757, 7, 6)),
  (15, (.bipush 22, 2, .int 22, 0, 0)),
  (17, (.iaload, 1, .null, 1, 0)),
  (18, (.aload_n 0, 1, .null, 0, 0)),
  (19, (.getfield 28, 3, .ref 757, 7, 6)),
  (22, (.bipush 24, 2, .int 24, 0, 0)),
  (24, (.iaload, 1, .null, 1, 0)),
  (25, (.invokestatic 265, 3, .ref 925, 0, 0)),
  (28, (.istore_n 1, 1, .null, 0, 0)),
  (29, (.iload_n 1, 1, .null, 0, 0)),
  (30, (.aload_n 0, 1, .null, 0, 0)),
  (31, (.getfield 28, 3, .ref 757, 7, 6)),
  (34, (.bipush 23, 2, .int 23, 0, 0)),
  (36, (.iaload, 1, .null, 1, 0)),
  (37, (.invokestatic 268, 3, .ref 928, 0, 0)),
  (40, (.ireturn, 1, .null, 0, 0)),
  (41, (.aload_n 0, 1, .null, 0, 0)),
  (42, (.getfield 28, 3, .ref 757, 7, 6)),
  (45, (.bipush 29, 2, .int 29, 0, 0)),
  (47, (.iaload, 1, .null, 1, 0)),
  (48, (.istore_n 1, 1, .null, 0, 0)),
  (49, (.iload_n 1, 1, .null, 0, 0)),
  (50, (.ifCond .le 20, 3, .null, 0, 70)),
  (53, (.aload_n 0, 1, .null, 0, 0)),
  (54, (.getfield 105, 3, .ref 771, 7, 20)),
  (57, (.aload_n 0, 1, .null, 0, 0)),
  (58, (.getfield 28, 3, .ref 757, 7, 6)),
  (61, (.bipush 24, 2, .int 24, 0, 0)),
  (63, (.iaload, 1, .null, 1, 0)),
  (64, (.invokestatic 268, 3, .ref 928, 0, 0)),
  (67, (.goto 28, 3, .null, 0, 95)),
  (70, (.iload_n 1, 1, .null, 0, 0)),
  (71, (.ifCond .ge 20, 3, .null, 0, 91)),
  (74, (.aload_n 0, 1, .null, 0, 0)),
  (75, (.getfield 105, 3, .ref 771, 7, 20)),
  (78, (.aload_n 0, 1, .null, 0, 0)),
  (79, (.getfield 28, 3, .ref 757, 7, 6)),
  (82, (.bipush 23, 2, .int 23, 0, 0)),
  (84, (.iaload, 1, .null, 1, 0)),
  (85, (.invokestatic 265, 3, .ref 925, 0, 0)),
  (88, (.goto 7, 3, .null, 0, 95)),
  (91, (.aload_n 0, 1, .null, 0, 0)),
  (92, (.getfield 105, 3, .ref 771, 7, 20)),
  (95, (.ireturn, 1, .null, 0, 0))]
set_option maxRecDepth 100000 in
theorem ckR_aim : ab_ckM mR_aim kR_aim = true := by decide +kernel
set_option maxRecDepth 100000 in
theorem wR_aim : ab_MW mR_aim 1 0 := ab_mw_ok (i1 := 68) (i2 := 923) (i3 := 42) (by decide +kernel) (ab_t4 (List.mem_of_getElem? (i := 145) rfl))
abbrev mR_slower : ab_Mt := (⟨"BusServoModel", "slower", "(II)I"⟩, prog_12_method_43_code, 2, (some .int))
def kR_slower : ab_Cd := [
  (0, (.iload_n 0, 1, .null, 0, 0)),
  (1, (.iload_n 1, 1, .null, 0, 0)),
  (2, (.if_icmp .le 9, 3, .null, 0, 11)),
  (5, (.iload_n 0, 1, .null, 0, 0)),
  (6, (.iload_n 1, 1, .null, 0, 0)),
  (7, (.isub, 1, .null, 0, 0)),
  (8, (.goto 16, 3, .null, 0, 24)),
  (11, (.iload_n 0, 1, .null, 0, 0)),
  (12, (.iload_n 1, 1, .null, 0, 0)),
  (13, (.ineg, 1, .null, 0, 0)),
  (14, (.if_icmp .ge 9, 3, .null, 0, 23)),
  (17, (.iload_n 0, 1, .null, 0, 0)),
  (18, (.iload_n 1, 1, .null, 0, 0)),
  (19, (.iadd, 1, .null, 0, 0)),
  (20, (.goto 4, 3, .null, 0, 24)),
  (23, (.iconst 0, 1, .int 0, 0, 0)),
  (24, (.ireturn, 1, .null, 0, 0))]
set_option maxRecDepth 100000 in
theorem ckR_slower : ab_ckM mR_slower kR_slower = true := by decide +kernel
set_option maxRecDepth 100000 in
theorem wR_slower : ab_MW mR_slower 0 2 := ab_mw_ok (i1 := 68) (i2 := 1020) (i3 := 0) (by decide +kernel) (ab_t5 (List.mem_of_getElem? (i := 2) rfl))
abbrev mR_move : ab_Mt := (⟨"BusServoModel", "move", "(I)V"⟩, prog_12_method_44_code, 2, none)
def kR_move : ab_Cd := [
  (0, (.aload_n 0, 1, .null, 0, 0)),
  (1, (.invokevirtual 208, 3, .ref 962, 0, 0)),
  (4, (.ifCond .ne 17, 3, .null, 0, 21)),
  (7, (.aload_n 0, 1, .null, 0, 0)),
  (8, (.getfield 28, 3, .ref 757, 7, 6)),
  (11, (.bipush 21, 2, .int 21, 0, 0)),
  (13, (.iconst 0, 1, .int 0, 0, 0)),
  (14, (.iastore, 1, .null, 1, 0)),
  (15, (.aload_n 0, 1, .null, 0, 0)),
  (16, (.iload_n 1, 1, .null, 0, 0)),
  (17, (.putfield 105, 3, .ref 771, 7, 20)),
  (20, (.return_, 1, .null, 0, 0)),
  (21, (.aload_n 0, 1, .null, 0, 0)),
  (22, (.getfield 28, 3, .ref 757, 7, 6)),
  (25, (.bipush 21, 2, .int 21, 0, 0)),
  (27, (.aload_n 0, 1, .null, 0, 0)),
  (28, (.getfield 102, 3, .ref 770, 7, 19)),
  (31, (.iconst 4, 1, .int 4, 0, 0)),
  (32, (.if_icmp .ne 14, 3, .null, 0, 46)),
  (35, (.aload_n 0, 1, .null, 0, 0)),
  (36, (.aload_n 0, 1, .null, 0, 0)),
  (37, (.invokevirtual 271, 3, .ref 921, 0, 0)),
  (40, (.invokevirtual 274, 3, .ref 1015, 0, 0)),
  (43, (.goto 20, 3, .null, 0, 63)),
  (46, (.aload_n 0, 1, .null, 0, 0)),
  (47, (.getfield 28, 3, .ref 757, 7, 6)),
  (50, (.bipush 21, 2, .int 21, 0, 0)),
  (52, (.iaload, 1, .null, 1, 0)),
  (53, (.aload_n 0, 1, .null, 0, 0)),
  (54, (.getfield 28, 3, .ref 757, 7, 6)),
  (57, (.bipush 28, 2, .int 28, 0, 0)),
  (59, (.iaload, 1, .null, 1, 0)),
  (60, (.invokestatic 277, 3, .ref 1019, 0, 0)),
  (63, (.iastore, 1, .null, 0, 0)),
  (64, (.aload_n 0, 1, .null, 0, 0)),
  (65, (.dup, 1, .null, 0, 0)),
  (66, (.getfield 105, 3, .ref 771, 7, 20)),
  (69, (.aload_n 0, 1, .null, 0, 0)),
  (70, (.getfield 28, 3, .ref 757, 7, 6)),
  (73, (.bipush 21, 2, .int 21, 0, 0)),
  (75, (.iaload, 1, .null, 1, 0)),
  (76, (.iadd, 1, .null, 0, 0)),
  (77, (.putfield 105, 3, .ref 771, 7, 20)),
  (80, (.return_, 1, .null, 0, 0))]
set_option maxRecDepth 100000 in
theorem ckR_move : ab_ckM mR_move kR_move = true := by decide +kernel
set_option maxRecDepth 100000 in
theorem wR_move : ab_MW mR_move 1 1 := ab_mw_ok (i1 := 68) (i2 := 1013) (i3 := 56) (by decide +kernel) (ab_t4 (List.mem_of_getElem? (i := 235) rfl))
abbrev mR_towards : ab_Mt := (⟨"BusServoModel", "towards", "(I)I"⟩, prog_12_method_45_code, 10, (some .int))
def kR_towards_0 : ab_Cd := [
  (0, (.aload_n 0, 1, .null, 0, 0)),
  (1, (.getfield 28, 3, .ref 757, 7, 6)),
  (4, (.bipush 21, 2, .int 21, 0, 0)),
  (6, (.iaload, 1, .null, 1, 0)),
  (7, (.istore_n 2, 1, .null, 0, 0)),
  (8, (.iload_n 2, 1, .null, 0, 0)),
  (9, (.ifCond .eq 11, 3, .null, 0, 20)),
  (12, (.iload_n 1, 1, .null, 0, 0)),
  (13, (.aload_n 0, 1, .null, 0, 0)),
  (14, (.getfield 105, 3, .ref 771, 7, 20)),
  (17, (.if_icmp .eq 27, 3, .null, 0, 44)),
  (20, (.iload_n 2, 1, .null, 0, 0)),
  (21, (.ifCond .le 11, 3, .null, 0, 32)),
  (24, (.iload_n 1, 1, .null, 0, 0)),
  (25, (.aload_n 0, 1, .null, 0, 0)),
  (26, (.getfield 105, 3, .ref 771, 7, 20)),
  (29, (.if_icmp .lt 15, 3, .null, 0, 44)),
  (32, (.iload_n 2, 1, .null, 0, 0)),
  (33, (.ifCond .ge 23, 3, .null, 0, 56)),
  (36, (.iload_n 1, 1, .null, 0, 0)),
  (37, (.aload_n 0, 1, .null, 0, 0)),
  (38, (.getfield 105, 3, .ref 771, 7, 20)),
  (41, (.if_icmp .le 15, 3, .null, 0, 56)),
  (44, (.iload_n 2, 1, .null, 0, 0)),
  (45, (.aload_n 0, 1, .null, 0, 0)),
  (46, (.getfield 28, 3, .ref 757, 7, 6)),
  (49, (.bipush 27, 2, .int 27, 0, 0)),
  (51, (.iaload, 1, .null, 1, 0)),
  (52, (.invokestatic 277, 3, .ref 1019, 0, 0)),
  (55, (.ireturn, 1, .null, 0, 0)),
  (56, (.aload_n 0, 1, .null, 0, 0)),
  (57, (.getfield 28, 3, .ref 757, 7, 6)),
  (60, (.bipush 18, 2, .int 18, 0, 0)),
  (62, (.iaload, 1, .null, 1, 0)),
  (63, (.iconst 1, 1, .int 1, 0, 0))]
set_option maxRecDepth 100000 in
theorem ckR_towards_0 : ab_ckM mR_towards kR_towards_0 = true := by decide +kernel
def kR_towards_1 : ab_Cd := [
  (64, (.if_icmp .ne 13, 3, .null, 0, 77)),
  (67, (.aload_n 0, 1, .null, 0, 0)),
  (68, (.getfield 28, 3, .ref 757, 7, 6)),
  (71, (.bipush 26, 2, .int 26, 0, 0)),
  (73, (.iaload, 1, .null, 1, 0)),
  (74, (.goto 13, 3, .null, 0, 87)),
  (77, (.aload_n 0, 1, .null, 0, 0)),
  (78, (.getfield 28, 3, .ref 757, 7, 6)),
  (81, (.bipush 29, 2, .int 29, 0, 0)),
  (83, (.iaload, 1, .null, 1, 0)),
  (84, (.invokestatic 280, 3, .ref 1022, 0, 0)),
  (87, (.istore_n 3, 1, .null, 0, 0)),
  (88, (.iload_n 3, 1, .null, 0, 0)),
  (89, (.aload_n 0, 1, .null, 0, 0)),
  (90, (.getfield 28, 3, .ref 757, 7, 6)),
  (93, (.bipush 25, 2, .int 25, 0, 0)),
  (95, (.iaload, 1, .null, 1, 0)),
  (96, (.invokestatic 265, 3, .ref 925, 0, 0)),
  (99, (.istore 4, 2, .null, 0, 0)),
  (101, (.iload_n 1, 1, .null, 0, 0)),
  (102, (.aload_n 0, 1, .null, 0, 0)),
  (103, (.getfield 105, 3, .ref 771, 7, 20)),
  (106, (.isub, 1, .null, 0, 0)),
  (107, (.invokestatic 280, 3, .ref 1022, 0, 0)),
  (110, (.istore 5, 2, .null, 0, 0)),
  (112, (.iload_n 2, 1, .null, 0, 0)),
  (113, (.invokestatic 280, 3, .ref 1022, 0, 0)),
  (116, (.istore 6, 2, .null, 0, 0)),
  (118, (.aload_n 0, 1, .null, 0, 0)),
  (119, (.getfield 28, 3, .ref 757, 7, 6)),
  (122, (.bipush 27, 2, .int 27, 0, 0)),
  (124, (.iaload, 1, .null, 1, 0)),
  (125, (.aload_n 0, 1, .null, 0, 0)),
  (126, (.getfield 28, 3, .ref 757, 7, 6)),
  (129, (.bipush 28, 2, .int 28, 0, 0))]
set_option maxRecDepth 100000 in
theorem ckR_towards_1 : ab_ckM mR_towards kR_towards_1 = true := by decide +kernel
def kR_towards_2 : ab_Cd := [
  (131, (.iaload, 1, .null, 1, 0)),
  (132, (.invokestatic 265, 3, .ref 925, 0, 0)),
  (135, (.istore 7, 2, .null, 0, 0)),
  (137, (.iconst 0, 1, .int 0, 0, 0)),
  (138, (.istore 8, 2, .null, 0, 0)),
  (140, (.iconst 0, 1, .int 0, 0, 0)),
  (141, (.istore 9, 2, .null, 0, 0)),
  (143, (.iload 9, 2, .null, 0, 0)),
  (145, (.iload 4, 2, .null, 0, 0)),
  (147, (.if_icmp .gt 72, 3, .null, 0, 219)),
  (150, (.aload_n 0, 1, .null, 0, 0)),
  (151, (.getfield 47, 3, .ref 767, 7, 16)),
  (154, (.iload 9, 2, .null, 0, 0)),
  (156, (.iload 9, 2, .null, 0, 0)),
  (158, (.iload 7, 2, .null, 0, 0)),
  (160, (.if_icmp .le 19, 3, .null, 0, 179)),
  (163, (.iload 9, 2, .null, 0, 0)),
  (165, (.aload_n 0, 1, .null, 0, 0)),
  (166, (.getfield 47, 3, .ref 767, 7, 16)),
  (169, (.iload 9, 2, .null, 0, 0)),
  (171, (.iload 7, 2, .null, 0, 0)),
  (173, (.isub, 1, .null, 0, 0)),
  (174, (.iaload, 1, .null, 0, 0)),
  (175, (.iadd, 1, .null, 0, 0)),
  (176, (.goto 5, 3, .null, 0, 181)),
  (179, (.iload 9, 2, .null, 0, 0)),
  (181, (.iastore, 1, .null, 0, 0)),
  (182, (.iload 9, 2, .null, 0, 0)),
  (184, (.iload 6, 2, .null, 0, 0)),
  (186, (.aload_n 0, 1, .null, 0, 0)),
  (187, (.getfield 28, 3, .ref 757, 7, 6)),
  (190, (.bipush 27, 2, .int 27, 0, 0)),
  (192, (.iaload, 1, .null, 1, 0)),
  (193, (.iadd, 1, .null, 0, 0)),
  (194, (.if_icmp .gt 19, 3, .null, 0, 213))]
set_option maxRecDepth 100000 in
theorem ckR_towards_2 : ab_ckM mR_towards kR_towards_2 = true := by decide +kernel
def kR_towards_3 : ab_Cd := [
  (197, (.aload_n 0, 1, .null, 0, 0)),
  (198, (.getfield 47, 3, .ref 767, 7, 16)),
  (201, (.iload 9, 2, .null, 0, 0)),
  (203, (.iaload, 1, .null, 0, 0)),
  (204, (.iload 5, 2, .null, 0, 0)),
  (206, (.if_icmp .gt 7, 3, .null, 0, 213)),
  (209, (.iload 9, 2, .null, 0, 0)),
  (211, (.istore 8, 2, .null, 0, 0)),
  (213, (.iinc 9 1, 3, .int 1, 0, 0)),
  (216, (.goto (-73), 3, .null, 0, 143)),
  (219, (.iload 8, 2, .null, 0, 0)),
  (221, (.iload 6, 2, .null, 0, 0)),
  (223, (.aload_n 0, 1, .null, 0, 0)),
  (224, (.getfield 28, 3, .ref 757, 7, 6)),
  (227, (.bipush 27, 2, .int 27, 0, 0)),
  (229, (.iaload, 1, .null, 1, 0)),
  (230, (.isub, 1, .null, 0, 0)),
  (231, (.invokestatic 268, 3, .ref 928, 0, 0)),
  (234, (.istore 8, 2, .null, 0, 0)),
  (236, (.iload_n 1, 1, .null, 0, 0)),
  (237, (.aload_n 0, 1, .null, 0, 0)),
  (238, (.getfield 105, 3, .ref 771, 7, 20)),
  (241, (.if_icmp .ge 9, 3, .null, 0, 250)),
  (244, (.iload 8, 2, .null, 0, 0)),
  (246, (.ineg, 1, .null, 0, 0)),
  (247, (.goto 5, 3, .null, 0, 252)),
  (250, (.iload 8, 2, .null, 0, 0)),
  (252, (.ireturn, 1, .null, 0, 0))]
set_option maxRecDepth 100000 in
theorem ckR_towards_3 : ab_ckM mR_towards kR_towards_3 = true := by decide +kernel
def kR_towards : ab_Cd := kR_towards_0 ++ (kR_towards_1 ++ (kR_towards_2 ++ (kR_towards_3)))
theorem ckR_towards : ab_ckM mR_towards kR_towards = true := ab_ck_app ckR_towards_0 (ab_ck_app ckR_towards_1 (ab_ck_app ckR_towards_2 (ckR_towards_3)))
set_option maxRecDepth 100000 in
theorem wR_towards : ab_MW mR_towards 1 1 := ab_mw_ok (i1 := 68) (i2 := 1017) (i3 := 57) (by decide +kernel) (ab_t4 (List.mem_of_getElem? (i := 239) rfl))
abbrev mR_look : ab_Mt := (⟨"BusServoModel", "look", "(I)I"⟩, prog_12_method_46_code, 3, (some .int))
def kR_look_0 : ab_Cd := [
  (0, (.iload_n 1, 1, .null, 0, 0)),
  (1, (.bipush 17, 2, .int 17, 0, 0)),
  (3, (.if_icmp .eq 10, 3, .null, 0, 13)),
  (6, (.aload_n 0, 1, .null, 0, 0)),
  (7, (.getfield 28, 3, .ref 757, 7, 6)),
  (10, (.iload_n 1, 1, .null, 0, 0)),
  (11, (.iaload, 1, .null, 0, 0)),
  (12, (.ireturn, 1, .null, 0, 0)),
  (13, (.aload_n 0, 1, .null, 0, 0)),
  (14, (.getfield 102, 3, .ref 770, 7, 19)),
  (17, (.iconst 1, 1, .int 1, 0, 0)),
  (18, (.if_icmp .ne 8, 3, .null, 0, 26)),
  (21, (.bipush 64, 2, .int 64, 0, 0)),
  (23, (.goto 71, 3, .null, 0, 94)),
  (26, (.aload_n 0, 1, .null, 0, 0)),
  (27, (.getfield 102, 3, .ref 770, 7, 19)),
  (30, (.iconst 2, 1, .int 2, 0, 0)),
  (31, (.if_icmp .ne 8, 3, .null, 0, 39)),
  (34, (.bipush 33, 2, .int 33, 0, 0)),
  (36, (.goto 58, 3, .null, 0, 94)),
  (39, (.aload_n 0, 1, .null, 0, 0)),
  (40, (.getfield 102, 3, .ref 770, 7, 19)),
  (43, (.iconst 3, 1, .int 3, 0, 0)),
  (44, (.if_icmp .ne 8, 3, .null, 0, 52)),
  (47, (.bipush 35, 2, .int 35, 0, 0)),
  (49, (.goto 45, 3, .null, 0, 94)),
  (52, (.aload_n 0, 1, .null, 0, 0)),
  (53, (.getfield 102, 3, .ref 770, 7, 19)),
  (56, (.iconst 4, 1, .int 4, 0, 0)),
  (57, (.if_icmp .ne 8, 3, .null, 0, 65)),
  (60, (.bipush 39, 2, .int 39, 0, 0)),
  (62, (.goto 32, 3, .null, 0, 94)),
  (65, (.aload_n 0, 1, .null, 0, 0)),
  (66, (.getfield 102, 3, .ref 770, 7, 19)),
  (69, (.iconst 5, 1, .int 5, 0, 0)),
  (70, (.if_icmp .ne 8, 3, .null, 0, 78)),
  (73, (.bipush 7, 2, .int 7, 0, 0)),
  (75, (.goto 19, 3, .null, 0, 94)),
  (78, (.aload_n 0, 1, .null, 0, 0)),
  (79, (.getfield 102, 3, .ref 770, 7, 19)),
  (82, (.bipush 6, 2, .int 6, 0, 0)),
  (84, (.if_icmp .ne 8, 3, .null, 0, 92)),
  (87, (.bipush 15, 2, .int 15, 0, 0)),
  (89, (.goto 5, 3, .null, 0, 94)),
  (92, (.bipush 8, 2, .int 8, 0, 0)),
  (94, (.istore_n 2, 1, .null, 0, 0)),
  (95, (.aload_n 0, 1, .null, 0, 0)),
  (96, (.getfield 99, 3, .ref 769, 7, 18)),
  (99, (.iconst 5, 1, .int 5, 0, 0)),
  (100, (.if_icmp .ne 9, 3, .null, 0, 109)),
  (103, (.iinc 2 512, 6, .int 512, 0, 0)),
  (109, (.aload_n 0, 1, .null, 0, 0)),
  (110, (.getfield 102, 3, .ref 770, 7, 19)),
  (113, (.iconst 4, 1, .int 4, 0, 0)),
  (114, (.if_icmp .ne 41, 3, .null, 0, 155)),
  (117, (.aload_n 0, 1, .null, 0, 0)),
  (118, (.getfield 28, 3, .ref 757, 7, 6))]
set_option maxRecDepth 100000 in
theorem ckR_look_0 : ab_ckM mR_look kR_look_0 = true := by decide +kernel
def kR_look_1 : ab_Cd := [
  (121, (.bipush 18, 2, .int 18, 0, 0)),
  (123, (.iaload, 1, .null, 1, 0)),
  (124, (.iconst 1, 1, .int 1, 0, 0)),
  (125, (.if_icmp .ne 30, 3, .null, 0, 155)),
  (128, (.aload_n 0, 1, .null, 0, 0)),
  (129, (.getfield 28, 3, .ref 757, 7, 6)),
  (132, (.bipush 21, 2, .int 21, 0, 0)),
  (134, (.iaload, 1, .null, 1, 0)),
  (135, (.ifCond .ne 20, 3, .null, 0, 155)),
  (138, (.aload_n 0, 1, .null, 0, 0)),
  (139, (.getfield 105, 3, .ref 771, 7, 20)),
  (142, (.aload_n 0, 1, .null, 0, 0)),
  (143, (.invokevirtual 271, 3, .ref 921, 0, 0)),
  (146, (.if_icmp .ne 9, 3, .null, 0, 155)),
  (149, (.iinc 2 1024, 6, .int 1024, 0, 0)),
  (155, (.iload_n 2, 1, .null, 0, 0)),
  (156, (.ireturn, 1, .null, 0, 0))]
set_option maxRecDepth 100000 in
theorem ckR_look_1 : ab_ckM mR_look kR_look_1 = true := by decide +kernel
def kR_look : ab_Cd := kR_look_0 ++ (kR_look_1)
theorem ckR_look : ab_ckM mR_look kR_look = true := ab_ck_app ckR_look_0 (ckR_look_1)
set_option maxRecDepth 100000 in
theorem wR_look : ab_MW mR_look 1 1 := ab_mw_ok (i1 := 68) (i2 := 919) (i3 := 41) (by decide +kernel) (ab_t4 (List.mem_of_getElem? (i := 141) rfl))
abbrev mR_object : ab_Mt := (⟨"BusServoModel", "object", "(II)I"⟩, prog_12_method_47_code, 4, (some .int))
def kR_object : ab_Cd := [
  (0, (.iload_n 1, 1, .null, 0, 0)),
  (1, (.ifCond .lt 20, 3, .null, 0, 21)),
  (4, (.iload_n 1, 1, .null, 0, 0)),
  (5, (.ldc 66, 2, .int 65535, 0, 719)),
  (7, (.if_icmp .gt 14, 3, .null, 0, 21)),
  (10, (.iload_n 2, 1, .null, 0, 0)),
  (11, (.ifCond .lt 10, 3, .null, 0, 21)),
  (14, (.iload_n 2, 1, .null, 0, 0)),
  (15, (.sipush 255, 3, .int 255, 0, 0)),
  (18, (.if_icmp .le 5, 3, .null, 0, 23)),
  (21, (.iconst 0, 1, .int 0, 0, 0)),
  (22, (.ireturn, 1, .null, 0, 0)),
  (23, (.aload_n 0, 1, .null, 0, 0)),
  (24, (.iload_n 1, 1, .null, 0, 0)),
  (25, (.sipush 256, 3, .int 256, 0, 0)),
  (28, (.imul, 1, .null, 0, 0)),
  (29, (.iload_n 2, 1, .null, 0, 0)),
  (30, (.iadd, 1, .null, 0, 0)),
  (31, (.invokevirtual 173, 3, .ref 913, 0, 0)),
  (34, (.istore_n 3, 1, .null, 0, 0)),
  (35, (.iload_n 3, 1, .null, 0, 0)),
  (36, (.ifCond .lt 13, 3, .null, 0, 49)),
  (39, (.aload_n 0, 1, .null, 0, 0)),
  (40, (.getfield 16, 3, .ref 753, 7, 2)),
  (43, (.iload_n 3, 1, .null, 0, 0)),
  (44, (.iaload, 1, .null, 0, 0)),
  (45, (.iconst 1, 1, .int 1, 0, 0)),
  (46, (.if_icmp .ne 7, 3, .null, 0, 53)),
  (49, (.iconst 0, 1, .int 0, 0, 0)),
  (50, (.goto 8, 3, .null, 0, 58)),
  (53, (.aload_n 0, 1, .null, 0, 0)),
  (54, (.iload_n 3, 1, .null, 0, 0)),
  (55, (.invokevirtual 197, 3, .ref 917, 0, 0)),
  (58, (.ireturn, 1, .null, 0, 0))]
set_option maxRecDepth 100000 in
theorem ckR_object : ab_ckM mR_object kR_object = true := by decide +kernel
set_option maxRecDepth 100000 in
theorem wR_object : ab_MW mR_object 1 2 := ab_mw_ok (i1 := 68) (i2 := 1034) (i3 := 1035) (by decide +kernel) (ab_t5 (List.mem_of_getElem? (i := 17) rfl))
abbrev mR_network : ab_Mt := (⟨"BusServoModel", "network", "()I"⟩, prog_12_method_48_code, 1, (some .int))
def kR_network : ab_Cd := [
  (0, (.aload_n 0, 1, .null, 0, 0)),
  (1, (.getfield 99, 3, .ref 769, 7, 18)),
  (4, (.ireturn, 1, .null, 0, 0))]
set_option maxRecDepth 100000 in
theorem ckR_network : ab_ckM mR_network kR_network = true := by decide +kernel
set_option maxRecDepth 100000 in
theorem wR_network : ab_MW mR_network 1 0 := ab_mw_ok (i1 := 68) (i2 := 1038) (i3 := 1039) (by decide +kernel) (ab_t5 (List.mem_of_getElem? (i := 21) rfl))
abbrev mR_power : ab_Mt := (⟨"BusServoModel", "power", "()I"⟩, prog_12_method_49_code, 1, (some .int))
def kR_power : ab_Cd := [
  (0, (.aload_n 0, 1, .null, 0, 0)),
  (1, (.getfield 102, 3, .ref 770, 7, 19)),
  (4, (.ireturn, 1, .null, 0, 0))]
set_option maxRecDepth 100000 in
theorem ckR_power : ab_ckM mR_power kR_power = true := by decide +kernel
set_option maxRecDepth 100000 in
theorem wR_power : ab_MW mR_power 1 0 := ab_mw_ok (i1 := 68) (i2 := 1042) (i3 := 1043) (by decide +kernel) (ab_t5 (List.mem_of_getElem? (i := 25) rfl))
abbrev mR_speed : ab_Mt := (⟨"BusServoModel", "speed", "()I"⟩, prog_12_method_50_code, 1, (some .int))
def kR_speed : ab_Cd := [
  (0, (.aload_n 0, 1, .null, 0, 0)),
  (1, (.getfield 28, 3, .ref 757, 7, 6)),
  (4, (.bipush 21, 2, .int 21, 0, 0)),
  (6, (.iaload, 1, .null, 1, 0)),
  (7, (.ireturn, 1, .null, 0, 0))]
set_option maxRecDepth 100000 in
theorem ckR_speed : ab_ckM mR_speed kR_speed = true := by decide +kernel
set_option maxRecDepth 100000 in
theorem wR_speed : ab_MW mR_speed 1 0 := ab_mw_ok (i1 := 68) (i2 := 1046) (i3 := 1047) (by decide +kernel) (ab_t5 (List.mem_of_getElem? (i := 29) rfl))
abbrev mR_position : ab_Mt := (⟨"BusServoModel", "position", "()I"⟩, prog_12_method_51_code, 1, (some .int))
def kR_position : ab_Cd := [
  (0, (.aload_n 0, 1, .null, 0, 0)),
  (1, (.getfield 105, 3, .ref 771, 7, 20)),
  (4, (.ireturn, 1, .null, 0, 0))]
set_option maxRecDepth 100000 in
theorem ckR_position : ab_ckM mR_position kR_position = true := by decide +kernel
set_option maxRecDepth 100000 in
theorem wR_position : ab_MW mR_position 1 0 := ab_mw_ok (i1 := 68) (i2 := 1050) (i3 := 1051) (by decide +kernel) (ab_t5 (List.mem_of_getElem? (i := 33) rfl))
end
section
/-! methods and their code, by program -/
abbrev mR_init : ab_Mt := (⟨"BusServoModel", "<init>", "(I)V"⟩, prog_12_method_1_code, 3, none)
def kR_init_0 : ab_Cd := [
  (0, (.aload_n 0, 1, .null, 0, 0)),
  (1, (.invokespecial 1, 3, .ref 706, 0, 0)),
  (4, (.aload_n 0, 1, .null, 0, 0)),
  (5, (.bipush 30, 2, .int 30, 0, 0)),
  (7, (.newarray .int, 2, .null, 0, 0)),
  (9, (.putfield 7, 3, .ref 751, 7, 0)),
  (12, (.aload_n 0, 1, .null, 0, 0)),
  (13, (.bipush 30, 2, .int 30, 0, 0)),
  (15, (.newarray .int, 2, .null, 0, 0)),
  (17, (.putfield 13, 3, .ref 752, 7, 1)),
  (20, (.aload_n 0, 1, .null, 0, 0)),
  (21, (.bipush 30, 2, .int 30, 0, 0)),
  (23, (.newarray .int, 2, .null, 0, 0)),
  (25, (.putfield 16, 3, .ref 753, 7, 2)),
  (28, (.aload_n 0, 1, .null, 0, 0))]
set_option maxRecDepth 100000 in
theorem ckR_init_0 : ab_ckM mR_init kR_init_0 = true := by decide +kernel
def kR_init_1 : ab_Cd := [
  (29, (.bipush 30, 2, .int 30, 0, 0)),
  (31, (.newarray .int, 2, .null, 0, 0)),
  (33, (.putfield 19, 3, .ref 754, 7, 3)),
  (36, (.aload_n 0, 1, .null, 0, 0)),
  (37, (.bipush 30, 2, .int 30, 0, 0)),
  (39, (.newarray .int, 2, .null, 0, 0)),
  (41, (.putfield 22, 3, .ref 755, 7, 4)),
  (44, (.aload_n 0, 1, .null, 0, 0)),
  (45, (.bipush 30, 2, .int 30, 0, 0)),
  (47, (.newarray .int, 2, .null, 0, 0)),
  (49, (.putfield 25, 3, .ref 756, 7, 5)),
  (52, (.aload_n 0, 1, .null, 0, 0)),
  (53, (.bipush 30, 2, .int 30, 0, 0)),
  (55, (.newarray .int, 2, .null, 0, 0)),
  (57, (.putfield 28, 3, .ref 757, 7, 6))]
set_option maxRecDepth 100000 in
theorem ckR_init_1 : ab_ckM mR_init kR_init_1 = true := by decide +kernel
def kR_init_2 : ab_Cd := [
  (60, (.aload_n 0, 1, .null, 0, 0)),
  (61, (.bipush 12, 2, .int 12, 0, 0)),
  (63, (.newarray .int, 2, .null, 0, 0)),
  (65, (.putfield 31, 3, .ref 758, 7, 7)),
  (68, (.aload_n 0, 1, .null, 0, 0)),
  (69, (.bipush 12, 2, .int 12, 0, 0)),
  (71, (.newarray .int, 2, .null, 0, 0)),
  (73, (.putfield 34, 3, .ref 759, 7, 8)),
  (76, (.aload_n 0, 1, .null, 0, 0)),
  (77, (.bipush 12, 2, .int 12, 0, 0)),
  (79, (.newarray .long, 2, .null, 0, 0)),
  (81, (.putfield 37, 3, .ref 760, 7, 9)),
  (84, (.aload_n 0, 1, .null, 0, 0)),
  (85, (.bipush 44, 2, .int 44, 0, 0)),
  (87, (.newarray .int, 2, .null, 0, 0))]
set_option maxRecDepth 100000 in
theorem ckR_init_2 : ab_ckM mR_init kR_init_2 = true := by decide +kernel
def kR_init_3 : ab_Cd := [
  (89, (.putfield 41, 3, .ref 763, 7, 12)),
  (92, (.aload_n 0, 1, .null, 0, 0)),
  (93, (.bipush 22, 2, .int 22, 0, 0)),
  (95, (.newarray .int, 2, .null, 0, 0)),
  (97, (.putfield 44, 3, .ref 764, 7, 13)),
  (100, (.aload_n 0, 1, .null, 0, 0)),
  (101, (.sipush 1001, 3, .int 1001, 0, 0)),
  (104, (.newarray .int, 2, .null, 0, 0)),
  (106, (.putfield 47, 3, .ref 767, 7, 16)),
  (109, (.aload_n 0, 1, .null, 0, 0)),
  (110, (.iload_n 1, 1, .null, 0, 0)),
  (111, (.iconst 1, 1, .int 1, 0, 0)),
  (112, (.if_icmp .lt 13, 3, .null, 0, 125)),
  (115, (.iload_n 1, 1, .null, 0, 0)),
  (116, (.bipush 127, 2, .int 127, 0, 0))]
set_option maxRecDepth 100000 in
theorem ckR_init_3 : ab_ckM mR_init kR_init_3 = true := by decide +kernel
def kR_init_4 : ab_Cd := [
  (118, (.if_icmp .gt 7, 3, .null, 0, 125)),
  (121, (.iload_n 1, 1, .null, 0, 0)),
  (122, (.goto 4, 3, .null, 0, 126)),
  (125, (.iconst 1, 1, .int 1, 0, 0)),
  (126, (.putfield 50, 3, .ref 768, 7, 17)),
  (129, (.aload_n 0, 1, .null, 0, 0)),
  (130, (.iconst 0, 1, .int 0, 0, 0)),
  (131, (.ldc 54, 2, .int 1048832, 0, 707)),
  (133, (.iconst 1, 1, .int 1, 0, 0)),
  (134, (.iconst 0, 1, .int 0, 0, 0)),
  (135, (.iconst 0, 1, .int 0, 0, 0)),
  (136, (.ldc 55, 2, .int (-2147483648), 0, 708)),
  (138, (.ldc 56, 2, .int 2147483647, 0, 709)),
  (140, (.invokevirtual 57, 3, .ref 710, 0, 0)),
  (143, (.aload_n 0, 1, .null, 0, 0))]
set_option maxRecDepth 100000 in
theorem ckR_init_4 : ab_ckM mR_init kR_init_4 = true := by decide +kernel
def kR_init_5 : ab_Cd := [
  (144, (.iconst 1, 1, .int 1, 0, 0)),
  (145, (.ldc 61, 2, .int 1052673, 0, 714)),
  (147, (.iconst 4, 1, .int 4, 0, 0)),
  (148, (.iconst 1, 1, .int 1, 0, 0)),
  (149, (.iconst 0, 1, .int 0, 0, 0)),
  (150, (.ldc 55, 2, .int (-2147483648), 0, 708)),
  (152, (.ldc 56, 2, .int 2147483647, 0, 709)),
  (154, (.invokevirtual 57, 3, .ref 710, 0, 0)),
  (157, (.aload_n 0, 1, .null, 0, 0)),
  (158, (.iconst 2, 1, .int 2, 0, 0)),
  (159, (.ldc 62, 2, .int 1052929, 0, 715)),
  (161, (.iconst 4, 1, .int 4, 0, 0)),
  (162, (.iconst 1, 1, .int 1, 0, 0)),
  (163, (.iconst 0, 1, .int 0, 0, 0)),
  (164, (.ldc 55, 2, .int (-2147483648), 0, 708))]
set_option maxRecDepth 100000 in
theorem ckR_init_5 : ab_ckM mR_init kR_init_5 = true := by decide +kernel
def kR_init_6 : ab_Cd := [
  (166, (.ldc 56, 2, .int 2147483647, 0, 709)),
  (168, (.invokevirtual 57, 3, .ref 710, 0, 0)),
  (171, (.aload_n 0, 1, .null, 0, 0)),
  (172, (.iconst 3, 1, .int 3, 0, 0)),
  (173, (.ldc 63, 2, .int 1054209, 0, 716)),
  (175, (.iconst 4, 1, .int 4, 0, 0)),
  (176, (.bipush 10, 2, .int 10, 0, 0)),
  (178, (.iconst 0, 1, .int 0, 0, 0)),
  (179, (.iconst 0, 1, .int 0, 0, 0)),
  (180, (.ldc 64, 2, .int 8388607, 0, 717)),
  (182, (.invokevirtual 57, 3, .ref 710, 0, 0)),
  (185, (.aload_n 0, 1, .null, 0, 0)),
  (186, (.iconst 4, 1, .int 4, 0, 0)),
  (187, (.ldc 65, 2, .int 1054464, 0, 718)),
  (189, (.iconst 2, 1, .int 2, 0, 0))]
set_option maxRecDepth 100000 in
theorem ckR_init_6 : ab_ckM mR_init kR_init_6 = true := by decide +kernel
def kR_init_7 : ab_Cd := [
  (190, (.bipush 10, 2, .int 10, 0, 0)),
  (192, (.iconst 0, 1, .int 0, 0, 0)),
  (193, (.iconst 0, 1, .int 0, 0, 0)),
  (194, (.ldc 66, 2, .int 65535, 0, 719)),
  (196, (.invokevirtual 57, 3, .ref 710, 0, 0)),
  (199, (.aload_n 0, 1, .null, 0, 0)),
  (200, (.iconst 5, 1, .int 5, 0, 0)),
  (201, (.ldc 67, 2, .int 1441792, 0, 720)),
  (203, (.iconst 1, 1, .int 1, 0, 0)),
  (204, (.bipush 12, 2, .int 12, 0, 0)),
  (206, (.iconst 1, 1, .int 1, 0, 0)),
  (207, (.iconst 0, 1, .int 0, 0, 0)),
  (208, (.iconst 3, 1, .int 3, 0, 0)),
  (209, (.invokevirtual 57, 3, .ref 710, 0, 0)),
  (212, (.aload_n 0, 1, .null, 0, 0))]
set_option maxRecDepth 100000 in
theorem ckR_init_7 : ab_ckM mR_init kR_init_7 = true := by decide +kernel
def kR_init_8 : ab_Cd := [
  (213, (.bipush 12, 2, .int 12, 0, 0)),
  (215, (.ldc 68, 2, .int 1703936, 0, 721)),
  (217, (.iconst 1, 1, .int 1, 0, 0)),
  (218, (.bipush 12, 2, .int 12, 0, 0)),
  (220, (.iconst 1, 1, .int 1, 0, 0)),
  (221, (.iconst 0, 1, .int 0, 0, 0)),
  (222, (.iconst 3, 1, .int 3, 0, 0)),
  (223, (.invokevirtual 57, 3, .ref 710, 0, 0)),
  (226, (.iconst 1, 1, .int 1, 0, 0)),
  (227, (.istore_n 2, 1, .null, 0, 0)),
  (228, (.iload_n 2, 1, .null, 0, 0)),
  (229, (.iconst 3, 1, .int 3, 0, 0)),
  (230, (.if_icmp .gt 68, 3, .null, 0, 298)),
  (233, (.aload_n 0, 1, .null, 0, 0)),
  (234, (.iconst 5, 1, .int 5, 0, 0))]
set_option maxRecDepth 100000 in
theorem ckR_init_8 : ab_ckM mR_init kR_init_8 = true := by decide +kernel
def kR_init_9 : ab_Cd := [
  (235, (.iload_n 2, 1, .null, 0, 0)),
  (236, (.iadd, 1, .null, 0, 0)),
  (237, (.ldc 67, 2, .int 1441792, 0, 720)),
  (239, (.iload_n 2, 1, .null, 0, 0)),
  (240, (.iadd, 1, .null, 0, 0)),
  (241, (.iconst 4, 1, .int 4, 0, 0)),
  (242, (.bipush 12, 2, .int 12, 0, 0)),
  (244, (.iload_n 2, 1, .null, 0, 0)),
  (245, (.iconst 1, 1, .int 1, 0, 0)),
  (246, (.if_icmp .ne 8, 3, .null, 0, 254)),
  (249, (.ldc 69, 2, .int 1614807056, 0, 722)),
  (251, (.goto 4, 3, .null, 0, 255)),
  (254, (.iconst 0, 1, .int 0, 0, 0)),
  (255, (.ldc 55, 2, .int (-2147483648), 0, 708)),
  (257, (.ldc 56, 2, .int 2147483647, 0, 709))]
set_option maxRecDepth 100000 in
theorem ckR_init_9 : ab_ckM mR_init kR_init_9 = true := by decide +kernel
def kR_init_10 : ab_Cd := [
  (259, (.invokevirtual 57, 3, .ref 710, 0, 0)),
  (262, (.aload_n 0, 1, .null, 0, 0)),
  (263, (.bipush 12, 2, .int 12, 0, 0)),
  (265, (.iload_n 2, 1, .null, 0, 0)),
  (266, (.iadd, 1, .null, 0, 0)),
  (267, (.ldc 68, 2, .int 1703936, 0, 721)),
  (269, (.iload_n 2, 1, .null, 0, 0)),
  (270, (.iadd, 1, .null, 0, 0)),
  (271, (.iconst 4, 1, .int 4, 0, 0)),
  (272, (.bipush 12, 2, .int 12, 0, 0)),
  (274, (.iload_n 2, 1, .null, 0, 0)),
  (275, (.iconst 1, 1, .int 1, 0, 0)),
  (276, (.if_icmp .ne 8, 3, .null, 0, 284)),
  (279, (.ldc 70, 2, .int 1614872592, 0, 723)),
  (281, (.goto 4, 3, .null, 0, 285))]
set_option maxRecDepth 100000 in
theorem ckR_init_10 : ab_ckM mR_init kR_init_10 = true := by decide +kernel
def kR_init_11 : ab_Cd := [
  (284, (.iconst 0, 1, .int 0, 0, 0)),
  (285, (.ldc 55, 2, .int (-2147483648), 0, 708)),
  (287, (.ldc 56, 2, .int 2147483647, 0, 709)),
  (289, (.invokevirtual 57, 3, .ref 710, 0, 0)),
  (292, (.iinc 2 1, 3, .int 1, 0, 0)),
  (295, (.goto (-67), 3, .null, 0, 228)),
  (298, (.aload_n 0, 1, .null, 0, 0)),
  (299, (.bipush 9, 2, .int 9, 0, 0)),
  (301, (.ldc 71, 2, .int 1572866, 0, 724)),
  (303, (.iconst 1, 1, .int 1, 0, 0)),
  (304, (.bipush 10, 2, .int 10, 0, 0)),
  (306, (.sipush 255, 3, .int 255, 0, 0)),
  (309, (.iconst 0, 1, .int 0, 0, 0)),
  (310, (.sipush 255, 3, .int 255, 0, 0)),
  (313, (.invokevirtual 57, 3, .ref 710, 0, 0))]
set_option maxRecDepth 100000 in
theorem ckR_init_11 : ab_ckM mR_init kR_init_11 = true := by decide +kernel
def kR_init_12 : ab_Cd := [
  (316, (.aload_n 0, 1, .null, 0, 0)),
  (317, (.bipush 10, 2, .int 10, 0, 0)),
  (319, (.ldc 72, 2, .int 1572867, 0, 725)),
  (321, (.iconst 2, 1, .int 2, 0, 0)),
  (322, (.bipush 10, 2, .int 10, 0, 0)),
  (324, (.iconst 0, 1, .int 0, 0, 0)),
  (325, (.iconst 0, 1, .int 0, 0, 0)),
  (326, (.ldc 66, 2, .int 65535, 0, 719)),
  (328, (.invokevirtual 57, 3, .ref 710, 0, 0)),
  (331, (.aload_n 0, 1, .null, 0, 0)),
  (332, (.bipush 11, 2, .int 11, 0, 0)),
  (334, (.ldc 73, 2, .int 1572869, 0, 726)),
  (336, (.iconst 2, 1, .int 2, 0, 0)),
  (337, (.bipush 10, 2, .int 10, 0, 0)),
  (339, (.iconst 0, 1, .int 0, 0, 0))]
set_option maxRecDepth 100000 in
theorem ckR_init_12 : ab_ckM mR_init kR_init_12 = true := by decide +kernel
def kR_init_13 : ab_Cd := [
  (340, (.iconst 0, 1, .int 0, 0, 0)),
  (341, (.ldc 66, 2, .int 65535, 0, 719)),
  (343, (.invokevirtual 57, 3, .ref 710, 0, 0)),
  (346, (.aload_n 0, 1, .null, 0, 0)),
  (347, (.bipush 16, 2, .int 16, 0, 0)),
  (349, (.ldc 74, 2, .int 6307840, 0, 727)),
  (351, (.iconst 2, 1, .int 2, 0, 0)),
  (352, (.iconst 2, 1, .int 2, 0, 0)),
  (353, (.iconst 0, 1, .int 0, 0, 0)),
  (354, (.iconst 0, 1, .int 0, 0, 0)),
  (355, (.ldc 66, 2, .int 65535, 0, 719)),
  (357, (.invokevirtual 57, 3, .ref 710, 0, 0)),
  (360, (.aload_n 0, 1, .null, 0, 0)),
  (361, (.bipush 17, 2, .int 17, 0, 0)),
  (363, (.ldc 75, 2, .int 6308096, 0, 728))]
set_option maxRecDepth 100000 in
theorem ckR_init_13 : ab_ckM mR_init kR_init_13 = true := by decide +kernel
def kR_init_14 : ab_Cd := [
  (365, (.iconst 2, 1, .int 2, 0, 0)),
  (366, (.iconst 0, 1, .int 0, 0, 0)),
  (367, (.iconst 0, 1, .int 0, 0, 0)),
  (368, (.ldc 55, 2, .int (-2147483648), 0, 708)),
  (370, (.ldc 56, 2, .int 2147483647, 0, 709)),
  (372, (.invokevirtual 57, 3, .ref 710, 0, 0)),
  (375, (.aload_n 0, 1, .null, 0, 0)),
  (376, (.bipush 18, 2, .int 18, 0, 0)),
  (378, (.ldc 76, 2, .int 6316032, 0, 729)),
  (380, (.iconst 1, 1, .int 1, 0, 0)),
  (381, (.bipush 10, 2, .int 10, 0, 0)),
  (383, (.iconst 1, 1, .int 1, 0, 0)),
  (384, (.iconst 1, 1, .int 1, 0, 0)),
  (385, (.iconst 3, 1, .int 3, 0, 0)),
  (386, (.invokevirtual 57, 3, .ref 710, 0, 0))]
set_option maxRecDepth 100000 in
theorem ckR_init_14 : ab_ckM mR_init kR_init_14 = true := by decide +kernel
def kR_init_15 : ab_Cd := [
  (389, (.aload_n 0, 1, .null, 0, 0)),
  (390, (.bipush 19, 2, .int 19, 0, 0)),
  (392, (.ldc 77, 2, .int 6317056, 0, 730)),
  (394, (.iconst 4, 1, .int 4, 0, 0)),
  (395, (.iconst 0, 1, .int 0, 0, 0)),
  (396, (.iconst 0, 1, .int 0, 0, 0)),
  (397, (.ldc 55, 2, .int (-2147483648), 0, 708)),
  (399, (.ldc 56, 2, .int 2147483647, 0, 709)),
  (401, (.invokevirtual 57, 3, .ref 710, 0, 0)),
  (404, (.aload_n 0, 1, .null, 0, 0)),
  (405, (.bipush 20, 2, .int 20, 0, 0)),
  (407, (.ldc 78, 2, .int 6317312, 0, 731)),
  (409, (.iconst 4, 1, .int 4, 0, 0)),
  (410, (.bipush 11, 2, .int 11, 0, 0)),
  (412, (.ldc 79, 2, .int 100000, 0, 732))]
set_option maxRecDepth 100000 in
theorem ckR_init_15 : ab_ckM mR_init kR_init_15 = true := by decide +kernel
def kR_init_16 : ab_Cd := [
  (414, (.iconst 0, 1, .int 0, 0, 0)),
  (415, (.ldc 79, 2, .int 100000, 0, 732)),
  (417, (.invokevirtual 57, 3, .ref 710, 0, 0)),
  (420, (.aload_n 0, 1, .null, 0, 0)),
  (421, (.bipush 21, 2, .int 21, 0, 0)),
  (423, (.ldc 80, 2, .int 6318848, 0, 733)),
  (425, (.iconst 4, 1, .int 4, 0, 0)),
  (426, (.iconst 0, 1, .int 0, 0, 0)),
  (427, (.iconst 0, 1, .int 0, 0, 0)),
  (428, (.ldc 55, 2, .int (-2147483648), 0, 708)),
  (430, (.ldc 56, 2, .int 2147483647, 0, 709)),
  (432, (.invokevirtual 57, 3, .ref 710, 0, 0)),
  (435, (.aload_n 0, 1, .null, 0, 0)),
  (436, (.bipush 22, 2, .int 22, 0, 0)),
  (438, (.ldc 81, 2, .int 6322688, 0, 734))]
set_option maxRecDepth 100000 in
theorem ckR_init_16 : ab_ckM mR_init kR_init_16 = true := by decide +kernel
def kR_init_17 : ab_Cd := [
  (440, (.iconst 4, 1, .int 4, 0, 0)),
  (441, (.iconst 2, 1, .int 2, 0, 0)),
  (442, (.iconst 0, 1, .int 0, 0, 0)),
  (443, (.ldc 82, 2, .int (-100000), 0, 735)),
  (445, (.ldc 79, 2, .int 100000, 0, 732)),
  (447, (.invokevirtual 57, 3, .ref 710, 0, 0)),
  (450, (.aload_n 0, 1, .null, 0, 0)),
  (451, (.bipush 23, 2, .int 23, 0, 0)),
  (453, (.ldc 83, 2, .int 6323457, 0, 736)),
  (455, (.iconst 4, 1, .int 4, 0, 0)),
  (456, (.bipush 11, 2, .int 11, 0, 0)),
  (458, (.ldc 82, 2, .int (-100000), 0, 735)),
  (460, (.ldc 82, 2, .int (-100000), 0, 735)),
  (462, (.ldc 79, 2, .int 100000, 0, 732)),
  (464, (.invokevirtual 57, 3, .ref 710, 0, 0))]
set_option maxRecDepth 100000 in
theorem ckR_init_17 : ab_ckM mR_init kR_init_17 = true := by decide +kernel
def kR_init_18 : ab_Cd := [
  (467, (.aload_n 0, 1, .null, 0, 0)),
  (468, (.bipush 24, 2, .int 24, 0, 0)),
  (470, (.ldc 84, 2, .int 6323458, 0, 737)),
  (472, (.iconst 4, 1, .int 4, 0, 0)),
  (473, (.bipush 11, 2, .int 11, 0, 0)),
  (475, (.ldc 79, 2, .int 100000, 0, 732)),
  (477, (.ldc 82, 2, .int (-100000), 0, 735)),
  (479, (.ldc 79, 2, .int 100000, 0, 732)),
  (481, (.invokevirtual 57, 3, .ref 710, 0, 0)),
  (484, (.aload_n 0, 1, .null, 0, 0)),
  (485, (.bipush 25, 2, .int 25, 0, 0)),
  (487, (.ldc 85, 2, .int 6323968, 0, 738)),
  (489, (.iconst 4, 1, .int 4, 0, 0)),
  (490, (.bipush 11, 2, .int 11, 0, 0)),
  (492, (.sipush 1000, 3, .int 1000, 0, 0))]
set_option maxRecDepth 100000 in
theorem ckR_init_18 : ab_ckM mR_init kR_init_18 = true := by decide +kernel
def kR_init_19 : ab_Cd := [
  (495, (.iconst 1, 1, .int 1, 0, 0)),
  (496, (.sipush 1000, 3, .int 1000, 0, 0)),
  (499, (.invokevirtual 57, 3, .ref 710, 0, 0)),
  (502, (.aload_n 0, 1, .null, 0, 0)),
  (503, (.bipush 26, 2, .int 26, 0, 0)),
  (505, (.ldc 86, 2, .int 6324480, 0, 739)),
  (507, (.iconst 4, 1, .int 4, 0, 0)),
  (508, (.bipush 10, 2, .int 10, 0, 0)),
  (510, (.bipush 100, 2, .int 100, 0, 0)),
  (512, (.iconst 1, 1, .int 1, 0, 0)),
  (513, (.sipush 1000, 3, .int 1000, 0, 0)),
  (516, (.invokevirtual 57, 3, .ref 710, 0, 0)),
  (519, (.aload_n 0, 1, .null, 0, 0)),
  (520, (.bipush 27, 2, .int 27, 0, 0)),
  (522, (.ldc 87, 2, .int 6324992, 0, 740))]
set_option maxRecDepth 100000 in
theorem ckR_init_19 : ab_ckM mR_init kR_init_19 = true := by decide +kernel
def kR_init_20 : ab_Cd := [
  (524, (.iconst 4, 1, .int 4, 0, 0)),
  (525, (.bipush 11, 2, .int 11, 0, 0)),
  (527, (.bipush 10, 2, .int 10, 0, 0)),
  (529, (.iconst 1, 1, .int 1, 0, 0)),
  (530, (.sipush 1000, 3, .int 1000, 0, 0)),
  (533, (.invokevirtual 57, 3, .ref 710, 0, 0)),
  (536, (.aload_n 0, 1, .null, 0, 0)),
  (537, (.bipush 28, 2, .int 28, 0, 0)),
  (539, (.ldc 88, 2, .int 6325504, 0, 741)),
  (541, (.iconst 4, 1, .int 4, 0, 0)),
  (542, (.bipush 11, 2, .int 11, 0, 0)),
  (544, (.bipush 50, 2, .int 50, 0, 0)),
  (546, (.iconst 1, 1, .int 1, 0, 0)),
  (547, (.sipush 1000, 3, .int 1000, 0, 0)),
  (550, (.invokevirtual 57, 3, .ref 710, 0, 0))]
set_option maxRecDepth 100000 in
theorem ckR_init_20 : ab_ckM mR_init kR_init_20 = true := by decide +kernel
def kR_init_21 : ab_Cd := [
  (553, (.aload_n 0, 1, .null, 0, 0)),
  (554, (.bipush 29, 2, .int 29, 0, 0)),
  (556, (.ldc 89, 2, .int 6356736, 0, 742)),
  (558, (.iconst 4, 1, .int 4, 0, 0)),
  (559, (.iconst 2, 1, .int 2, 0, 0)),
  (560, (.iconst 0, 1, .int 0, 0, 0)),
  (561, (.sipush (-1000), 3, .int (-1000), 0, 0)),
  (564, (.sipush 1000, 3, .int 1000, 0, 0)),
  (567, (.invokevirtual 57, 3, .ref 710, 0, 0)),
  (570, (.aload_n 0, 1, .null, 0, 0)),
  (571, (.invokevirtual 90, 3, .ref 743, 0, 0)),
  (574, (.return_, 1, .null, 0, 0))]
set_option maxRecDepth 100000 in
theorem ckR_init_21 : ab_ckM mR_init kR_init_21 = true := by decide +kernel
def kR_init : ab_Cd := kR_init_0 ++ (kR_init_1 ++ (kR_init_2 ++ (kR_init_3 ++ (kR_init_4 ++ (kR_init_5 ++ (kR_init_6 ++ (kR_init_7 ++ (kR_init_8 ++ (kR_init_9 ++ (kR_init_10 ++ (kR_init_11 ++ (kR_init_12 ++ (kR_init_13 ++ (kR_init_14 ++ (kR_init_15 ++ (kR_init_16 ++ (kR_init_17 ++ (kR_init_18 ++ (kR_init_19 ++ (kR_init_20 ++ (kR_init_21)))))))))))))))))))))
theorem ckR_init : ab_ckM mR_init kR_init = true := ab_ck_app ckR_init_0 (ab_ck_app ckR_init_1 (ab_ck_app ckR_init_2 (ab_ck_app ckR_init_3 (ab_ck_app ckR_init_4 (ab_ck_app ckR_init_5 (ab_ck_app ckR_init_6 (ab_ck_app ckR_init_7 (ab_ck_app ckR_init_8 (ab_ck_app ckR_init_9 (ab_ck_app ckR_init_10 (ab_ck_app ckR_init_11 (ab_ck_app ckR_init_12 (ab_ck_app ckR_init_13 (ab_ck_app ckR_init_14 (ab_ck_app ckR_init_15 (ab_ck_app ckR_init_16 (ab_ck_app ckR_init_17 (ab_ck_app ckR_init_18 (ab_ck_app ckR_init_19 (ab_ck_app ckR_init_20 (ckR_init_21)))))))))))))))))))))
set_option maxRecDepth 100000 in
theorem wR_init : ab_MW mR_init 2 1 := ab_mw_ok (i1 := 68) (i2 := 704) (i3 := 0) (by decide +kernel) (ab_t3 (List.mem_of_getElem? (i := 166) rfl))
end
section
/-! methods and their code, by program -/
abbrev mL_cell : ab_Mt := (⟨"BusServoLaw", "cell", "([II)I"⟩, method_2_code, 2, (some .int))
def kL_cell : ab_Cd := [
  (0, (.iload_n 1, 1, .null, 0, 0)),
  (1, (.aload_n 0, 1, .null, 0, 0)),
  (2, (.arraylength, 1, .null, 0, 0)),
  (3, (.if_icmp .ge 9, 3, .null, 0, 12)),
  (6, (.aload_n 0, 1, .null, 0, 0)),
  (7, (.iload_n 1, 1, .null, 0, 0)),
  (8, (.iaload, 1, .null, 0, 0)),
  (9, (.goto 4, 3, .null, 0, 13)),
  (12, (.iconst 0, 1, .int 0, 0, 0)),
  (13, (.ireturn, 1, .null, 0, 0))]
set_option maxRecDepth 100000 in
theorem ckL_cell : ab_ckM mL_cell kL_cell = true := by decide +kernel
set_option maxRecDepth 100000 in
theorem wL_cell : ab_MW mL_cell 0 2 := ab_mw_ok (i1 := 59) (i2 := 699) (i3 := 0) (by decide +kernel) (ab_t3 (List.mem_of_getElem? (i := 161) rfl))
abbrev mL_law : ab_Mt := (⟨"BusServoLaw", "law", "([I)Z"⟩, code, 4, (some .boolean))
def kL_law_0 : ab_Cd := [
  (0, (.new 7, 3, .null, 0, 0)),
  (3, (.dup, 1, .null, 0, 0)),
  (4, (.aload_n 0, 1, .null, 0, 0)),
  (5, (.iconst 0, 1, .int 0, 0, 0)),
  (6, (.invokestatic 9, 3, .ref 698, 0, 0)),
  (9, (.invokespecial 15, 3, .ref 74, 0, 0)),
  (12, (.astore_n 1, 1, .null, 0, 0)),
  (13, (.new 18, 3, .null, 7, 0)),
  (16, (.dup, 1, .null, 0, 0)),
  (17, (.aload_n 0, 1, .null, 0, 0)),
  (18, (.iconst 0, 1, .int 0, 0, 0)),
  (19, (.invokestatic 9, 3, .ref 698, 0, 0)),
  (22, (.invokespecial 20, 3, .ref 703, 0, 0)),
  (25, (.astore_n 2, 1, .null, 0, 0)),
  (26, (.iconst 1, 1, .int 1, 0, 0)),
  (27, (.istore_n 3, 1, .null, 0, 0)),
  (28, (.iload_n 3, 1, .null, 0, 0)),
  (29, (.aload_n 0, 1, .null, 0, 0))]
set_option maxRecDepth 100000 in
theorem ckL_law_0 : ab_ckM mL_law kL_law_0 = true := by decide +kernel
def kL_law_1 : ab_Cd := [
  (30, (.arraylength, 1, .null, 0, 0)),
  (31, (.iconst 5, 1, .int 5, 0, 0)),
  (32, (.isub, 1, .null, 0, 0)),
  (33, (.if_icmp .gt 461, 3, .null, 0, 494)),
  (36, (.aload_n 0, 1, .null, 0, 0)),
  (37, (.iload_n 3, 1, .null, 0, 0)),
  (38, (.iaload, 1, .null, 0, 0)),
  (39, (.bipush 31, 2, .int 31, 0, 0)),
  (41, (.iand, 1, .null, 0, 0)),
  (42, (.tableswitch 446 0 16 #[82, 155, 178, 201, 238, 249, 262, 275, 289, 302, 315, 328, 361, 374, 387, 400, 413], 82, .null, 0, 0)),
  (124, (.aload_n 1, 1, .null, 0, 0)),
  (125, (.aload_n 0, 1, .null, 0, 0)),
  (126, (.iload_n 3, 1, .null, 0, 0)),
  (127, (.iconst 1, 1, .int 1, 0, 0)),
  (128, (.iadd, 1, .null, 0, 0)),
  (129, (.iaload, 1, .null, 0, 0)),
  (130, (.aload_n 0, 1, .null, 0, 0)),
  (131, (.iload_n 3, 1, .null, 0, 0))]
set_option maxRecDepth 100000 in
theorem ckL_law_1 : ab_ckM mL_law kL_law_1 = true := by decide +kernel
def kL_law_2 : ab_Cd := [
  (132, (.iconst 2, 1, .int 2, 0, 0)),
  (133, (.iadd, 1, .null, 0, 0)),
  (134, (.iaload, 1, .null, 0, 0)),
  (135, (.aload_n 0, 1, .null, 0, 0)),
  (136, (.iload_n 3, 1, .null, 0, 0)),
  (137, (.iconst 3, 1, .int 3, 0, 0)),
  (138, (.iadd, 1, .null, 0, 0)),
  (139, (.iaload, 1, .null, 0, 0)),
  (140, (.i2l, 1, .null, 0, 0)),
  (141, (.bipush 32, 2, .int 32, 0, 0)),
  (143, (.lshl, 1, .null, 0, 0)),
  (144, (.aload_n 0, 1, .null, 0, 0)),
  (145, (.iload_n 3, 1, .null, 0, 0)),
  (146, (.iconst 4, 1, .int 4, 0, 0)),
  (147, (.iadd, 1, .null, 0, 0)),
  (148, (.iaload, 1, .null, 0, 0)),
  (149, (.i2l, 1, .null, 0, 0)),
  (150, (.ldc2_w 21, 3, .long 4294967295, 0, 1053))]
set_option maxRecDepth 100000 in
theorem ckL_law_2 : ab_ckM mL_law kL_law_2 = true := by decide +kernel
def kL_law_3 : ab_Cd := [
  (153, (.land, 1, .null, 0, 0)),
  (154, (.lor, 1, .null, 0, 0)),
  (155, (.invokevirtual 23, 3, .ref 270, 0, 0)),
  (158, (.aload_n 2, 1, .null, 0, 0)),
  (159, (.aload_n 0, 1, .null, 0, 0)),
  (160, (.iload_n 3, 1, .null, 0, 0)),
  (161, (.iconst 1, 1, .int 1, 0, 0)),
  (162, (.iadd, 1, .null, 0, 0)),
  (163, (.iaload, 1, .null, 0, 0)),
  (164, (.aload_n 0, 1, .null, 0, 0)),
  (165, (.iload_n 3, 1, .null, 0, 0)),
  (166, (.iconst 2, 1, .int 2, 0, 0)),
  (167, (.iadd, 1, .null, 0, 0)),
  (168, (.iaload, 1, .null, 0, 0)),
  (169, (.aload_n 0, 1, .null, 0, 0)),
  (170, (.iload_n 3, 1, .null, 0, 0)),
  (171, (.iconst 3, 1, .int 3, 0, 0)),
  (172, (.iadd, 1, .null, 0, 0))]
set_option maxRecDepth 100000 in
theorem ckL_law_3 : ab_ckM mL_law kL_law_3 = true := by decide +kernel
def kL_law_4 : ab_Cd := [
  (173, (.iaload, 1, .null, 0, 0)),
  (174, (.i2l, 1, .null, 0, 0)),
  (175, (.bipush 32, 2, .int 32, 0, 0)),
  (177, (.lshl, 1, .null, 0, 0)),
  (178, (.aload_n 0, 1, .null, 0, 0)),
  (179, (.iload_n 3, 1, .null, 0, 0)),
  (180, (.iconst 4, 1, .int 4, 0, 0)),
  (181, (.iadd, 1, .null, 0, 0)),
  (182, (.iaload, 1, .null, 0, 0)),
  (183, (.i2l, 1, .null, 0, 0)),
  (184, (.ldc2_w 21, 3, .long 4294967295, 0, 1053)),
  (187, (.land, 1, .null, 0, 0)),
  (188, (.lor, 1, .null, 0, 0)),
  (189, (.invokevirtual 27, 3, .ref 892, 0, 0)),
  (192, (.if_icmp .eq 296, 3, .null, 0, 488)),
  (195, (.iconst 0, 1, .int 0, 0, 0)),
  (196, (.ireturn, 1, .null, 0, 0)),
  (197, (.aload_n 1, 1, .null, 0, 0))]
set_option maxRecDepth 100000 in
theorem ckL_law_4 : ab_ckM mL_law kL_law_4 = true := by decide +kernel
def kL_law_5 : ab_Cd := [
  (198, (.aload_n 0, 1, .null, 0, 0)),
  (199, (.iload_n 3, 1, .null, 0, 0)),
  (200, (.iconst 1, 1, .int 1, 0, 0)),
  (201, (.iadd, 1, .null, 0, 0)),
  (202, (.iaload, 1, .null, 0, 0)),
  (203, (.invokevirtual 28, 3, .ref 484, 0, 0)),
  (206, (.aload_n 2, 1, .null, 0, 0)),
  (207, (.aload_n 0, 1, .null, 0, 0)),
  (208, (.iload_n 3, 1, .null, 0, 0)),
  (209, (.iconst 1, 1, .int 1, 0, 0)),
  (210, (.iadd, 1, .null, 0, 0)),
  (211, (.iaload, 1, .null, 0, 0)),
  (212, (.invokevirtual 32, 3, .ref 988, 0, 0)),
  (215, (.if_icmp .eq 273, 3, .null, 0, 488)),
  (218, (.iconst 0, 1, .int 0, 0, 0)),
  (219, (.ireturn, 1, .null, 0, 0)),
  (220, (.aload_n 1, 1, .null, 0, 0)),
  (221, (.aload_n 0, 1, .null, 0, 0))]
set_option maxRecDepth 100000 in
theorem ckL_law_5 : ab_ckM mL_law kL_law_5 = true := by decide +kernel
def kL_law_6 : ab_Cd := [
  (222, (.iload_n 3, 1, .null, 0, 0)),
  (223, (.iconst 1, 1, .int 1, 0, 0)),
  (224, (.iadd, 1, .null, 0, 0)),
  (225, (.iaload, 1, .null, 0, 0)),
  (226, (.invokevirtual 33, 3, .ref 605, 0, 0)),
  (229, (.aload_n 2, 1, .null, 0, 0)),
  (230, (.aload_n 0, 1, .null, 0, 0)),
  (231, (.iload_n 3, 1, .null, 0, 0)),
  (232, (.iconst 1, 1, .int 1, 0, 0)),
  (233, (.iadd, 1, .null, 0, 0)),
  (234, (.iaload, 1, .null, 0, 0)),
  (235, (.invokevirtual 37, 3, .ref 1029, 0, 0)),
  (238, (.if_icmp .eq 250, 3, .null, 0, 488)),
  (241, (.iconst 0, 1, .int 0, 0, 0)),
  (242, (.ireturn, 1, .null, 0, 0)),
  (243, (.aload_n 1, 1, .null, 0, 0)),
  (244, (.aload_n 0, 1, .null, 0, 0)),
  (245, (.iload_n 3, 1, .null, 0, 0))]
set_option maxRecDepth 100000 in
theorem ckL_law_6 : ab_ckM mL_law kL_law_6 = true := by decide +kernel
def kL_law_7 : ab_Cd := [
  (246, (.iconst 1, 1, .int 1, 0, 0)),
  (247, (.iadd, 1, .null, 0, 0)),
  (248, (.iaload, 1, .null, 0, 0)),
  (249, (.ifCond .eq 7, 3, .null, 0, 256)),
  (252, (.iconst 1, 1, .int 1, 0, 0)),
  (253, (.goto 4, 3, .null, 0, 257)),
  (256, (.iconst 0, 1, .int 0, 0, 0)),
  (257, (.invokevirtual 38, 3, .ref 609, 0, 0)),
  (260, (.aload_n 2, 1, .null, 0, 0)),
  (261, (.aload_n 0, 1, .null, 0, 0)),
  (262, (.iload_n 3, 1, .null, 0, 0)),
  (263, (.iconst 1, 1, .int 1, 0, 0)),
  (264, (.iadd, 1, .null, 0, 0)),
  (265, (.iaload, 1, .null, 0, 0)),
  (266, (.ifCond .eq 7, 3, .null, 0, 273)),
  (269, (.iconst 1, 1, .int 1, 0, 0)),
  (270, (.goto 4, 3, .null, 0, 274)),
  (273, (.iconst 0, 1, .int 0, 0, 0))]
set_option maxRecDepth 100000 in
theorem ckL_law_7 : ab_ckM mL_law kL_law_7 = true := by decide +kernel
def kL_law_8 : ab_Cd := [
  (274, (.invokevirtual 42, 3, .ref 878, 0, 0)),
  (277, (.goto 211, 3, .null, 0, 488)),
  (280, (.aload_n 1, 1, .null, 0, 0)),
  (281, (.invokevirtual 43, 3, .ref 614, 0, 0)),
  (284, (.aload_n 2, 1, .null, 0, 0)),
  (285, (.invokevirtual 46, 3, .ref 845, 0, 0)),
  (288, (.goto 200, 3, .null, 0, 488)),
  (291, (.aload_n 1, 1, .null, 0, 0)),
  (292, (.invokevirtual 47, 3, .ref 618, 0, 0)),
  (295, (.aload_n 2, 1, .null, 0, 0)),
  (296, (.invokevirtual 51, 3, .ref 850, 0, 0)),
  (299, (.if_icmp .eq 189, 3, .null, 0, 488)),
  (302, (.iconst 0, 1, .int 0, 0, 0)),
  (303, (.ireturn, 1, .null, 0, 0)),
  (304, (.aload_n 1, 1, .null, 0, 0)),
  (305, (.invokevirtual 52, 3, .ref 626, 0, 0)),
  (308, (.aload_n 2, 1, .null, 0, 0)),
  (309, (.invokevirtual 55, 3, .ref 858, 0, 0))]
set_option maxRecDepth 100000 in
theorem ckL_law_8 : ab_ckM mL_law kL_law_8 = true := by decide +kernel
def kL_law_9 : ab_Cd := [
  (312, (.if_icmp .eq 176, 3, .null, 0, 488)),
  (315, (.iconst 0, 1, .int 0, 0, 0)),
  (316, (.ireturn, 1, .null, 0, 0)),
  (317, (.aload_n 1, 1, .null, 0, 0)),
  (318, (.invokevirtual 56, 3, .ref 634, 0, 0)),
  (321, (.aload_n 2, 1, .null, 0, 0)),
  (322, (.invokevirtual 60, 3, .ref 862, 0, 0)),
  (325, (.lcmp, 1, .null, 0, 0)),
  (326, (.ifCond .eq 162, 3, .null, 0, 488)),
  (329, (.iconst 0, 1, .int 0, 0, 0)),
  (330, (.ireturn, 1, .null, 0, 0)),
  (331, (.aload_n 1, 1, .null, 0, 0)),
  (332, (.invokevirtual 61, 3, .ref 642, 0, 0)),
  (335, (.aload_n 2, 1, .null, 0, 0)),
  (336, (.invokevirtual 65, 3, .ref 866, 0, 0)),
  (339, (.if_icmp .eq 149, 3, .null, 0, 488)),
  (342, (.iconst 0, 1, .int 0, 0, 0)),
  (343, (.ireturn, 1, .null, 0, 0))]
set_option maxRecDepth 100000 in
theorem ckL_law_9 : ab_ckM mL_law kL_law_9 = true := by decide +kernel
def kL_law_10 : ab_Cd := [
  (344, (.aload_n 1, 1, .null, 0, 0)),
  (345, (.invokevirtual 66, 3, .ref 650, 0, 0)),
  (348, (.aload_n 2, 1, .null, 0, 0)),
  (349, (.invokevirtual 69, 3, .ref 870, 0, 0)),
  (352, (.if_icmp .eq 136, 3, .null, 0, 488)),
  (355, (.iconst 0, 1, .int 0, 0, 0)),
  (356, (.ireturn, 1, .null, 0, 0)),
  (357, (.aload_n 1, 1, .null, 0, 0)),
  (358, (.invokevirtual 70, 3, .ref 658, 0, 0)),
  (361, (.aload_n 2, 1, .null, 0, 0)),
  (362, (.invokevirtual 73, 3, .ref 874, 0, 0)),
  (365, (.if_icmp .eq 123, 3, .null, 0, 488)),
  (368, (.iconst 0, 1, .int 0, 0, 0)),
  (369, (.ireturn, 1, .null, 0, 0)),
  (370, (.aload_n 1, 1, .null, 0, 0)),
  (371, (.aload_n 0, 1, .null, 0, 0)),
  (372, (.iload_n 3, 1, .null, 0, 0)),
  (373, (.iconst 1, 1, .int 1, 0, 0))]
set_option maxRecDepth 100000 in
theorem ckL_law_10 : ab_ckM mL_law kL_law_10 = true := by decide +kernel
def kL_law_11 : ab_Cd := [
  (374, (.iadd, 1, .null, 0, 0)),
  (375, (.iaload, 1, .null, 0, 0)),
  (376, (.aload_n 0, 1, .null, 0, 0)),
  (377, (.iload_n 3, 1, .null, 0, 0)),
  (378, (.iconst 2, 1, .int 2, 0, 0)),
  (379, (.iadd, 1, .null, 0, 0)),
  (380, (.iaload, 1, .null, 0, 0)),
  (381, (.invokevirtual 74, 3, .ref 666, 0, 0)),
  (384, (.aload_n 2, 1, .null, 0, 0)),
  (385, (.aload_n 0, 1, .null, 0, 0)),
  (386, (.iload_n 3, 1, .null, 0, 0)),
  (387, (.iconst 1, 1, .int 1, 0, 0)),
  (388, (.iadd, 1, .null, 0, 0)),
  (389, (.iaload, 1, .null, 0, 0)),
  (390, (.aload_n 0, 1, .null, 0, 0)),
  (391, (.iload_n 3, 1, .null, 0, 0)),
  (392, (.iconst 2, 1, .int 2, 0, 0)),
  (393, (.iadd, 1, .null, 0, 0))]
set_option maxRecDepth 100000 in
theorem ckL_law_11 : ab_ckM mL_law kL_law_11 = true := by decide +kernel
def kL_law_12 : ab_Cd := [
  (394, (.iaload, 1, .null, 0, 0)),
  (395, (.invokevirtual 78, 3, .ref 1033, 0, 0)),
  (398, (.if_icmp .eq 90, 3, .null, 0, 488)),
  (401, (.iconst 0, 1, .int 0, 0, 0)),
  (402, (.ireturn, 1, .null, 0, 0)),
  (403, (.aload_n 1, 1, .null, 0, 0)),
  (404, (.invokevirtual 79, 3, .ref 670, 0, 0)),
  (407, (.aload_n 2, 1, .null, 0, 0)),
  (408, (.invokevirtual 82, 3, .ref 1037, 0, 0)),
  (411, (.if_icmp .eq 77, 3, .null, 0, 488)),
  (414, (.iconst 0, 1, .int 0, 0, 0)),
  (415, (.ireturn, 1, .null, 0, 0)),
  (416, (.aload_n 1, 1, .null, 0, 0)),
  (417, (.invokevirtual 83, 3, .ref 674, 0, 0)),
  (420, (.aload_n 2, 1, .null, 0, 0)),
  (421, (.invokevirtual 86, 3, .ref 1041, 0, 0)),
  (424, (.if_icmp .eq 64, 3, .null, 0, 488)),
  (427, (.iconst 0, 1, .int 0, 0, 0))]
set_option maxRecDepth 100000 in
theorem ckL_law_12 : ab_ckM mL_law kL_law_12 = true := by decide +kernel
def kL_law_13 : ab_Cd := [
  (428, (.ireturn, 1, .null, 0, 0)),
  (429, (.aload_n 1, 1, .null, 0, 0)),
  (430, (.invokevirtual 87, 3, .ref 682, 0, 0)),
  (433, (.aload_n 2, 1, .null, 0, 0)),
  (434, (.invokevirtual 90, 3, .ref 1045, 0, 0)),
  (437, (.if_icmp .eq 51, 3, .null, 0, 488)),
  (440, (.iconst 0, 1, .int 0, 0, 0)),
  (441, (.ireturn, 1, .null, 0, 0)),
  (442, (.aload_n 1, 1, .null, 0, 0)),
  (443, (.invokevirtual 91, 3, .ref 686, 0, 0)),
  (446, (.aload_n 2, 1, .null, 0, 0)),
  (447, (.invokevirtual 94, 3, .ref 1049, 0, 0)),
  (450, (.if_icmp .eq 38, 3, .null, 0, 488)),
  (453, (.iconst 0, 1, .int 0, 0, 0)),
  (454, (.ireturn, 1, .null, 0, 0)),
  (455, (.aload_n 1, 1, .null, 0, 0)),
  (456, (.aload_n 0, 1, .null, 0, 0)),
  (457, (.iload_n 3, 1, .null, 0, 0))]
set_option maxRecDepth 100000 in
theorem ckL_law_13 : ab_ckM mL_law kL_law_13 = true := by decide +kernel
def kL_law_14 : ab_Cd := [
  (458, (.iconst 1, 1, .int 1, 0, 0)),
  (459, (.iadd, 1, .null, 0, 0)),
  (460, (.iaload, 1, .null, 0, 0)),
  (461, (.aload_n 0, 1, .null, 0, 0)),
  (462, (.iload_n 3, 1, .null, 0, 0)),
  (463, (.iconst 2, 1, .int 2, 0, 0)),
  (464, (.iadd, 1, .null, 0, 0)),
  (465, (.iaload, 1, .null, 0, 0)),
  (466, (.invokevirtual 95, 3, .ref 690, 0, 0)),
  (469, (.aload_n 2, 1, .null, 0, 0)),
  (470, (.aload_n 0, 1, .null, 0, 0)),
  (471, (.iload_n 3, 1, .null, 0, 0)),
  (472, (.iconst 1, 1, .int 1, 0, 0)),
  (473, (.iadd, 1, .null, 0, 0)),
  (474, (.iaload, 1, .null, 0, 0)),
  (475, (.aload_n 0, 1, .null, 0, 0)),
  (476, (.iload_n 3, 1, .null, 0, 0)),
  (477, (.iconst 2, 1, .int 2, 0, 0))]
set_option maxRecDepth 100000 in
theorem ckL_law_14 : ab_ckM mL_law kL_law_14 = true := by decide +kernel
def kL_law_15 : ab_Cd := [
  (478, (.iadd, 1, .null, 0, 0)),
  (479, (.iaload, 1, .null, 0, 0)),
  (480, (.invokevirtual 98, 3, .ref 846, 0, 0)),
  (483, (.if_icmp .eq 5, 3, .null, 0, 488)),
  (486, (.iconst 0, 1, .int 0, 0, 0)),
  (487, (.ireturn, 1, .null, 0, 0)),
  (488, (.iinc 3 5, 3, .int 5, 0, 0)),
  (491, (.goto (-463), 3, .null, 0, 28)),
  (494, (.iconst 1, 1, .int 1, 0, 0)),
  (495, (.ireturn, 1, .null, 0, 0))]
set_option maxRecDepth 100000 in
theorem ckL_law_15 : ab_ckM mL_law kL_law_15 = true := by decide +kernel
def kL_law : ab_Cd := kL_law_0 ++ (kL_law_1 ++ (kL_law_2 ++ (kL_law_3 ++ (kL_law_4 ++ (kL_law_5 ++ (kL_law_6 ++ (kL_law_7 ++ (kL_law_8 ++ (kL_law_9 ++ (kL_law_10 ++ (kL_law_11 ++ (kL_law_12 ++ (kL_law_13 ++ (kL_law_14 ++ (kL_law_15)))))))))))))))
theorem ckL_law : ab_ckM mL_law kL_law = true := ab_ck_app ckL_law_0 (ab_ck_app ckL_law_1 (ab_ck_app ckL_law_2 (ab_ck_app ckL_law_3 (ab_ck_app ckL_law_4 (ab_ck_app ckL_law_5 (ab_ck_app ckL_law_6 (ab_ck_app ckL_law_7 (ab_ck_app ckL_law_8 (ab_ck_app ckL_law_9 (ab_ck_app ckL_law_10 (ab_ck_app ckL_law_11 (ab_ck_app ckL_law_12 (ab_ck_app ckL_law_13 (ab_ck_app ckL_law_14 (ckL_law_15)))))))))))))))
end
section
/-! Switches and Math over the abstract state -/
section ABS
variable {X : ab_C} {M : ab_Mt} {code : ab_Cd} {d bc bs pc : Nat} {lo : ab_Lo} {st : List Value} {h : ab_H} {Q : Option Value → ab_H → Prop} {len ci kf idx : Nat} {cv : Value}
theorem ab_tswI {x v : Int32} {dflt a b off : Int} {offs : Array Int} {tgt : Nat} (hck : ab_ckM M code = true) (hf : ab_fetch code pc = some (.tableswitch dflt a b offs, len, cv, ci, kf)) (hv : x = v) (h1 : ¬ v.toInt < a) (h2 : ¬ b < v.toInt) (ho : offs[(v.toInt - a).toNat]? = some off) (ht : (pc : Int) + off = (tgt : Int)) (k : ab_W X M d bc bs tgt lo st h Q) : ab_W X M d bc bs pc lo (.int x :: st) h Q := by
  subst hv
  obtain ⟨hd, -⟩ := ab_ck_at hck hf
  intro p e R s m args below meth c H locs cells slots ls F V
  exact lv_tableIn F.1 F.2.1 hd h1 h2 ho ht (k p e R s m args below meth c H locs cells slots ls F V)
theorem ab_tswO {x : Int32} {dflt a b : Int} {offs : Array Int} {tgt : Nat} (hck : ab_ckM M code = true) (hf : ab_fetch code pc = some (.tableswitch dflt a b offs, len, cv, ci, kf)) (h1 : x.toInt < a ∨ b < x.toInt) (ht : (pc : Int) + dflt = (tgt : Int)) (k : ab_W X M d bc bs tgt lo st h Q) : ab_W X M d bc bs pc lo (.int x :: st) h Q := by
  obtain ⟨hd, -⟩ := ab_ck_at hck hf
  intro p e R s m args below meth c H locs cells slots ls F V
  exact lv_tableOut F.1 F.2.1 hd h1 ht (k p e R s m args below meth c H locs cells slots ls F V)
theorem ab_lsw {x : Int32} {dflt off : Int} {ps : Array (Int × Int)} {tgt : Nat} (hck : ab_ckM M code = true) (hf : ab_fetch code pc = some (.lookupswitch dflt ps, len, cv, ci, kf)) (hp : (ps.toList.zip (ps.toList.drop 1)).all (fun (a, next) => a.1 < next.1) = true) (ho : Op.lookupswitch.offset ps.toList dflt x.toInt = off) (ht : (pc : Int) + off = (tgt : Int)) (k : ab_W X M d bc bs tgt lo st h Q) : ab_W X M d bc bs pc lo (.int x :: st) h Q := by
  obtain ⟨hd, -⟩ := ab_ck_at hck hf
  intro p e R s m args below meth c H locs cells slots ls F V
  exact lv_lookup F.1 F.2.1 hd hp ho ht (k p e R s m args below meth c H locs cells slots ls F V)
theorem ab_mathW : Cond.static Lib.Math.max.name ∈ lw_tbl ∧ Cond.static Lib.Math.min.name ∈ lw_tbl ∧ Cond.static Lib.Math.abs.name ∈ lw_tbl ∧ Cond.initialized "java/lang/Math" ∈ lw_tbl := by decide +kernel
theorem ab_mathC : Cond.code Lib.Math.max.name Lib.Math.max.code 2 (some .int) ∈ lw_tbl ∧ Cond.code Lib.Math.min.name Lib.Math.min.code 2 (some .int) ∈ lw_tbl ∧ Cond.code Lib.Math.abs.name Lib.Math.abs.code 1 (some .int) ∈ lw_tbl := by decide +kernel
theorem ab_mmax {x y : Int32} (hck : ab_ckM M code = true) (hf : ab_fetch code pc = some (.invokestatic idx, len, cv, ci, kf)) (hw : ab_wd (ab_ti cv) (Cond.methodLink M.1.cls idx Lib.Math.max.name) = true) (hd1 : 1 ≤ d) (hrest : (st.map fun v => v.category).sum ≤ 8) (k : ab_W X M d bc bs (pc + 3) lo (.int (if x < y then y else x) :: st) h Q) : ab_W X M d bc bs pc lo (.int y :: .int x :: st) h Q := by
  obtain ⟨hdc, hc⟩ := ab_ck_at hck hf
  obtain rfl : len = 3 := eq_of_beq (show (len == 3) = true from hc)
  intro p e R s m args below meth c H locs cells slots ls F V
  have hkk := k p e R s m args below meth c H locs cells slots ls F V
  obtain ⟨hx, hb, hr, hml, hown, hts, hlk, hnm, hok, hfr, hlo⟩ := F
  obtain ⟨v1, v2, hS, hRel, hLR⟩ := V
  have hsz : ls.size = M.2.2.1 := by obtain ⟨-, lv, g, -⟩ := hLR; exact g.1
  have hcs := ab_cat_sum X st
  exact va_mmax hx hb (hml.trans hsz.symm) hown (hts _ (ab_in (ab_wd_in hw) rfl)) (hts _ (ab_in ab_mathW.1 rfl)) (hts _ (ab_in ab_mathW.2.2.2 rfl)) (hts _ (ab_in ab_mathC.1 rfl)) (by omega) (by omega) (by omega) (by omega) hdc hkk
theorem ab_mmin {x y : Int32} (hck : ab_ckM M code = true) (hf : ab_fetch code pc = some (.invokestatic idx, len, cv, ci, kf)) (hw : ab_wd (ab_ti cv) (Cond.methodLink M.1.cls idx Lib.Math.min.name) = true) (hd1 : 1 ≤ d) (hrest : (st.map fun v => v.category).sum ≤ 8) (k : ab_W X M d bc bs (pc + 3) lo (.int (if y < x then y else x) :: st) h Q) : ab_W X M d bc bs pc lo (.int y :: .int x :: st) h Q := by
  obtain ⟨hdc, hc⟩ := ab_ck_at hck hf
  obtain rfl : len = 3 := eq_of_beq (show (len == 3) = true from hc)
  intro p e R s m args below meth c H locs cells slots ls F V
  have hkk := k p e R s m args below meth c H locs cells slots ls F V
  obtain ⟨hx, hb, hr, hml, hown, hts, hlk, hnm, hok, hfr, hlo⟩ := F
  obtain ⟨v1, v2, hS, hRel, hLR⟩ := V
  have hsz : ls.size = M.2.2.1 := by obtain ⟨-, lv, g, -⟩ := hLR; exact g.1
  have hcs := ab_cat_sum X st
  exact va_mmin hx hb (hml.trans hsz.symm) hown (hts _ (ab_in (ab_wd_in hw) rfl)) (hts _ (ab_in ab_mathW.2.1 rfl)) (hts _ (ab_in ab_mathW.2.2.2 rfl)) (hts _ (ab_in ab_mathC.2.1 rfl)) (by omega) (by omega) (by omega) (by omega) hdc hkk
theorem ab_mabs {x : Int32} (hck : ab_ckM M code = true) (hf : ab_fetch code pc = some (.invokestatic idx, len, cv, ci, kf)) (hw : ab_wd (ab_ti cv) (Cond.methodLink M.1.cls idx Lib.Math.abs.name) = true) (hd1 : 1 ≤ d) (hrest : (st.map fun v => v.category).sum ≤ 8) (k : ab_W X M d bc bs (pc + 3) lo (.int (if 0 ≤ x then x else 0 - x) :: st) h Q) : ab_W X M d bc bs pc lo (.int x :: st) h Q := by
  obtain ⟨hdc, hc⟩ := ab_ck_at hck hf
  obtain rfl : len = 3 := eq_of_beq (show (len == 3) = true from hc)
  intro p e R s m args below meth c H locs cells slots ls F V
  have hkk := k p e R s m args below meth c H locs cells slots ls F V
  obtain ⟨hx, hb, hr, hml, hown, hts, hlk, hnm, hok, hfr, hlo⟩ := F
  obtain ⟨v1, v2, hS, hRel, hLR⟩ := V
  have hsz : ls.size = M.2.2.1 := by obtain ⟨-, lv, g, -⟩ := hLR; exact g.1
  have hcs := ab_cat_sum X st
  exact va_mabs hx hb (hml.trans hsz.symm) hown (hts _ (ab_in (ab_wd_in hw) rfl)) (hts _ (ab_in ab_mathW.2.2.1 rfl)) (hts _ (ab_in ab_mathW.2.2.2 rfl)) (hts _ (ab_in ab_mathC.2.2 rfl)) (by omega) (by omega) (by omega) (by omega) hdc hkk
end ABS
/-- locals of which less is said -/
def ab_le : ab_Lo → ab_Lo → Prop
  | [], [] => True
  | none :: a, _ :: b => ab_le a b
  | some x :: a, y :: b => y = some x ∧ ab_le a b
  | _, _ => False
theorem ab_le_ok : ∀ (a b : ab_Lo), ab_le a b → a.length = b.length ∧ ∀ (i : Nat) (v : Value), a[i]? = some (some v) → b[i]? = some (some v)
  | [], [], _ => ⟨rfl, fun i v h => h⟩
  | [], _ :: _, h => by simp [ab_le] at h
  | none :: a, [], h => by simp [ab_le] at h
  | some x :: a, [], h => by simp [ab_le] at h
  | none :: a, y :: b, h => by
    have ih := ab_le_ok a b h
    refine ⟨by simp [ih.1], fun i v hi => ?_⟩
    cases i with
    | zero => simp at hi
    | succ i => simp at hi ⊢; exact ih.2 i v hi
  | some x :: a, y :: b, h => by
    obtain ⟨rfl, h⟩ : y = some x ∧ ab_le a b := h
    have ih := ab_le_ok a b h
    refine ⟨by simp [ih.1], fun i v hi => ?_⟩
    cases i with
    | zero => exact hi
    | succ i => simp at hi ⊢; exact ih.2 i v hi
theorem ab_W.weak {X : ab_C} {M : ab_Mt} {d bc bs pc : Nat} {lo lo' : ab_Lo} {st : List Value} {h : ab_H} {Q : Option Value → ab_H → Prop} (k : ab_W X M d bc bs pc lo' st h Q) (hle : ab_le lo' lo) : ab_W X M d bc bs pc lo st h Q := by
  obtain ⟨h1, h2⟩ := ab_le_ok _ _ hle
  intro p e R s m args below meth c H locs cells slots ls F V
  refine k p e R s m args below meth c H locs cells slots ls F ?_
  obtain ⟨v1, v2, hS, hRel, hn, lv, g1, g2⟩ := V
  exact ⟨v1, v2, hS, hRel, h1.trans hn, lv, g1, fun i v hi => g2 i v (h2 i v hi)⟩
end
section
/-! The class's state: a 0: scalars (0 node 1 networkState 2 beatCount 3 count 4 lostCount 5 busOn 6 into 7 nextWord 8 state 9 resetBitBefore 10 demand 11 armed 12 watch count 13 sent 14 ticksAgo 15 lastLength 16 syncs); a 1 values, a 2 identifiers, a 3 lengths, a 4 bank 0, a 5 bank 1, a 6 saved; c.2.1 contents, c.2.2 lastData -/
abbrev cs_S : Type := (Nat → Nat → Int32) × (Nat → Int64) × Int64
def up2 (a : Nat → Nat → Int32) (i k : Nat) (x : Int32) : Nat → Nat → Int32 := fun j => if j = i then upd (a i) k x else a j
def cs_u (c : cs_S) (i k : Nat) (x : Int32) : cs_S := (up2 c.1 i k x, c.2)
def cs_l (c : cs_S) (k : Nat) (x : Int64) : cs_S := (c.1, vp_updL c.2.1 k x, c.2.2)
def cs_d (c : cs_S) (x : Int64) : cs_S := (c.1, c.2.1, x)
def cs_H (c : cs_S) (rest : ab_H) : ab_H :=
  .inr (0, [.int (c.1 0 0), .ref 9, .ref 10, .ref 14, .ref 19, .ref 20, .ref 21, .ref 22, .int (c.1 0 1), .int (c.1 0 2)]) ::
  .inl (0, 30, .inl (c.1 1)) ::
  .inr (1, [.ref 11, .ref 12, .ref 13, .int (c.1 0 3), .int (c.1 0 4), .int (c.1 0 5)]) ::
  .inl (0, 12, .inl (c.1 2)) ::
  .inl (0, 12, .inl (c.1 3)) ::
  .inl (1, 12, .inr (.inl c.2.1)) ::
  .inr (2, [.ref 15, .ref 18, .int (c.1 0 6), .int (c.1 0 7)]) ::
  .inl (2, 2, .inr (.inr (.inr (.inr (fun k => if k = 0 then some 16 else if k = 1 then some 17 else none))))) ::
  .inl (0, 22, .inl (c.1 4)) ::
  .inl (0, 22, .inl (c.1 5)) ::
  .inl (0, 22, .inl (c.1 6)) ::
  .inr (3, [.int (c.1 0 8), .int (c.1 0 9)]) ::
  .inr (4, [.ref 9, .int (c.1 0 10)]) ::
  .inr (5, [.int (c.1 0 11), .int (c.1 0 12)]) ::
  .inr (6, [.int (c.1 0 13), .int (c.1 0 14), .long c.2.2, .int (c.1 0 15), .int (c.1 0 16)]) ::
  rest
def tabL : List Int32 := [1048832, 1, 0, 0, 0, 255, 1052673, 4, 1, 0, (-2147483648), 2147483647, 1052929, 4, 1, 0, (-2147483648), 2147483647, 1054209, 4, 2, 0, 0, 8388607, 1054464, 2, 2, 0, 0, 65535, 1441792, 1, 4, 1, 0, 3, 1441793, 4, 4, 1614807056, (-2147483648), 2147483647, 1441794, 4, 4, 0, (-2147483648), 2147483647, 1441795, 4, 4, 0, (-2147483648), 2147483647, 1572866, 1, 2, 255, 0, 255, 1572867, 2, 2, 0, 0, 65535, 1572869, 2, 2, 0, 0, 65535, 1703936, 1, 4, 1, 0, 3, 1703937, 4, 4, 1614872592, (-2147483648), 2147483647, 1703938, 4, 4, 0, (-2147483648), 2147483647, 1703939, 4, 4, 0, (-2147483648), 2147483647, 6307840, 2, 2, 0, 0, 65535, 6308096, 2, 0, 0, 0, 65535, 6316032, 1, 2, 1, 1, 3, 6317056, 4, 0, 0, (-2147483648), 2147483647, 6317312, 4, 3, 100000, 0, 100000, 6318848, 4, 0, 0, (-2147483648), 2147483647, 6322688, 4, 2, 0, (-100000), 100000, 6323457, 4, 3, (-100000), (-100000), 100000, 6323458, 4, 3, 100000, (-100000), 100000, 6323968, 4, 3, 1000, 1, 1000, 6324480, 4, 2, 100, 1, 1000, 6324992, 4, 3, 10, 1, 1000, 6325504, 4, 3, 50, 1, 1000, 6356736, 4, 2, 0, (-1000), 1000]
def tabF (j : Nat) : Int32 := tabL.getD j 0
def keptL : List Int32 := [3, 4, 5, 6, 7, 8, 9, 10, 11, 12, 13, 14, 15, 18, 20, 23, 24, 25, 26, 27, 28]
def keptF (j : Nat) : Int32 := keptL.getD j 0
def statL : List Int32 := [0, 64, 33, 35, 39, 7, 15, 8]
def statF (j : Nat) : Int32 := statL.getD j 0
/-- the three tables of the class, as the Statement gives them -/
def cs_X (X : ab_C) : Prop := X.2.2.2.2.2[0]? = some (180, tabF) ∧ X.2.2.2.2.2[1]? = some (21, keptF) ∧ X.2.2.2.2.2[2]? = some (8, statF)
theorem ab_no {α : Type} {o : Option α} {v : α} {P : Prop} (hv : o = some v) (h : o = none) : P := by rw [h] at hv; cases hv
def ab_z01 (x : Int32) : Bool := x == 0 || x == 1
theorem ab_z01_ok {x : Int32} (h : ab_z01 x = true) : x = 0 ∨ x = 1 := by
  unfold ab_z01 at h
  simpa using h
theorem ab_fitB {x : Int32} (h : x = 0 ∨ x = 1) : narrow .boolean (.int x) = .int x ∧ fits .boolean (.int x) = true := by
  rcases h with rfl | rfl
  · exact ⟨by decide, by decide⟩
  · exact ⟨by decide, by decide⟩
def ab_bd {α β : Type} (o : Option α) (k : α → Option β) : Option β := match o with
  | none => none
  | some a => k a
theorem ab_bd_n {α β : Type} (k : α → Option β) : ab_bd none k = none := rfl
theorem ab_bd_s {α β : Type} (a : α) (k : α → Option β) : ab_bd (some a) k = k a := rfl
def i_abs (x : Int32) : Int32 := if 0 ≤ x then x else 0 - x
def i_max (x y : Int32) : Int32 := if x < y then y else x
def i_min (x y : Int32) : Int32 := if y < x then y else x
end
section
/-! contracts, by program (wip/gen/walk.py, gen_cls.py) -/
section LEAF
variable {X : ab_C} {d : Nat} {c : cs_S} {rest hp : ab_H}
def fB_isBusOn (c : cs_S)  : Option (Int32) := (if ab_z01 (c.1 0 5) = true then (some (c.1 0 5)) else none)
theorem tB_isBusOn {v : Int32} (hv : fB_isBusOn c = some v) : ab_M X mB_isBusOn (d) 0 0 [.ref 10] (cs_H c rest) (fun r9 h9 => r9 = some (Value.int v) ∧ h9 = cs_H c rest) := by
  refine ab_entry (by decide) (Nat.le_of_ble_eq_true rfl) ?_
  refine ab_go 4 [] (pc' := 4) (lo' := [some (.ref 10)]) (st' := [.int (c.1 0 5)]) (h' := cs_H c rest) ckB_isBusOn rfl ?_
  by_cases h1 : ab_z01 (c.1 0 5) = true
  case neg => exact ab_no hv (by simp only [fB_isBusOn, if_neg h1])
  have e : fB_isBusOn c = some (c.1 0 5) := by simp only [fB_isBusOn, if_pos h1]
  obtain rfl := Option.some.inj (e.symm.trans hv)
  exact ab_zret ckB_isBusOn rfl rfl (ab_z01_ok h1) ⟨rfl, rfl⟩
def fB_setBus (c : cs_S) (x1 : Int32) : Option (cs_S) := (if ab_z01 x1 = true then (some (cs_u c 0 5 x1)) else none)
theorem tB_setBus {x1 : Int32} {v : cs_S} (hv : fB_setBus c x1 = some v) : ab_M X mB_setBus (d) 0 0 [.ref 10, .int x1] (cs_H c rest) (fun r9 h9 => r9 = none ∧ h9 = cs_H v rest) := by
  refine ab_entry (by decide) (Nat.le_of_ble_eq_true rfl) ?_
  refine ab_go 4 [] (pc' := 2) (lo' := [some (.ref 10), some (.int x1)]) (st' := [.int x1, .ref 10]) (h' := cs_H c rest) ckB_setBus rfl ?_
  by_cases h1 : ab_z01 x1 = true
  case neg => exact ab_no hv (by simp only [fB_setBus, if_neg h1])
  refine ab_putfR ckB_setBus rfl rfl (Nat.le_of_ble_eq_true rfl) (ab_fitB (ab_z01_ok h1)) (fun q z => by cases z) ?_
  have e : fB_setBus c x1 = some (cs_u c 0 5 x1) := by simp only [fB_setBus, if_pos h1]
  obtain rfl := Option.some.inj (e.symm.trans hv)
  exact ab_vret ckB_setBus rfl rfl ⟨rfl, rfl⟩
def fB_clear (c : cs_S)  : cs_S := (cs_u c 0 3 (0 : Int32))
theorem tB_clear : ab_M X mB_clear (d) 0 0 [.ref 10] (cs_H c rest) (fun r9 h9 => r9 = none ∧ h9 = cs_H (fB_clear c) rest) := by
  refine ab_entry (by decide) (Nat.le_of_ble_eq_true rfl) ?_
  refine ab_go 5 [] (pc' := 5) (lo' := [some (.ref 10)]) (st' := []) (h' := cs_H (cs_u c 0 3 (0 : Int32)) rest) ckB_clear rfl ?_
  have e : fB_clear c = (cs_u c 0 3 (0 : Int32)) := by simp only [fB_clear]
  exact ab_vret ckB_clear rfl rfl ⟨rfl, (congrArg (fun q : cs_S => cs_H q rest) e).symm⟩
def fB_size (c : cs_S)  : Int32 := (c.1 0 3)
theorem tB_size : ab_M X mB_size (d) 0 0 [.ref 10] (cs_H c rest) (fun r9 h9 => r9 = some (Value.int (fB_size c)) ∧ h9 = cs_H c rest) := by
  refine ab_entry (by decide) (Nat.le_of_ble_eq_true rfl) ?_
  refine ab_go 4 [] (pc' := 4) (lo' := [some (.ref 10)]) (st' := [.int (c.1 0 3)]) (h' := cs_H c rest) ckB_size rfl ?_
  have e : fB_size c = (c.1 0 3) := by simp only [fB_size]
  exact ab_iret ckB_size rfl rfl ⟨(congrArg (fun q : Int32 => some (Value.int q)) e).symm, rfl⟩
def fB_lostFrames (c : cs_S)  : Int32 := (c.1 0 4)
theorem tB_lostFrames : ab_M X mB_lostFrames (d) 0 0 [.ref 10] (cs_H c rest) (fun r9 h9 => r9 = some (Value.int (fB_lostFrames c)) ∧ h9 = cs_H c rest) := by
  refine ab_entry (by decide) (Nat.le_of_ble_eq_true rfl) ?_
  refine ab_go 4 [] (pc' := 4) (lo' := [some (.ref 10)]) (st' := [.int (c.1 0 4)]) (h' := cs_H c rest) ckB_lostFrames rfl ?_
  have e : fB_lostFrames c = (c.1 0 4) := by simp only [fB_lostFrames]
  exact ab_iret ckB_lostFrames rfl rfl ⟨(congrArg (fun q : Int32 => some (Value.int q)) e).symm, rfl⟩
def fB_firstIdentifier (c : cs_S)  : Int32 := (if (c.1 0 3) = 0 then (-1 : Int32) else (c.1 2 0))
theorem tB_firstIdentifier : ab_M X mB_firstIdentifier (d) 0 0 [.ref 10] (cs_H c rest) (fun r9 h9 => r9 = some (Value.int (fB_firstIdentifier c)) ∧ h9 = cs_H c rest) := by
  refine ab_entry (by decide) (Nat.le_of_ble_eq_true rfl) ?_
  refine ab_go 4 [] (pc' := 4) (lo' := [some (.ref 10)]) (st' := [.int (c.1 0 3)]) (h' := cs_H c rest) ckB_firstIdentifier rfl ?_
  refine ab_if_ne ckB_firstIdentifier rfl (fun (h1 : ¬ ((c.1 0 3) = 0)) => ?_) (fun (h1 : (c.1 0 3) = 0) => ?_)
  · refine ab_go 6 [] (pc' := 17) (lo' := [some (.ref 10)]) (st' := [.int (c.1 2 0)]) (h' := cs_H c rest) ckB_firstIdentifier rfl ?_
    have e : fB_firstIdentifier c = (c.1 2 0) := by simp only [fB_firstIdentifier, if_neg h1]
    exact ab_iret ckB_firstIdentifier rfl rfl ⟨(congrArg (fun q : Int32 => some (Value.int q)) e).symm, rfl⟩
  · refine ab_go 4 [] (pc' := 17) (lo' := [some (.ref 10)]) (st' := [.int (-1 : Int32)]) (h' := cs_H c rest) ckB_firstIdentifier rfl ?_
    have e : fB_firstIdentifier c = (-1 : Int32) := by simp only [fB_firstIdentifier, if_pos h1]
    exact ab_iret ckB_firstIdentifier rfl rfl ⟨(congrArg (fun q : Int32 => some (Value.int q)) e).symm, rfl⟩
def fB_firstLength (c : cs_S)  : Int32 := (if (c.1 0 3) = 0 then (-1 : Int32) else (c.1 3 0))
theorem tB_firstLength : ab_M X mB_firstLength (d) 0 0 [.ref 10] (cs_H c rest) (fun r9 h9 => r9 = some (Value.int (fB_firstLength c)) ∧ h9 = cs_H c rest) := by
  refine ab_entry (by decide) (Nat.le_of_ble_eq_true rfl) ?_
  refine ab_go 4 [] (pc' := 4) (lo' := [some (.ref 10)]) (st' := [.int (c.1 0 3)]) (h' := cs_H c rest) ckB_firstLength rfl ?_
  refine ab_if_ne ckB_firstLength rfl (fun (h1 : ¬ ((c.1 0 3) = 0)) => ?_) (fun (h1 : (c.1 0 3) = 0) => ?_)
  · refine ab_go 6 [] (pc' := 17) (lo' := [some (.ref 10)]) (st' := [.int (c.1 3 0)]) (h' := cs_H c rest) ckB_firstLength rfl ?_
    have e : fB_firstLength c = (c.1 3 0) := by simp only [fB_firstLength, if_neg h1]
    exact ab_iret ckB_firstLength rfl rfl ⟨(congrArg (fun q : Int32 => some (Value.int q)) e).symm, rfl⟩
  · refine ab_go 4 [] (pc' := 17) (lo' := [some (.ref 10)]) (st' := [.int (-1 : Int32)]) (h' := cs_H c rest) ckB_firstLength rfl ?_
    have e : fB_firstLength c = (-1 : Int32) := by simp only [fB_firstLength, if_pos h1]
    exact ab_iret ckB_firstLength rfl rfl ⟨(congrArg (fun q : Int32 => some (Value.int q)) e).symm, rfl⟩
def fB_firstData (c : cs_S)  : Option (Int64) := (if (c.1 0 3) = 0 then (some (0 : Int64)) else (some (c.2.1 0)))
theorem tB_firstData {v : Int64} (hv : fB_firstData c = some v) : ab_M X mB_firstData (d) 0 0 [.ref 10] (cs_H c rest) (fun r9 h9 => r9 = some (Value.long v) ∧ h9 = cs_H c rest) := by
  refine ab_entry (by decide) (Nat.le_of_ble_eq_true rfl) ?_
  refine ab_go 4 [] (pc' := 4) (lo' := [some (.ref 10)]) (st' := [.int (c.1 0 3)]) (h' := cs_H c rest) ckB_firstData rfl ?_
  refine ab_if_ne ckB_firstData rfl (fun (h1 : ¬ ((c.1 0 3) = 0)) => ?_) (fun (h1 : (c.1 0 3) = 0) => ?_)
  · refine ab_go 5 [] (pc' := 16) (lo' := [some (.ref 10)]) (st' := [.int (0 : Int32), .ref 13]) (h' := cs_H c rest) ckB_firstData rfl ?_
    refine ab_lald ckB_firstData rfl rfl (ab_inb_ok (by decide)) ?_
    have e : fB_firstData c = some (c.2.1 0) := by simp only [fB_firstData, if_neg h1]
    obtain rfl := Option.some.inj (e.symm.trans hv)
    exact ab_lret ckB_firstData rfl rfl ⟨rfl, rfl⟩
  · refine ab_go 4 [] (pc' := 17) (lo' := [some (.ref 10)]) (st' := [.long (0 : Int64)]) (h' := cs_H c rest) ckB_firstData rfl ?_
    have e : fB_firstData c = some (0 : Int64) := by simp only [fB_firstData, if_pos h1]
    obtain rfl := Option.some.inj (e.symm.trans hv)
    exact ab_lret ckB_firstData rfl rfl ⟨rfl, rfl⟩
def fB_send_33 : Nat → cs_S → Int32 → Int32 → Int64 → Int32 → Option (cs_S)
  | 0, _, _, _, _, _ => none
  | n + 1, c, y1, y2, y3, y5 => (if y5 ≤ 0 then (if ab_inb y5 12 = true then (some (cs_u (cs_l (cs_u (cs_u c 2 (y5).toNatClampNeg y1) 3 (y5).toNatClampNeg y2) (y5).toNatClampNeg y3) 0 3 ((c.1 0 3) + (1 : Int32)))) else none) else (if ab_inb (y5 - (1 : Int32)) 12 = true then (if (c.1 2 ((y5 - (1 : Int32))).toNatClampNeg) ≤ y1 then (if ab_inb y5 12 = true then (some (cs_u (cs_l (cs_u (cs_u c 2 (y5).toNatClampNeg y1) 3 (y5).toNatClampNeg y2) (y5).toNatClampNeg y3) 0 3 ((c.1 0 3) + (1 : Int32)))) else none) else (if ab_inb y5 12 = true then fB_send_33 n (cs_l (cs_u (cs_u c 2 (y5).toNatClampNeg (c.1 2 ((y5 - (1 : Int32))).toNatClampNeg)) 3 (y5).toNatClampNeg (c.1 3 ((y5 - (1 : Int32))).toNatClampNeg)) (y5).toNatClampNeg (c.2.1 ((y5 - (1 : Int32))).toNatClampNeg)) y1 y2 y3 (y5 + (-1 : Int32)) else none)) else none))
def fB_send (c : cs_S) (x1 : Int32) (x2 : Int32) (x3 : Int64) : Option (cs_S) := (if (c.1 0 5) = 0 then (some (cs_u c 0 4 ((c.1 0 4) + (1 : Int32)))) else (if (c.1 0 3) < (12 : Int32) then fB_send_33 40 c x1 x2 x3 (c.1 0 3) else (some (cs_u c 0 4 ((c.1 0 4) + (1 : Int32))))))
theorem tB_send_33 (n : Nat)   : ∀ (c : cs_S) (y1 : Int32) (y2 : Int32) (y3 : Int64) (y5 : Int32)  (v : cs_S) (hv : fB_send_33 n c y1 y2 y3 y5 = some v), ab_W X mB_send (d) 0 0 33 [some (.ref 10), some (.int y1), some (.int y2), some (.long y3), none, some (.int y5)] [] (cs_H c rest) (fun r9 h9 => r9 = none ∧ h9 = cs_H v rest) := by
  induction n with
  | zero =>
    intro c y1 y2 y3 y5 v hv
    cases hv
  | succ n ih =>
    intro c y1 y2 y3 y5 v hv
    refine ab_go 3 [33] (pc' := 35) (lo' := [some (.ref 10), some (.int y1), some (.int y2), some (.long y3), none, some (.int y5)]) (st' := [.int y5]) (h' := cs_H c rest) ckB_send rfl ?_
    refine ab_if_le ckB_send rfl (fun (h1 : y5 ≤ 0) => ?_) (fun (h1 : ¬ (y5 ≤ 0)) => ?_)
    · refine ab_go 6 [33] (pc' := 112) (lo' := [some (.ref 10), some (.int y1), some (.int y2), some (.long y3), none, some (.int y5)]) (st' := [.int y1, .int y5, .ref 11]) (h' := cs_H c rest) ckB_send rfl ?_
      by_cases h2 : ab_inb y5 12 = true
      case neg => exact ab_no hv (by simp only [fB_send_33, if_pos h1, if_neg h2])
      refine ab_iast ckB_send rfl rfl (ab_inb_ok h2) ?_
      refine ab_go 6 [33] (pc' := 120) (lo' := [some (.ref 10), some (.int y1), some (.int y2), some (.long y3), none, some (.int y5)]) (st' := [.int y2, .int y5, .ref 12]) (h' := cs_H (cs_u c 2 (y5).toNatClampNeg y1) rest) ckB_send rfl ?_
      refine ab_iast ckB_send rfl rfl (ab_inb_ok h2) ?_
      refine ab_go 6 [33] (pc' := 128) (lo' := [some (.ref 10), some (.int y1), some (.int y2), some (.long y3), none, some (.int y5)]) (st' := [.long y3, .int y5, .ref 13]) (h' := cs_H (cs_u (cs_u c 2 (y5).toNatClampNeg y1) 3 (y5).toNatClampNeg y2) rest) ckB_send rfl ?_
      refine ab_last ckB_send rfl rfl (ab_inb_ok h2) ?_
      refine ab_go 8 [33] (pc' := 139) (lo' := [some (.ref 10), some (.int y1), some (.int y2), some (.long y3), none, some (.int y5)]) (st' := []) (h' := cs_H (cs_u (cs_l (cs_u (cs_u c 2 (y5).toNatClampNeg y1) 3 (y5).toNatClampNeg y2) (y5).toNatClampNeg y3) 0 3 ((c.1 0 3) + (1 : Int32))) rest) ckB_send rfl ?_
      have e : fB_send_33 (n + 1) c y1 y2 y3 y5 = some (cs_u (cs_l (cs_u (cs_u c 2 (y5).toNatClampNeg y1) 3 (y5).toNatClampNeg y2) (y5).toNatClampNeg y3) 0 3 ((c.1 0 3) + (1 : Int32))) := by simp only [fB_send_33, if_pos h1, if_pos h2]
      obtain rfl := Option.some.inj (e.symm.trans hv)
      exact ab_vret ckB_send rfl rfl ⟨rfl, rfl⟩
    · refine ab_go 7 [33] (pc' := 46) (lo' := [some (.ref 10), some (.int y1), some (.int y2), some (.long y3), none, some (.int y5)]) (st' := [.int (y5 - (1 : Int32)), .ref 11]) (h' := cs_H c rest) ckB_send rfl ?_
      by_cases h3 : ab_inb (y5 - (1 : Int32)) 12 = true
      case neg => exact ab_no hv (by simp only [fB_send_33, if_neg h1, if_neg h3])
      refine ab_iald ckB_send rfl rfl (ab_inb_ok h3) ?_
      refine ab_go 3 [33] (pc' := 48) (lo' := [some (.ref 10), some (.int y1), some (.int y2), some (.long y3), none, some (.int y5)]) (st' := [.int y1, .int (c.1 2 ((y5 - (1 : Int32))).toNatClampNeg)]) (h' := cs_H c rest) ckB_send rfl ?_
      refine ab_icmp_le ckB_send rfl (fun (h4 : (c.1 2 ((y5 - (1 : Int32))).toNatClampNeg) ≤ y1) => ?_) (fun (h4 : ¬ ((c.1 2 ((y5 - (1 : Int32))).toNatClampNeg) ≤ y1)) => ?_)
      · refine ab_go 6 [33] (pc' := 112) (lo' := [some (.ref 10), some (.int y1), some (.int y2), some (.long y3), none, some (.int y5)]) (st' := [.int y1, .int y5, .ref 11]) (h' := cs_H c rest) ckB_send rfl ?_
        by_cases h5 : ab_inb y5 12 = true
        case neg => exact ab_no hv (by simp only [fB_send_33, if_neg h1, if_pos h3, if_pos h4, if_neg h5])
        refine ab_iast ckB_send rfl rfl (ab_inb_ok h5) ?_
        refine ab_go 6 [33] (pc' := 120) (lo' := [some (.ref 10), some (.int y1), some (.int y2), some (.long y3), none, some (.int y5)]) (st' := [.int y2, .int y5, .ref 12]) (h' := cs_H (cs_u c 2 (y5).toNatClampNeg y1) rest) ckB_send rfl ?_
        refine ab_iast ckB_send rfl rfl (ab_inb_ok h5) ?_
        refine ab_go 6 [33] (pc' := 128) (lo' := [some (.ref 10), some (.int y1), some (.int y2), some (.long y3), none, some (.int y5)]) (st' := [.long y3, .int y5, .ref 13]) (h' := cs_H (cs_u (cs_u c 2 (y5).toNatClampNeg y1) 3 (y5).toNatClampNeg y2) rest) ckB_send rfl ?_
        refine ab_last ckB_send rfl rfl (ab_inb_ok h5) ?_
        refine ab_go 8 [33] (pc' := 139) (lo' := [some (.ref 10), some (.int y1), some (.int y2), some (.long y3), none, some (.int y5)]) (st' := []) (h' := cs_H (cs_u (cs_l (cs_u (cs_u c 2 (y5).toNatClampNeg y1) 3 (y5).toNatClampNeg y2) (y5).toNatClampNeg y3) 0 3 ((c.1 0 3) + (1 : Int32))) rest) ckB_send rfl ?_
        have e : fB_send_33 (n + 1) c y1 y2 y3 y5 = some (cs_u (cs_l (cs_u (cs_u c 2 (y5).toNatClampNeg y1) 3 (y5).toNatClampNeg y2) (y5).toNatClampNeg y3) 0 3 ((c.1 0 3) + (1 : Int32))) := by simp only [fB_send_33, if_neg h1, if_pos h3, if_pos h4, if_pos h5]
        obtain rfl := Option.some.inj (e.symm.trans hv)
        exact ab_vret ckB_send rfl rfl ⟨rfl, rfl⟩
      · refine ab_go 10 [33] (pc' := 65) (lo' := [some (.ref 10), some (.int y1), some (.int y2), some (.long y3), none, some (.int y5)]) (st' := [.int (y5 - (1 : Int32)), .ref 11, .int y5, .ref 11]) (h' := cs_H c rest) ckB_send rfl ?_
        refine ab_iald ckB_send rfl rfl (ab_inb_ok h3) ?_
        by_cases h6 : ab_inb y5 12 = true
        case neg => exact ab_no hv (by simp only [fB_send_33, if_neg h1, if_pos h3, if_neg h4, if_neg h6])
        refine ab_iast ckB_send rfl rfl (ab_inb_ok h6) ?_
        refine ab_go 10 [33] (pc' := 81) (lo' := [some (.ref 10), some (.int y1), some (.int y2), some (.long y3), none, some (.int y5)]) (st' := [.int (y5 - (1 : Int32)), .ref 12, .int y5, .ref 12]) (h' := cs_H (cs_u c 2 (y5).toNatClampNeg (c.1 2 ((y5 - (1 : Int32))).toNatClampNeg)) rest) ckB_send rfl ?_
        refine ab_iald ckB_send rfl rfl (ab_inb_ok h3) ?_
        refine ab_iast ckB_send rfl rfl (ab_inb_ok h6) ?_
        refine ab_go 10 [33] (pc' := 97) (lo' := [some (.ref 10), some (.int y1), some (.int y2), some (.long y3), none, some (.int y5)]) (st' := [.int (y5 - (1 : Int32)), .ref 13, .int y5, .ref 13]) (h' := cs_H (cs_u (cs_u c 2 (y5).toNatClampNeg (c.1 2 ((y5 - (1 : Int32))).toNatClampNeg)) 3 (y5).toNatClampNeg (c.1 3 ((y5 - (1 : Int32))).toNatClampNeg)) rest) ckB_send rfl ?_
        refine ab_lald ckB_send rfl rfl (ab_inb_ok h3) ?_
        refine ab_last ckB_send rfl rfl (ab_inb_ok h6) ?_
        refine ab_go 4 [33] (pc' := 33) (lo' := [some (.ref 10), some (.int y1), some (.int y2), some (.long y3), none, some (.int (y5 + (-1 : Int32)))]) (st' := []) (h' := cs_H (cs_l (cs_u (cs_u c 2 (y5).toNatClampNeg (c.1 2 ((y5 - (1 : Int32))).toNatClampNeg)) 3 (y5).toNatClampNeg (c.1 3 ((y5 - (1 : Int32))).toNatClampNeg)) (y5).toNatClampNeg (c.2.1 ((y5 - (1 : Int32))).toNatClampNeg)) rest) ckB_send rfl ?_
        have e : fB_send_33 (n + 1) c y1 y2 y3 y5 = fB_send_33 n (cs_l (cs_u (cs_u c 2 (y5).toNatClampNeg (c.1 2 ((y5 - (1 : Int32))).toNatClampNeg)) 3 (y5).toNatClampNeg (c.1 3 ((y5 - (1 : Int32))).toNatClampNeg)) (y5).toNatClampNeg (c.2.1 ((y5 - (1 : Int32))).toNatClampNeg)) y1 y2 y3 (y5 + (-1 : Int32)) := by simp only [fB_send_33, if_neg h1, if_pos h3, if_neg h4, if_pos h6]
        exact ab_W.weak (ih (cs_l (cs_u (cs_u c 2 (y5).toNatClampNeg (c.1 2 ((y5 - (1 : Int32))).toNatClampNeg)) 3 (y5).toNatClampNeg (c.1 3 ((y5 - (1 : Int32))).toNatClampNeg)) (y5).toNatClampNeg (c.2.1 ((y5 - (1 : Int32))).toNatClampNeg)) y1 y2 y3 (y5 + (-1 : Int32)) v (e.symm.trans hv)) ⟨rfl, rfl, rfl, rfl, rfl, trivial⟩
theorem tB_send {x1 : Int32} {x2 : Int32} {x3 : Int64} {v : cs_S} (hv : fB_send c x1 x2 x3 = some v) : ab_M X mB_send (d) 0 0 [.ref 10, .int x1, .int x2, .long x3] (cs_H c rest) (fun r9 h9 => r9 = none ∧ h9 = cs_H v rest) := by
  refine ab_entry (by decide) (Nat.le_of_ble_eq_true rfl) ?_
  refine ab_go 4 [33] (pc' := 4) (lo' := [some (.ref 10), some (.int x1), some (.int x2), some (.long x3), none, none]) (st' := [.int (c.1 0 5)]) (h' := cs_H c rest) ckB_send rfl ?_
  refine ab_if_eq ckB_send rfl (fun (h1 : (c.1 0 5) = 0) => ?_) (fun (h1 : ¬ ((c.1 0 5) = 0)) => ?_)
  · refine ab_go 8 [33] (pc' := 26) (lo' := [some (.ref 10), some (.int x1), some (.int x2), some (.long x3), none, none]) (st' := []) (h' := cs_H (cs_u c 0 4 ((c.1 0 4) + (1 : Int32))) rest) ckB_send rfl ?_
    have e : fB_send c x1 x2 x3 = some (cs_u c 0 4 ((c.1 0 4) + (1 : Int32))) := by simp only [fB_send, if_pos h1]
    obtain rfl := Option.some.inj (e.symm.trans hv)
    exact ab_vret ckB_send rfl rfl ⟨rfl, rfl⟩
  · refine ab_go 5 [33] (pc' := 13) (lo' := [some (.ref 10), some (.int x1), some (.int x2), some (.long x3), none, none]) (st' := [.int (12 : Int32), .int (c.1 0 3)]) (h' := cs_H c rest) ckB_send rfl ?_
    refine ab_icmp_lt ckB_send rfl (fun (h2 : (c.1 0 3) < (12 : Int32)) => ?_) (fun (h2 : ¬ ((c.1 0 3) < (12 : Int32))) => ?_)
    · refine ab_go 5 [33] (pc' := 33) (lo' := [some (.ref 10), some (.int x1), some (.int x2), some (.long x3), none, some (.int (c.1 0 3))]) (st' := []) (h' := cs_H c rest) ckB_send rfl ?_
      have e : fB_send c x1 x2 x3 = fB_send_33 40 c x1 x2 x3 (c.1 0 3) := by simp only [fB_send, if_neg h1, if_pos h2]
      exact ab_W.weak (tB_send_33 40 c x1 x2 x3 (c.1 0 3) v (e.symm.trans hv)) ⟨rfl, rfl, rfl, rfl, rfl, trivial⟩
    · refine ab_go 8 [33] (pc' := 26) (lo' := [some (.ref 10), some (.int x1), some (.int x2), some (.long x3), none, none]) (st' := []) (h' := cs_H (cs_u c 0 4 ((c.1 0 4) + (1 : Int32))) rest) ckB_send rfl ?_
      have e : fB_send c x1 x2 x3 = some (cs_u c 0 4 ((c.1 0 4) + (1 : Int32))) := by simp only [fB_send, if_neg h1, if_neg h2]
      obtain rfl := Option.some.inj (e.symm.trans hv)
      exact ab_vret ckB_send rfl rfl ⟨rfl, rfl⟩
def fB_dropFirst_21 : Nat → cs_S → Int32 → Option (Int32 × cs_S)
  | 0, _, _ => none
  | n + 1, c, y1 => (if (c.1 0 3) ≤ y1 then (some ((1 : Int32), c)) else (if ab_inb (y1 + (1 : Int32)) 12 = true then (if ab_inb y1 12 = true then fB_dropFirst_21 n (cs_l (cs_u (cs_u c 2 (y1).toNatClampNeg (c.1 2 ((y1 + (1 : Int32))).toNatClampNeg)) 3 (y1).toNatClampNeg (c.1 3 ((y1 + (1 : Int32))).toNatClampNeg)) (y1).toNatClampNeg (c.2.1 ((y1 + (1 : Int32))).toNatClampNeg)) (y1 + (1 : Int32)) else none) else none))
def fB_dropFirst (c : cs_S)  : Option (Int32 × cs_S) := (if (c.1 0 3) = 0 then (some ((0 : Int32), c)) else fB_dropFirst_21 40 (cs_u c 0 3 ((c.1 0 3) - (1 : Int32))) (0 : Int32))
theorem tB_dropFirst_21 (n : Nat)   : ∀ (c : cs_S) (y1 : Int32)  (v : Int32 × cs_S) (hv : fB_dropFirst_21 n c y1 = some v), ab_W X mB_dropFirst (d) 0 0 21 [some (.ref 10), some (.int y1)] [] (cs_H c rest) (fun r9 h9 => r9 = some (Value.int v.1) ∧ h9 = cs_H v.2 rest) := by
  induction n with
  | zero =>
    intro c y1 v hv
    cases hv
  | succ n ih =>
    intro c y1 v hv
    refine ab_go 5 [21] (pc' := 26) (lo' := [some (.ref 10), some (.int y1)]) (st' := [.int (c.1 0 3), .int y1]) (h' := cs_H c rest) ckB_dropFirst rfl ?_
    refine ab_icmp_ge ckB_dropFirst rfl (fun (h1 : (c.1 0 3) ≤ y1) => ?_) (fun (h1 : ¬ ((c.1 0 3) ≤ y1)) => ?_)
    · refine ab_go 3 [21] (pc' := 78) (lo' := [some (.ref 10), some (.int y1)]) (st' := [.int (1 : Int32)]) (h' := cs_H c rest) ckB_dropFirst rfl ?_
      have e : fB_dropFirst_21 (n + 1) c y1 = some ((1 : Int32), c) := by simp only [fB_dropFirst_21, if_pos h1]
      obtain rfl := Option.some.inj (e.symm.trans hv)
      exact ab_zret ckB_dropFirst rfl rfl (Or.inr rfl) ⟨rfl, rfl⟩
    · refine ab_go 10 [21] (pc' := 41) (lo' := [some (.ref 10), some (.int y1)]) (st' := [.int (y1 + (1 : Int32)), .ref 11, .int y1, .ref 11]) (h' := cs_H c rest) ckB_dropFirst rfl ?_
      by_cases h2 : ab_inb (y1 + (1 : Int32)) 12 = true
      case neg => exact ab_no hv (by simp only [fB_dropFirst_21, if_neg h1, if_neg h2])
      refine ab_iald ckB_dropFirst rfl rfl (ab_inb_ok h2) ?_
      by_cases h3 : ab_inb y1 12 = true
      case neg => exact ab_no hv (by simp only [fB_dropFirst_21, if_neg h1, if_pos h2, if_neg h3])
      refine ab_iast ckB_dropFirst rfl rfl (ab_inb_ok h3) ?_
      refine ab_go 10 [21] (pc' := 55) (lo' := [some (.ref 10), some (.int y1)]) (st' := [.int (y1 + (1 : Int32)), .ref 12, .int y1, .ref 12]) (h' := cs_H (cs_u c 2 (y1).toNatClampNeg (c.1 2 ((y1 + (1 : Int32))).toNatClampNeg)) rest) ckB_dropFirst rfl ?_
      refine ab_iald ckB_dropFirst rfl rfl (ab_inb_ok h2) ?_
      refine ab_iast ckB_dropFirst rfl rfl (ab_inb_ok h3) ?_
      refine ab_go 10 [21] (pc' := 69) (lo' := [some (.ref 10), some (.int y1)]) (st' := [.int (y1 + (1 : Int32)), .ref 13, .int y1, .ref 13]) (h' := cs_H (cs_u (cs_u c 2 (y1).toNatClampNeg (c.1 2 ((y1 + (1 : Int32))).toNatClampNeg)) 3 (y1).toNatClampNeg (c.1 3 ((y1 + (1 : Int32))).toNatClampNeg)) rest) ckB_dropFirst rfl ?_
      refine ab_lald ckB_dropFirst rfl rfl (ab_inb_ok h2) ?_
      refine ab_last ckB_dropFirst rfl rfl (ab_inb_ok h3) ?_
      refine ab_go 4 [21] (pc' := 21) (lo' := [some (.ref 10), some (.int (y1 + (1 : Int32)))]) (st' := []) (h' := cs_H (cs_l (cs_u (cs_u c 2 (y1).toNatClampNeg (c.1 2 ((y1 + (1 : Int32))).toNatClampNeg)) 3 (y1).toNatClampNeg (c.1 3 ((y1 + (1 : Int32))).toNatClampNeg)) (y1).toNatClampNeg (c.2.1 ((y1 + (1 : Int32))).toNatClampNeg)) rest) ckB_dropFirst rfl ?_
      have e : fB_dropFirst_21 (n + 1) c y1 = fB_dropFirst_21 n (cs_l (cs_u (cs_u c 2 (y1).toNatClampNeg (c.1 2 ((y1 + (1 : Int32))).toNatClampNeg)) 3 (y1).toNatClampNeg (c.1 3 ((y1 + (1 : Int32))).toNatClampNeg)) (y1).toNatClampNeg (c.2.1 ((y1 + (1 : Int32))).toNatClampNeg)) (y1 + (1 : Int32)) := by simp only [fB_dropFirst_21, if_neg h1, if_pos h2, if_pos h3]
      exact ab_W.weak (ih (cs_l (cs_u (cs_u c 2 (y1).toNatClampNeg (c.1 2 ((y1 + (1 : Int32))).toNatClampNeg)) 3 (y1).toNatClampNeg (c.1 3 ((y1 + (1 : Int32))).toNatClampNeg)) (y1).toNatClampNeg (c.2.1 ((y1 + (1 : Int32))).toNatClampNeg)) (y1 + (1 : Int32)) v (e.symm.trans hv)) ⟨rfl, rfl, trivial⟩
theorem tB_dropFirst {v : Int32 × cs_S} (hv : fB_dropFirst c = some v) : ab_M X mB_dropFirst (d) 0 0 [.ref 10] (cs_H c rest) (fun r9 h9 => r9 = some (Value.int v.1) ∧ h9 = cs_H v.2 rest) := by
  refine ab_entry (by decide) (Nat.le_of_ble_eq_true rfl) ?_
  refine ab_go 4 [21] (pc' := 4) (lo' := [some (.ref 10), none]) (st' := [.int (c.1 0 3)]) (h' := cs_H c rest) ckB_dropFirst rfl ?_
  refine ab_if_ne ckB_dropFirst rfl (fun (h1 : ¬ ((c.1 0 3) = 0)) => ?_) (fun (h1 : (c.1 0 3) = 0) => ?_)
  · refine ab_go 10 [21] (pc' := 21) (lo' := [some (.ref 10), some (.int (0 : Int32))]) (st' := []) (h' := cs_H (cs_u c 0 3 ((c.1 0 3) - (1 : Int32))) rest) ckB_dropFirst rfl ?_
    have e : fB_dropFirst c = fB_dropFirst_21 40 (cs_u c 0 3 ((c.1 0 3) - (1 : Int32))) (0 : Int32) := by simp only [fB_dropFirst, if_neg h1]
    exact ab_W.weak (tB_dropFirst_21 40 (cs_u c 0 3 ((c.1 0 3) - (1 : Int32))) (0 : Int32) v (e.symm.trans hv)) ⟨rfl, rfl, trivial⟩
  · refine ab_go 3 [21] (pc' := 8) (lo' := [some (.ref 10), none]) (st' := [.int (0 : Int32)]) (h' := cs_H c rest) ckB_dropFirst rfl ?_
    have e : fB_dropFirst c = some ((0 : Int32), c) := by simp only [fB_dropFirst, if_pos h1]
    obtain rfl := Option.some.inj (e.symm.trans hv)
    exact ab_zret ckB_dropFirst rfl rfl (Or.inl rfl) ⟨rfl, rfl⟩
def fO_beginOperating (c : cs_S)  : cs_S := (cs_u c 0 13 (0 : Int32))
theorem tO_beginOperating : ab_M X mO_beginOperating (d) 0 0 [.ref 22] (cs_H c rest) (fun r9 h9 => r9 = none ∧ h9 = cs_H (fO_beginOperating c) rest) := by
  refine ab_entry (by decide) (Nat.le_of_ble_eq_true rfl) ?_
  refine ab_go 5 [] (pc' := 5) (lo' := [some (.ref 22)]) (st' := []) (h' := cs_H (cs_u c 0 13 (0 : Int32)) rest) ckO_beginOperating rfl ?_
  have e : fO_beginOperating c = (cs_u c 0 13 (0 : Int32)) := by simp only [fO_beginOperating]
  exact ab_vret ckO_beginOperating rfl rfl ⟨rfl, (congrArg (fun q : cs_S => cs_H q rest) e).symm⟩
def fO_forgetSyncs (c : cs_S)  : cs_S := (cs_u c 0 16 (0 : Int32))
theorem tO_forgetSyncs : ab_M X mO_forgetSyncs (d) 0 0 [.ref 22] (cs_H c rest) (fun r9 h9 => r9 = none ∧ h9 = cs_H (fO_forgetSyncs c) rest) := by
  refine ab_entry (by decide) (Nat.le_of_ble_eq_true rfl) ?_
  refine ab_go 5 [] (pc' := 5) (lo' := [some (.ref 22)]) (st' := []) (h' := cs_H (cs_u c 0 16 (0 : Int32)) rest) ckO_forgetSyncs rfl ?_
  have e : fO_forgetSyncs c = (cs_u c 0 16 (0 : Int32)) := by simp only [fO_forgetSyncs]
  exact ab_vret ckO_forgetSyncs rfl rfl ⟨rfl, (congrArg (fun q : cs_S => cs_H q rest) e).symm⟩
def fO_countSync (c : cs_S) (x1 : Int32) : Int32 × cs_S := (if x1 ≤ ((c.1 0 16) + (1 : Int32)) then ((1 : Int32), (cs_u (cs_u c 0 16 ((c.1 0 16) + (1 : Int32))) 0 16 (0 : Int32))) else ((0 : Int32), (cs_u c 0 16 ((c.1 0 16) + (1 : Int32)))))
theorem tO_countSync {x1 : Int32} : ab_M X mO_countSync (d) 0 0 [.ref 22, .int x1] (cs_H c rest) (fun r9 h9 => r9 = some (Value.int (fO_countSync c x1).1) ∧ h9 = cs_H (fO_countSync c x1).2 rest) := by
  refine ab_entry (by decide) (Nat.le_of_ble_eq_true rfl) ?_
  refine ab_go 11 [] (pc' := 15) (lo' := [some (.ref 22), some (.int x1)]) (st' := [.int x1, .int ((c.1 0 16) + (1 : Int32))]) (h' := cs_H (cs_u c 0 16 ((c.1 0 16) + (1 : Int32))) rest) ckO_countSync rfl ?_
  refine ab_icmp_ge ckO_countSync rfl (fun (h1 : x1 ≤ ((c.1 0 16) + (1 : Int32))) => ?_) (fun (h1 : ¬ (x1 ≤ ((c.1 0 16) + (1 : Int32)))) => ?_)
  · refine ab_go 6 [] (pc' := 26) (lo' := [some (.ref 22), some (.int x1)]) (st' := [.int (1 : Int32)]) (h' := cs_H (cs_u (cs_u c 0 16 ((c.1 0 16) + (1 : Int32))) 0 16 (0 : Int32)) rest) ckO_countSync rfl ?_
    have e : fO_countSync c x1 = ((1 : Int32), (cs_u (cs_u c 0 16 ((c.1 0 16) + (1 : Int32))) 0 16 (0 : Int32))) := by simp only [fO_countSync, if_pos h1]
    exact ab_zret ckO_countSync rfl rfl (Or.inr rfl) ⟨(congrArg (fun q : Int32 × cs_S => some (Value.int q.1)) e).symm, (congrArg (fun q : Int32 × cs_S => cs_H q.2 rest) e).symm⟩
  · refine ab_go 3 [] (pc' := 19) (lo' := [some (.ref 22), some (.int x1)]) (st' := [.int (0 : Int32)]) (h' := cs_H (cs_u c 0 16 ((c.1 0 16) + (1 : Int32))) rest) ckO_countSync rfl ?_
    have e : fO_countSync c x1 = ((0 : Int32), (cs_u c 0 16 ((c.1 0 16) + (1 : Int32)))) := by simp only [fO_countSync, if_neg h1]
    exact ab_zret ckO_countSync rfl rfl (Or.inl rfl) ⟨(congrArg (fun q : Int32 × cs_S => some (Value.int q.1)) e).symm, (congrArg (fun q : Int32 × cs_S => cs_H q.2 rest) e).symm⟩
def fO_countTick (c : cs_S)  : cs_S := (cs_u c 0 14 ((c.1 0 14) + (1 : Int32)))
theorem tO_countTick : ab_M X mO_countTick (d) 0 0 [.ref 22] (cs_H c rest) (fun r9 h9 => r9 = none ∧ h9 = cs_H (fO_countTick c) rest) := by
  refine ab_entry (by decide) (Nat.le_of_ble_eq_true rfl) ?_
  refine ab_go 8 [] (pc' := 10) (lo' := [some (.ref 22)]) (st' := []) (h' := cs_H (cs_u c 0 14 ((c.1 0 14) + (1 : Int32))) rest) ckO_countTick rfl ?_
  have e : fO_countTick c = (cs_u c 0 14 ((c.1 0 14) + (1 : Int32))) := by simp only [fO_countTick]
  exact ab_vret ckO_countTick rfl rfl ⟨rfl, (congrArg (fun q : cs_S => cs_H q rest) e).symm⟩
def fO_isHeld (c : cs_S) (x1 : Int32) : Int32 := (if (c.1 0 13) = 0 then (0 : Int32) else (if x1 ≤ (c.1 0 14) then (0 : Int32) else (1 : Int32)))
theorem tO_isHeld {x1 : Int32} : ab_M X mO_isHeld (d) 0 0 [.ref 22, .int x1] (cs_H c rest) (fun r9 h9 => r9 = some (Value.int (fO_isHeld c x1)) ∧ h9 = cs_H c rest) := by
  refine ab_entry (by decide) (Nat.le_of_ble_eq_true rfl) ?_
  refine ab_go 4 [] (pc' := 4) (lo' := [some (.ref 22), some (.int x1)]) (st' := [.int (c.1 0 13)]) (h' := cs_H c rest) ckO_isHeld rfl ?_
  refine ab_if_eq ckO_isHeld rfl (fun (h1 : (c.1 0 13) = 0) => ?_) (fun (h1 : ¬ ((c.1 0 13) = 0)) => ?_)
  · refine ab_go 3 [] (pc' := 20) (lo' := [some (.ref 22), some (.int x1)]) (st' := [.int (0 : Int32)]) (h' := cs_H c rest) ckO_isHeld rfl ?_
    have e : fO_isHeld c x1 = (0 : Int32) := by simp only [fO_isHeld, if_pos h1]
    exact ab_zret ckO_isHeld rfl rfl (Or.inl rfl) ⟨(congrArg (fun q : Int32 => some (Value.int q)) e).symm, rfl⟩
  · refine ab_go 5 [] (pc' := 12) (lo' := [some (.ref 22), some (.int x1)]) (st' := [.int x1, .int (c.1 0 14)]) (h' := cs_H c rest) ckO_isHeld rfl ?_
    refine ab_icmp_ge ckO_isHeld rfl (fun (h2 : x1 ≤ (c.1 0 14)) => ?_) (fun (h2 : ¬ (x1 ≤ (c.1 0 14))) => ?_)
    · refine ab_go 3 [] (pc' := 20) (lo' := [some (.ref 22), some (.int x1)]) (st' := [.int (0 : Int32)]) (h' := cs_H c rest) ckO_isHeld rfl ?_
      have e : fO_isHeld c x1 = (0 : Int32) := by simp only [fO_isHeld, if_neg h1, if_pos h2]
      exact ab_zret ckO_isHeld rfl rfl (Or.inl rfl) ⟨(congrArg (fun q : Int32 => some (Value.int q)) e).symm, rfl⟩
    · refine ab_go 4 [] (pc' := 20) (lo' := [some (.ref 22), some (.int x1)]) (st' := [.int (1 : Int32)]) (h' := cs_H c rest) ckO_isHeld rfl ?_
      have e : fO_isHeld c x1 = (1 : Int32) := by simp only [fO_isHeld, if_neg h1, if_neg h2]
      exact ab_zret ckO_isHeld rfl rfl (Or.inr rfl) ⟨(congrArg (fun q : Int32 => some (Value.int q)) e).symm, rfl⟩
def fO_isDue (c : cs_S) (x1 : Int64) (x2 : Int32) (x3 : Int32) : Int32 := (if (c.1 0 13) = 0 then (1 : Int32) else (if (lg_cmp x1 (c.2.2)) = 0 then (if x2 = (c.1 0 15) then (if x3 ≤ 0 then (0 : Int32) else (if (c.1 0 14) < x3 then (0 : Int32) else (1 : Int32))) else (1 : Int32)) else (1 : Int32)))
theorem tO_isDue {x1 : Int64} {x2 : Int32} {x3 : Int32} : ab_M X mO_isDue (d) 0 0 [.ref 22, .long x1, .int x2, .int x3] (cs_H c rest) (fun r9 h9 => r9 = some (Value.int (fO_isDue c x1 x2 x3)) ∧ h9 = cs_H c rest) := by
  refine ab_entry (by decide) (Nat.le_of_ble_eq_true rfl) ?_
  refine ab_go 4 [] (pc' := 4) (lo' := [some (.ref 22), some (.long x1), none, some (.int x2), some (.int x3)]) (st' := [.int (c.1 0 13)]) (h' := cs_H c rest) ckO_isDue rfl ?_
  refine ab_if_eq ckO_isDue rfl (fun (h1 : (c.1 0 13) = 0) => ?_) (fun (h1 : ¬ ((c.1 0 13) = 0)) => ?_)
  · refine ab_go 4 [] (pc' := 43) (lo' := [some (.ref 22), some (.long x1), none, some (.int x2), some (.int x3)]) (st' := [.int (1 : Int32)]) (h' := cs_H c rest) ckO_isDue rfl ?_
    have e : fO_isDue c x1 x2 x3 = (1 : Int32) := by simp only [fO_isDue, if_pos h1]
    exact ab_zret ckO_isDue rfl rfl (Or.inr rfl) ⟨(congrArg (fun q : Int32 => some (Value.int q)) e).symm, rfl⟩
  · refine ab_go 6 [] (pc' := 13) (lo' := [some (.ref 22), some (.long x1), none, some (.int x2), some (.int x3)]) (st' := [.int (lg_cmp x1 (c.2.2))]) (h' := cs_H c rest) ckO_isDue rfl ?_
    refine ab_if_ne ckO_isDue rfl (fun (h2 : ¬ ((lg_cmp x1 (c.2.2)) = 0)) => ?_) (fun (h2 : (lg_cmp x1 (c.2.2)) = 0) => ?_)
    · refine ab_go 4 [] (pc' := 43) (lo' := [some (.ref 22), some (.long x1), none, some (.int x2), some (.int x3)]) (st' := [.int (1 : Int32)]) (h' := cs_H c rest) ckO_isDue rfl ?_
      have e : fO_isDue c x1 x2 x3 = (1 : Int32) := by simp only [fO_isDue, if_neg h1, if_neg h2]
      exact ab_zret ckO_isDue rfl rfl (Or.inr rfl) ⟨(congrArg (fun q : Int32 => some (Value.int q)) e).symm, rfl⟩
    · refine ab_go 5 [] (pc' := 21) (lo' := [some (.ref 22), some (.long x1), none, some (.int x2), some (.int x3)]) (st' := [.int (c.1 0 15), .int x2]) (h' := cs_H c rest) ckO_isDue rfl ?_
      refine ab_icmp_ne ckO_isDue rfl (fun (h3 : ¬ (x2 = (c.1 0 15))) => ?_) (fun (h3 : x2 = (c.1 0 15)) => ?_)
      · refine ab_go 4 [] (pc' := 43) (lo' := [some (.ref 22), some (.long x1), none, some (.int x2), some (.int x3)]) (st' := [.int (1 : Int32)]) (h' := cs_H c rest) ckO_isDue rfl ?_
        have e : fO_isDue c x1 x2 x3 = (1 : Int32) := by simp only [fO_isDue, if_neg h1, if_pos h2, if_neg h3]
        exact ab_zret ckO_isDue rfl rfl (Or.inr rfl) ⟨(congrArg (fun q : Int32 => some (Value.int q)) e).symm, rfl⟩
      · refine ab_go 3 [] (pc' := 26) (lo' := [some (.ref 22), some (.long x1), none, some (.int x2), some (.int x3)]) (st' := [.int x3]) (h' := cs_H c rest) ckO_isDue rfl ?_
        refine ab_if_le ckO_isDue rfl (fun (h4 : x3 ≤ 0) => ?_) (fun (h4 : ¬ (x3 ≤ 0)) => ?_)
        · refine ab_go 3 [] (pc' := 43) (lo' := [some (.ref 22), some (.long x1), none, some (.int x2), some (.int x3)]) (st' := [.int (0 : Int32)]) (h' := cs_H c rest) ckO_isDue rfl ?_
          have e : fO_isDue c x1 x2 x3 = (0 : Int32) := by simp only [fO_isDue, if_neg h1, if_pos h2, if_pos h3, if_pos h4]
          exact ab_zret ckO_isDue rfl rfl (Or.inl rfl) ⟨(congrArg (fun q : Int32 => some (Value.int q)) e).symm, rfl⟩
        · refine ab_go 5 [] (pc' := 35) (lo' := [some (.ref 22), some (.long x1), none, some (.int x2), some (.int x3)]) (st' := [.int x3, .int (c.1 0 14)]) (h' := cs_H c rest) ckO_isDue rfl ?_
          refine ab_icmp_lt ckO_isDue rfl (fun (h5 : (c.1 0 14) < x3) => ?_) (fun (h5 : ¬ ((c.1 0 14) < x3)) => ?_)
          · refine ab_go 3 [] (pc' := 43) (lo' := [some (.ref 22), some (.long x1), none, some (.int x2), some (.int x3)]) (st' := [.int (0 : Int32)]) (h' := cs_H c rest) ckO_isDue rfl ?_
            have e : fO_isDue c x1 x2 x3 = (0 : Int32) := by simp only [fO_isDue, if_neg h1, if_pos h2, if_pos h3, if_neg h4, if_pos h5]
            exact ab_zret ckO_isDue rfl rfl (Or.inl rfl) ⟨(congrArg (fun q : Int32 => some (Value.int q)) e).symm, rfl⟩
          · refine ab_go 4 [] (pc' := 43) (lo' := [some (.ref 22), some (.long x1), none, some (.int x2), some (.int x3)]) (st' := [.int (1 : Int32)]) (h' := cs_H c rest) ckO_isDue rfl ?_
            have e : fO_isDue c x1 x2 x3 = (1 : Int32) := by simp only [fO_isDue, if_neg h1, if_pos h2, if_pos h3, if_neg h4, if_neg h5]
            exact ab_zret ckO_isDue rfl rfl (Or.inr rfl) ⟨(congrArg (fun q : Int32 => some (Value.int q)) e).symm, rfl⟩
def fO_noteSent (c : cs_S) (x1 : Int64) (x2 : Int32) : cs_S := (cs_u (cs_d (cs_u (cs_u c 0 13 (1 : Int32)) 0 14 (0 : Int32)) x1) 0 15 x2)
theorem tO_noteSent {x1 : Int64} {x2 : Int32} : ab_M X mO_noteSent (d) 0 0 [.ref 22, .long x1, .int x2] (cs_H c rest) (fun r9 h9 => r9 = none ∧ h9 = cs_H (fO_noteSent c x1 x2) rest) := by
  refine ab_entry (by decide) (Nat.le_of_ble_eq_true rfl) ?_
  refine ab_go 14 [] (pc' := 20) (lo' := [some (.ref 22), some (.long x1), none, some (.int x2)]) (st' := []) (h' := cs_H (cs_u (cs_d (cs_u (cs_u c 0 13 (1 : Int32)) 0 14 (0 : Int32)) x1) 0 15 x2) rest) ckO_noteSent rfl ?_
  have e : fO_noteSent c x1 x2 = (cs_u (cs_d (cs_u (cs_u c 0 13 (1 : Int32)) 0 14 (0 : Int32)) x1) 0 15 x2) := by simp only [fO_noteSent]
  exact ab_vret ckO_noteSent rfl rfl ⟨rfl, (congrArg (fun q : cs_S => cs_H q rest) e).symm⟩
def fP_comeUp (c : cs_S)  : cs_S := (cs_u (cs_u c 0 8 (1 : Int32)) 0 9 (0 : Int32))
theorem tP_comeUp : ab_M X mP_comeUp (d) 0 0 [.ref 19] (cs_H c rest) (fun r9 h9 => r9 = none ∧ h9 = cs_H (fP_comeUp c) rest) := by
  refine ab_entry (by decide) (Nat.le_of_ble_eq_true rfl) ?_
  refine ab_go 8 [] (pc' := 10) (lo' := [some (.ref 19)]) (st' := []) (h' := cs_H (cs_u (cs_u c 0 8 (1 : Int32)) 0 9 (0 : Int32)) rest) ckP_comeUp rfl ?_
  have e : fP_comeUp c = (cs_u (cs_u c 0 8 (1 : Int32)) 0 9 (0 : Int32)) := by simp only [fP_comeUp]
  exact ab_vret ckP_comeUp rfl rfl ⟨rfl, (congrArg (fun q : cs_S => cs_H q rest) e).symm⟩
def fP_current (c : cs_S)  : Int32 := (c.1 0 8)
theorem tP_current : ab_M X mP_current (d) 0 0 [.ref 19] (cs_H c rest) (fun r9 h9 => r9 = some (Value.int (fP_current c)) ∧ h9 = cs_H c rest) := by
  refine ab_entry (by decide) (Nat.le_of_ble_eq_true rfl) ?_
  refine ab_go 4 [] (pc' := 4) (lo' := [some (.ref 19)]) (st' := [.int (c.1 0 8)]) (h' := cs_H c rest) ckP_current rfl ?_
  have e : fP_current c = (c.1 0 8) := by simp only [fP_current]
  exact ab_iret ckP_current rfl rfl ⟨(congrArg (fun q : Int32 => some (Value.int q)) e).symm, rfl⟩
def fP_statusBits (c : cs_S)  : Option (Int32) := (if ab_inb (c.1 0 8) 8 = true then (some (statF ((c.1 0 8)).toNatClampNeg)) else none)
theorem tP_statusBits (hX : cs_X X) {v : Int32} (hv : fP_statusBits c = some v) : ab_M X mP_statusBits (d) 0 0 [.ref 19] (cs_H c rest) (fun r9 h9 => r9 = some (Value.int v) ∧ h9 = cs_H c rest) := by
  refine ab_entry (by decide) (Nat.le_of_ble_eq_true rfl) ?_
  refine ab_go 5 [] (pc' := 7) (lo' := [some (.ref 19)]) (st' := [.int (c.1 0 8), .ref 2]) (h' := cs_H c rest) ckP_statusBits rfl ?_
  by_cases h1 : ab_inb (c.1 0 8) 8 = true
  case neg => exact ab_no hv (by simp only [fP_statusBits, if_neg h1])
  refine ab_tald ckP_statusBits rfl (by decide) hX.2.2 (ab_inb_ok h1) ?_
  have e : fP_statusBits c = some (statF ((c.1 0 8)).toNatClampNeg) := by simp only [fP_statusBits, if_pos h1]
  obtain rfl := Option.some.inj (e.symm.trans hv)
  exact ab_iret ckP_statusBits rfl rfl ⟨rfl, rfl⟩
def fP_isEnabled (c : cs_S)  : Int32 := (if (c.1 0 8) = (4 : Int32) then (1 : Int32) else (0 : Int32))
theorem tP_isEnabled : ab_M X mP_isEnabled (d) 0 0 [.ref 19] (cs_H c rest) (fun r9 h9 => r9 = some (Value.int (fP_isEnabled c)) ∧ h9 = cs_H c rest) := by
  refine ab_entry (by decide) (Nat.le_of_ble_eq_true rfl) ?_
  refine ab_go 5 [] (pc' := 5) (lo' := [some (.ref 19)]) (st' := [.int (4 : Int32), .int (c.1 0 8)]) (h' := cs_H c rest) ckP_isEnabled rfl ?_
  refine ab_icmp_ne ckP_isEnabled rfl (fun (h1 : ¬ ((c.1 0 8) = (4 : Int32))) => ?_) (fun (h1 : (c.1 0 8) = (4 : Int32)) => ?_)
  · refine ab_go 3 [] (pc' := 13) (lo' := [some (.ref 19)]) (st' := [.int (0 : Int32)]) (h' := cs_H c rest) ckP_isEnabled rfl ?_
    have e : fP_isEnabled c = (0 : Int32) := by simp only [fP_isEnabled, if_neg h1]
    exact ab_zret ckP_isEnabled rfl rfl (Or.inl rfl) ⟨(congrArg (fun q : Int32 => some (Value.int q)) e).symm, rfl⟩
  · refine ab_go 4 [] (pc' := 13) (lo' := [some (.ref 19)]) (st' := [.int (1 : Int32)]) (h' := cs_H c rest) ckP_isEnabled rfl ?_
    have e : fP_isEnabled c = (1 : Int32) := by simp only [fP_isEnabled, if_pos h1]
    exact ab_zret ckP_isEnabled rfl rfl (Or.inr rfl) ⟨(congrArg (fun q : Int32 => some (Value.int q)) e).symm, rfl⟩
def fP_isStageOn (c : cs_S)  : Int32 := (if (c.1 0 8) = (4 : Int32) then (1 : Int32) else (if (c.1 0 8) = (5 : Int32) then (1 : Int32) else (if (c.1 0 8) = (6 : Int32) then (1 : Int32) else (0 : Int32))))
theorem tP_isStageOn : ab_M X mP_isStageOn (d) 0 0 [.ref 19] (cs_H c rest) (fun r9 h9 => r9 = some (Value.int (fP_isStageOn c)) ∧ h9 = cs_H c rest) := by
  refine ab_entry (by decide) (Nat.le_of_ble_eq_true rfl) ?_
  refine ab_go 5 [] (pc' := 5) (lo' := [some (.ref 19)]) (st' := [.int (4 : Int32), .int (c.1 0 8)]) (h' := cs_H c rest) ckP_isStageOn rfl ?_
  refine ab_icmp_eq ckP_isStageOn rfl (fun (h1 : (c.1 0 8) = (4 : Int32)) => ?_) (fun (h1 : ¬ ((c.1 0 8) = (4 : Int32))) => ?_)
  · refine ab_go 4 [] (pc' := 30) (lo' := [some (.ref 19)]) (st' := [.int (1 : Int32)]) (h' := cs_H c rest) ckP_isStageOn rfl ?_
    have e : fP_isStageOn c = (1 : Int32) := by simp only [fP_isStageOn, if_pos h1]
    exact ab_zret ckP_isStageOn rfl rfl (Or.inr rfl) ⟨(congrArg (fun q : Int32 => some (Value.int q)) e).symm, rfl⟩
  · refine ab_go 5 [] (pc' := 13) (lo' := [some (.ref 19)]) (st' := [.int (5 : Int32), .int (c.1 0 8)]) (h' := cs_H c rest) ckP_isStageOn rfl ?_
    refine ab_icmp_eq ckP_isStageOn rfl (fun (h2 : (c.1 0 8) = (5 : Int32)) => ?_) (fun (h2 : ¬ ((c.1 0 8) = (5 : Int32))) => ?_)
    · refine ab_go 4 [] (pc' := 30) (lo' := [some (.ref 19)]) (st' := [.int (1 : Int32)]) (h' := cs_H c rest) ckP_isStageOn rfl ?_
      have e : fP_isStageOn c = (1 : Int32) := by simp only [fP_isStageOn, if_neg h1, if_pos h2]
      exact ab_zret ckP_isStageOn rfl rfl (Or.inr rfl) ⟨(congrArg (fun q : Int32 => some (Value.int q)) e).symm, rfl⟩
    · refine ab_go 5 [] (pc' := 22) (lo' := [some (.ref 19)]) (st' := [.int (6 : Int32), .int (c.1 0 8)]) (h' := cs_H c rest) ckP_isStageOn rfl ?_
      refine ab_icmp_ne ckP_isStageOn rfl (fun (h3 : ¬ ((c.1 0 8) = (6 : Int32))) => ?_) (fun (h3 : (c.1 0 8) = (6 : Int32)) => ?_)
      · refine ab_go 3 [] (pc' := 30) (lo' := [some (.ref 19)]) (st' := [.int (0 : Int32)]) (h' := cs_H c rest) ckP_isStageOn rfl ?_
        have e : fP_isStageOn c = (0 : Int32) := by simp only [fP_isStageOn, if_neg h1, if_neg h2, if_neg h3]
        exact ab_zret ckP_isStageOn rfl rfl (Or.inl rfl) ⟨(congrArg (fun q : Int32 => some (Value.int q)) e).symm, rfl⟩
      · refine ab_go 4 [] (pc' := 30) (lo' := [some (.ref 19)]) (st' := [.int (1 : Int32)]) (h' := cs_H c rest) ckP_isStageOn rfl ?_
        have e : fP_isStageOn c = (1 : Int32) := by simp only [fP_isStageOn, if_neg h1, if_neg h2, if_pos h3]
        exact ab_zret ckP_isStageOn rfl rfl (Or.inr rfl) ⟨(congrArg (fun q : Int32 => some (Value.int q)) e).symm, rfl⟩
def fP_fail (c : cs_S)  : Int32 × cs_S := (if (c.1 0 8) = (6 : Int32) then ((0 : Int32), c) else (if (c.1 0 8) = (7 : Int32) then ((0 : Int32), c) else (if (fP_isStageOn c) = 0 then ((1 : Int32), (cs_u c 0 8 (7 : Int32))) else ((1 : Int32), (cs_u c 0 8 (6 : Int32))))))
theorem tP_fail : ab_M X mP_fail (d + 1) 0 0 [.ref 19] (cs_H c rest) (fun r9 h9 => r9 = some (Value.int (fP_fail c).1) ∧ h9 = cs_H (fP_fail c).2 rest) := by
  refine ab_entry (by decide) (Nat.le_of_ble_eq_true rfl) ?_
  refine ab_go 5 [] (pc' := 6) (lo' := [some (.ref 19)]) (st' := [.int (6 : Int32), .int (c.1 0 8)]) (h' := cs_H c rest) ckP_fail rfl ?_
  refine ab_icmp_eq ckP_fail rfl (fun (h1 : (c.1 0 8) = (6 : Int32)) => ?_) (fun (h1 : ¬ ((c.1 0 8) = (6 : Int32))) => ?_)
  · refine ab_go 3 [] (pc' := 19) (lo' := [some (.ref 19)]) (st' := [.int (0 : Int32)]) (h' := cs_H c rest) ckP_fail rfl ?_
    have e : fP_fail c = ((0 : Int32), c) := by simp only [fP_fail, if_pos h1]
    exact ab_zret ckP_fail rfl rfl (Or.inl rfl) ⟨(congrArg (fun q : Int32 × cs_S => some (Value.int q.1)) e).symm, (congrArg (fun q : Int32 × cs_S => cs_H q.2 rest) e).symm⟩
  · refine ab_go 5 [] (pc' := 15) (lo' := [some (.ref 19)]) (st' := [.int (7 : Int32), .int (c.1 0 8)]) (h' := cs_H c rest) ckP_fail rfl ?_
    refine ab_icmp_ne ckP_fail rfl (fun (h2 : ¬ ((c.1 0 8) = (7 : Int32))) => ?_) (fun (h2 : (c.1 0 8) = (7 : Int32)) => ?_)
    · refine ab_go 4 [] (pc' := 22) (lo' := [some (.ref 19)]) (st' := [.ref 19, .ref 19]) (h' := cs_H c rest) ckP_fail rfl ?_
      refine ab_callV (bc2 := 0) (bs2 := 0) (as := []) (rest := [_]) ckP_fail rfl (by decide +kernel) wP_isStageOn (tP_isStageOn (d := d) (c := c)) rfl rfl (by omega) ⟨Nat.le_refl _, Nat.le_refl _⟩ (Nat.le_of_ble_eq_true rfl) ?_
      rintro _ _ ⟨rfl, rfl⟩
      refine ab_if_eq ckP_fail rfl (fun (h3 : (fP_isStageOn c) = 0) => ?_) (fun (h3 : ¬ ((fP_isStageOn c) = 0)) => ?_)
      · refine ab_go 5 [] (pc' := 39) (lo' := [some (.ref 19)]) (st' := [.int (1 : Int32)]) (h' := cs_H (cs_u c 0 8 (7 : Int32)) rest) ckP_fail rfl ?_
        have e : fP_fail c = ((1 : Int32), (cs_u c 0 8 (7 : Int32))) := by simp only [fP_fail, if_neg h1, if_neg h2, if_pos h3]
        exact ab_zret ckP_fail rfl rfl (Or.inr rfl) ⟨(congrArg (fun q : Int32 × cs_S => some (Value.int q.1)) e).symm, (congrArg (fun q : Int32 × cs_S => cs_H q.2 rest) e).symm⟩
      · refine ab_go 6 [] (pc' := 39) (lo' := [some (.ref 19)]) (st' := [.int (1 : Int32)]) (h' := cs_H (cs_u c 0 8 (6 : Int32)) rest) ckP_fail rfl ?_
        have e : fP_fail c = ((1 : Int32), (cs_u c 0 8 (6 : Int32))) := by simp only [fP_fail, if_neg h1, if_neg h2, if_neg h3]
        exact ab_zret ckP_fail rfl rfl (Or.inr rfl) ⟨(congrArg (fun q : Int32 × cs_S => some (Value.int q.1)) e).symm, (congrArg (fun q : Int32 × cs_S => cs_H q.2 rest) e).symm⟩
    · refine ab_go 3 [] (pc' := 19) (lo' := [some (.ref 19)]) (st' := [.int (0 : Int32)]) (h' := cs_H c rest) ckP_fail rfl ?_
      have e : fP_fail c = ((0 : Int32), c) := by simp only [fP_fail, if_neg h1, if_pos h2]
      exact ab_zret ckP_fail rfl rfl (Or.inl rfl) ⟨(congrArg (fun q : Int32 × cs_S => some (Value.int q.1)) e).symm, (congrArg (fun q : Int32 × cs_S => cs_H q.2 rest) e).symm⟩
def fP_orderOf (c : cs_S) (x1 : Int32) : Option (Int32 × cs_S) := (if (x1 &&& (128 : Int32)) = 0 then (if (x1 &&& (2 : Int32)) = 0 then (some ((2 : Int32), (cs_u c 0 9 (0 : Int32)))) else (if (x1 &&& (4 : Int32)) = 0 then (some ((3 : Int32), (cs_u c 0 9 (0 : Int32)))) else (if (x1 &&& (1 : Int32)) = 0 then (some ((4 : Int32), (cs_u c 0 9 (0 : Int32)))) else (if (x1 &&& (8 : Int32)) = 0 then (some ((5 : Int32), (cs_u c 0 9 (0 : Int32)))) else (some ((6 : Int32), (cs_u c 0 9 (0 : Int32)))))))) else (if (c.1 0 9) = 0 then (some ((1 : Int32), (cs_u c 0 9 (1 : Int32)))) else (some ((0 : Int32), (cs_u c 0 9 (1 : Int32))))))
theorem tP_orderOf {x1 : Int32} {v : Int32 × cs_S} (hv : fP_orderOf c x1 = some v) : ab_M X mP_orderOf (d) 0 0 [.ref 19, .int x1] (cs_H c rest) (fun r9 h9 => r9 = some (Value.int v.1) ∧ h9 = cs_H v.2 rest) := by
  refine ab_entry (by decide) (Nat.le_of_ble_eq_true rfl) ?_
  refine ab_go 5 [] (pc' := 5) (lo' := [some (.ref 19), some (.int x1), none, none]) (st' := [.int (x1 &&& (128 : Int32))]) (h' := cs_H c rest) ckP_orderOf rfl ?_
  refine ab_if_eq ckP_orderOf rfl (fun (h1 : (x1 &&& (128 : Int32)) = 0) => ?_) (fun (h1 : ¬ ((x1 &&& (128 : Int32)) = 0)) => ?_)
  · refine ab_go 5 [] (pc' := 15) (lo' := [some (.ref 19), some (.int x1), some (.int (0 : Int32)), none]) (st' := [.int (0 : Int32)]) (h' := cs_H c rest) ckP_orderOf rfl ?_
    refine ab_if_eq ckP_orderOf rfl (fun _ => ?_) (fun hh => absurd hh (by decide))
    refine ab_go 6 [] (pc' := 33) (lo' := [some (.ref 19), some (.int x1), some (.int (0 : Int32)), some (.int (0 : Int32))]) (st' := [.int (0 : Int32), .ref 19]) (h' := cs_H c rest) ckP_orderOf rfl ?_
    refine ab_putfR ckP_orderOf rfl rfl (Nat.le_of_ble_eq_true rfl) (ab_fitB (Or.inl rfl)) (fun q z => by cases z) ?_
    refine ab_go 3 [] (pc' := 37) (lo' := [some (.ref 19), some (.int x1), some (.int (0 : Int32)), some (.int (0 : Int32))]) (st' := [.int (0 : Int32)]) (h' := cs_H (cs_u c 0 9 (0 : Int32)) rest) ckP_orderOf rfl ?_
    refine ab_if_eq ckP_orderOf rfl (fun _ => ?_) (fun hh => absurd hh (by decide))
    refine ab_go 5 [] (pc' := 53) (lo' := [some (.ref 19), some (.int x1), some (.int (0 : Int32)), some (.int (0 : Int32))]) (st' := [.int (x1 &&& (2 : Int32))]) (h' := cs_H (cs_u c 0 9 (0 : Int32)) rest) ckP_orderOf rfl ?_
    refine ab_if_ne ckP_orderOf rfl (fun (h2 : ¬ ((x1 &&& (2 : Int32)) = 0)) => ?_) (fun (h2 : (x1 &&& (2 : Int32)) = 0) => ?_)
    · refine ab_go 5 [] (pc' := 61) (lo' := [some (.ref 19), some (.int x1), some (.int (0 : Int32)), some (.int (0 : Int32))]) (st' := [.int (x1 &&& (4 : Int32))]) (h' := cs_H (cs_u c 0 9 (0 : Int32)) rest) ckP_orderOf rfl ?_
      refine ab_if_ne ckP_orderOf rfl (fun (h3 : ¬ ((x1 &&& (4 : Int32)) = 0)) => ?_) (fun (h3 : (x1 &&& (4 : Int32)) = 0) => ?_)
      · refine ab_go 5 [] (pc' := 69) (lo' := [some (.ref 19), some (.int x1), some (.int (0 : Int32)), some (.int (0 : Int32))]) (st' := [.int (x1 &&& (1 : Int32))]) (h' := cs_H (cs_u c 0 9 (0 : Int32)) rest) ckP_orderOf rfl ?_
        refine ab_if_ne ckP_orderOf rfl (fun (h4 : ¬ ((x1 &&& (1 : Int32)) = 0)) => ?_) (fun (h4 : (x1 &&& (1 : Int32)) = 0) => ?_)
        · refine ab_go 5 [] (pc' := 78) (lo' := [some (.ref 19), some (.int x1), some (.int (0 : Int32)), some (.int (0 : Int32))]) (st' := [.int (x1 &&& (8 : Int32))]) (h' := cs_H (cs_u c 0 9 (0 : Int32)) rest) ckP_orderOf rfl ?_
          refine ab_if_ne ckP_orderOf rfl (fun (h5 : ¬ ((x1 &&& (8 : Int32)) = 0)) => ?_) (fun (h5 : (x1 &&& (8 : Int32)) = 0) => ?_)
          · refine ab_go 3 [] (pc' := 87) (lo' := [some (.ref 19), some (.int x1), some (.int (0 : Int32)), some (.int (0 : Int32))]) (st' := [.int (6 : Int32)]) (h' := cs_H (cs_u c 0 9 (0 : Int32)) rest) ckP_orderOf rfl ?_
            have e : fP_orderOf c x1 = some ((6 : Int32), (cs_u c 0 9 (0 : Int32))) := by simp only [fP_orderOf, if_pos h1, if_neg h2, if_neg h3, if_neg h4, if_neg h5]
            obtain rfl := Option.some.inj (e.symm.trans hv)
            exact ab_iret ckP_orderOf rfl rfl ⟨rfl, rfl⟩
          · refine ab_go 4 [] (pc' := 87) (lo' := [some (.ref 19), some (.int x1), some (.int (0 : Int32)), some (.int (0 : Int32))]) (st' := [.int (5 : Int32)]) (h' := cs_H (cs_u c 0 9 (0 : Int32)) rest) ckP_orderOf rfl ?_
            have e : fP_orderOf c x1 = some ((5 : Int32), (cs_u c 0 9 (0 : Int32))) := by simp only [fP_orderOf, if_pos h1, if_neg h2, if_neg h3, if_neg h4, if_pos h5]
            obtain rfl := Option.some.inj (e.symm.trans hv)
            exact ab_iret ckP_orderOf rfl rfl ⟨rfl, rfl⟩
        · refine ab_go 3 [] (pc' := 73) (lo' := [some (.ref 19), some (.int x1), some (.int (0 : Int32)), some (.int (0 : Int32))]) (st' := [.int (4 : Int32)]) (h' := cs_H (cs_u c 0 9 (0 : Int32)) rest) ckP_orderOf rfl ?_
          have e : fP_orderOf c x1 = some ((4 : Int32), (cs_u c 0 9 (0 : Int32))) := by simp only [fP_orderOf, if_pos h1, if_neg h2, if_neg h3, if_pos h4]
          obtain rfl := Option.some.inj (e.symm.trans hv)
          exact ab_iret ckP_orderOf rfl rfl ⟨rfl, rfl⟩
      · refine ab_go 3 [] (pc' := 65) (lo' := [some (.ref 19), some (.int x1), some (.int (0 : Int32)), some (.int (0 : Int32))]) (st' := [.int (3 : Int32)]) (h' := cs_H (cs_u c 0 9 (0 : Int32)) rest) ckP_orderOf rfl ?_
        have e : fP_orderOf c x1 = some ((3 : Int32), (cs_u c 0 9 (0 : Int32))) := by simp only [fP_orderOf, if_pos h1, if_neg h2, if_pos h3]
        obtain rfl := Option.some.inj (e.symm.trans hv)
        exact ab_iret ckP_orderOf rfl rfl ⟨rfl, rfl⟩
    · refine ab_go 3 [] (pc' := 57) (lo' := [some (.ref 19), some (.int x1), some (.int (0 : Int32)), some (.int (0 : Int32))]) (st' := [.int (2 : Int32)]) (h' := cs_H (cs_u c 0 9 (0 : Int32)) rest) ckP_orderOf rfl ?_
      have e : fP_orderOf c x1 = some ((2 : Int32), (cs_u c 0 9 (0 : Int32))) := by simp only [fP_orderOf, if_pos h1, if_pos h2]
      obtain rfl := Option.some.inj (e.symm.trans hv)
      exact ab_iret ckP_orderOf rfl rfl ⟨rfl, rfl⟩
  · refine ab_go 6 [] (pc' := 15) (lo' := [some (.ref 19), some (.int x1), some (.int (1 : Int32)), none]) (st' := [.int (1 : Int32)]) (h' := cs_H c rest) ckP_orderOf rfl ?_
    refine ab_if_eq ckP_orderOf rfl (fun hh => absurd hh (by decide)) (fun _ => ?_)
    refine ab_go 4 [] (pc' := 22) (lo' := [some (.ref 19), some (.int x1), some (.int (1 : Int32)), none]) (st' := [.int (c.1 0 9)]) (h' := cs_H c rest) ckP_orderOf rfl ?_
    refine ab_if_ne ckP_orderOf rfl (fun (h6 : ¬ ((c.1 0 9) = 0)) => ?_) (fun (h6 : (c.1 0 9) = 0) => ?_)
    · refine ab_go 6 [] (pc' := 33) (lo' := [some (.ref 19), some (.int x1), some (.int (1 : Int32)), some (.int (0 : Int32))]) (st' := [.int (1 : Int32), .ref 19]) (h' := cs_H c rest) ckP_orderOf rfl ?_
      refine ab_putfR ckP_orderOf rfl rfl (Nat.le_of_ble_eq_true rfl) (ab_fitB (Or.inr rfl)) (fun q z => by cases z) ?_
      refine ab_go 3 [] (pc' := 37) (lo' := [some (.ref 19), some (.int x1), some (.int (1 : Int32)), some (.int (0 : Int32))]) (st' := [.int (1 : Int32)]) (h' := cs_H (cs_u c 0 9 (1 : Int32)) rest) ckP_orderOf rfl ?_
      refine ab_if_eq ckP_orderOf rfl (fun hh => absurd hh (by decide)) (fun _ => ?_)
      refine ab_go 3 [] (pc' := 41) (lo' := [some (.ref 19), some (.int x1), some (.int (1 : Int32)), some (.int (0 : Int32))]) (st' := [.int (0 : Int32)]) (h' := cs_H (cs_u c 0 9 (1 : Int32)) rest) ckP_orderOf rfl ?_
      refine ab_if_eq ckP_orderOf rfl (fun _ => ?_) (fun hh => absurd hh (by decide))
      refine ab_go 3 [] (pc' := 49) (lo' := [some (.ref 19), some (.int x1), some (.int (1 : Int32)), some (.int (0 : Int32))]) (st' := [.int (0 : Int32)]) (h' := cs_H (cs_u c 0 9 (1 : Int32)) rest) ckP_orderOf rfl ?_
      have e : fP_orderOf c x1 = some ((0 : Int32), (cs_u c 0 9 (1 : Int32))) := by simp only [fP_orderOf, if_neg h1, if_neg h6]
      obtain rfl := Option.some.inj (e.symm.trans hv)
      exact ab_iret ckP_orderOf rfl rfl ⟨rfl, rfl⟩
    · refine ab_go 7 [] (pc' := 33) (lo' := [some (.ref 19), some (.int x1), some (.int (1 : Int32)), some (.int (1 : Int32))]) (st' := [.int (1 : Int32), .ref 19]) (h' := cs_H c rest) ckP_orderOf rfl ?_
      refine ab_putfR ckP_orderOf rfl rfl (Nat.le_of_ble_eq_true rfl) (ab_fitB (Or.inr rfl)) (fun q z => by cases z) ?_
      refine ab_go 3 [] (pc' := 37) (lo' := [some (.ref 19), some (.int x1), some (.int (1 : Int32)), some (.int (1 : Int32))]) (st' := [.int (1 : Int32)]) (h' := cs_H (cs_u c 0 9 (1 : Int32)) rest) ckP_orderOf rfl ?_
      refine ab_if_eq ckP_orderOf rfl (fun hh => absurd hh (by decide)) (fun _ => ?_)
      refine ab_go 3 [] (pc' := 41) (lo' := [some (.ref 19), some (.int x1), some (.int (1 : Int32)), some (.int (1 : Int32))]) (st' := [.int (1 : Int32)]) (h' := cs_H (cs_u c 0 9 (1 : Int32)) rest) ckP_orderOf rfl ?_
      refine ab_if_eq ckP_orderOf rfl (fun hh => absurd hh (by decide)) (fun _ => ?_)
      refine ab_go 4 [] (pc' := 49) (lo' := [some (.ref 19), some (.int x1), some (.int (1 : Int32)), some (.int (1 : Int32))]) (st' := [.int (1 : Int32)]) (h' := cs_H (cs_u c 0 9 (1 : Int32)) rest) ckP_orderOf rfl ?_
      have e : fP_orderOf c x1 = some ((1 : Int32), (cs_u c 0 9 (1 : Int32))) := by simp only [fP_orderOf, if_neg h1, if_pos h6]
      obtain rfl := Option.some.inj (e.symm.trans hv)
      exact ab_iret ckP_orderOf rfl rfl ⟨rfl, rfl⟩
def fP_afterReady (x1 : Int32) : Int32 := (if x1 = (5 : Int32) then (3 : Int32) else (if x1 = (6 : Int32) then (3 : Int32) else (if x1 = (2 : Int32) then (1 : Int32) else (if x1 = (3 : Int32) then (1 : Int32) else (2 : Int32)))))
theorem tP_afterReady {x1 : Int32} : ab_M X mP_afterReady (d) 0 0 [.int x1] (hp) (fun r9 h9 => r9 = some (Value.int (fP_afterReady x1)) ∧ h9 = hp) := by
  refine ab_entry (by decide) (Nat.le_of_ble_eq_true rfl) ?_
  refine ab_go 4 [] (pc' := 2) (lo' := [some (.int x1)]) (st' := [.int (5 : Int32), .int x1]) (h' := hp) ckP_afterReady rfl ?_
  refine ab_icmp_eq ckP_afterReady rfl (fun (h1 : x1 = (5 : Int32)) => ?_) (fun (h1 : ¬ (x1 = (5 : Int32))) => ?_)
  · refine ab_go 3 [] (pc' := 12) (lo' := [some (.int x1)]) (st' := [.int (3 : Int32)]) (h' := hp) ckP_afterReady rfl ?_
    have e : fP_afterReady x1 = (3 : Int32) := by simp only [fP_afterReady, if_pos h1]
    exact ab_iret ckP_afterReady rfl rfl ⟨(congrArg (fun q : Int32 => some (Value.int q)) e).symm, rfl⟩
  · refine ab_go 4 [] (pc' := 8) (lo' := [some (.int x1)]) (st' := [.int (6 : Int32), .int x1]) (h' := hp) ckP_afterReady rfl ?_
    refine ab_icmp_ne ckP_afterReady rfl (fun (h2 : ¬ (x1 = (6 : Int32))) => ?_) (fun (h2 : x1 = (6 : Int32)) => ?_)
    · refine ab_go 4 [] (pc' := 15) (lo' := [some (.int x1)]) (st' := [.int (2 : Int32), .int x1]) (h' := hp) ckP_afterReady rfl ?_
      refine ab_icmp_eq ckP_afterReady rfl (fun (h3 : x1 = (2 : Int32)) => ?_) (fun (h3 : ¬ (x1 = (2 : Int32))) => ?_)
      · refine ab_go 4 [] (pc' := 28) (lo' := [some (.int x1)]) (st' := [.int (1 : Int32)]) (h' := hp) ckP_afterReady rfl ?_
        have e : fP_afterReady x1 = (1 : Int32) := by simp only [fP_afterReady, if_neg h1, if_neg h2, if_pos h3]
        exact ab_iret ckP_afterReady rfl rfl ⟨(congrArg (fun q : Int32 => some (Value.int q)) e).symm, rfl⟩
      · refine ab_go 4 [] (pc' := 20) (lo' := [some (.int x1)]) (st' := [.int (3 : Int32), .int x1]) (h' := hp) ckP_afterReady rfl ?_
        refine ab_icmp_ne ckP_afterReady rfl (fun (h4 : ¬ (x1 = (3 : Int32))) => ?_) (fun (h4 : x1 = (3 : Int32)) => ?_)
        · refine ab_go 3 [] (pc' := 28) (lo' := [some (.int x1)]) (st' := [.int (2 : Int32)]) (h' := hp) ckP_afterReady rfl ?_
          have e : fP_afterReady x1 = (2 : Int32) := by simp only [fP_afterReady, if_neg h1, if_neg h2, if_neg h3, if_neg h4]
          exact ab_iret ckP_afterReady rfl rfl ⟨(congrArg (fun q : Int32 => some (Value.int q)) e).symm, rfl⟩
        · refine ab_go 4 [] (pc' := 28) (lo' := [some (.int x1)]) (st' := [.int (1 : Int32)]) (h' := hp) ckP_afterReady rfl ?_
          have e : fP_afterReady x1 = (1 : Int32) := by simp only [fP_afterReady, if_neg h1, if_neg h2, if_neg h3, if_pos h4]
          exact ab_iret ckP_afterReady rfl rfl ⟨(congrArg (fun q : Int32 => some (Value.int q)) e).symm, rfl⟩
    · refine ab_go 3 [] (pc' := 12) (lo' := [some (.int x1)]) (st' := [.int (3 : Int32)]) (h' := hp) ckP_afterReady rfl ?_
      have e : fP_afterReady x1 = (3 : Int32) := by simp only [fP_afterReady, if_neg h1, if_pos h2]
      exact ab_iret ckP_afterReady rfl rfl ⟨(congrArg (fun q : Int32 => some (Value.int q)) e).symm, rfl⟩
def fP_afterSwitchedOn (x1 : Int32) : Int32 := (if x1 = (2 : Int32) then (1 : Int32) else (if x1 = (3 : Int32) then (1 : Int32) else (if x1 = (4 : Int32) then (2 : Int32) else (if x1 = (5 : Int32) then (3 : Int32) else (if x1 = (6 : Int32) then (4 : Int32) else (3 : Int32))))))
theorem tP_afterSwitchedOn {x1 : Int32} : ab_M X mP_afterSwitchedOn (d) 0 0 [.int x1] (hp) (fun r9 h9 => r9 = some (Value.int (fP_afterSwitchedOn x1)) ∧ h9 = hp) := by
  refine ab_entry (by decide) (Nat.le_of_ble_eq_true rfl) ?_
  refine ab_go 3 [] (pc' := 1) (lo' := [some (.int x1)]) (st' := [.int x1]) (h' := hp) ckP_afterSwitchedOn rfl ?_
  by_cases h1 : x1 = (2 : Int32)
  · refine ab_tswI (tgt := 40) (off := 39) ckP_afterSwitchedOn rfl h1 (by decide) (by decide) rfl (by decide) ?_
    refine ab_go 3 [] (pc' := 41) (lo' := [some (.int x1)]) (st' := [.int (1 : Int32)]) (h' := hp) ckP_afterSwitchedOn rfl ?_
    have e : fP_afterSwitchedOn x1 = (1 : Int32) := by simp only [fP_afterSwitchedOn, if_pos h1]
    exact ab_iret ckP_afterSwitchedOn rfl rfl ⟨(congrArg (fun q : Int32 => some (Value.int q)) e).symm, rfl⟩
  by_cases h2 : x1 = (3 : Int32)
  · refine ab_tswI (tgt := 40) (off := 39) ckP_afterSwitchedOn rfl h2 (by decide) (by decide) rfl (by decide) ?_
    refine ab_go 3 [] (pc' := 41) (lo' := [some (.int x1)]) (st' := [.int (1 : Int32)]) (h' := hp) ckP_afterSwitchedOn rfl ?_
    have e : fP_afterSwitchedOn x1 = (1 : Int32) := by simp only [fP_afterSwitchedOn, if_neg h1, if_pos h2]
    exact ab_iret ckP_afterSwitchedOn rfl rfl ⟨(congrArg (fun q : Int32 => some (Value.int q)) e).symm, rfl⟩
  by_cases h3 : x1 = (4 : Int32)
  · refine ab_tswI (tgt := 38) (off := 37) ckP_afterSwitchedOn rfl h3 (by decide) (by decide) rfl (by decide) ?_
    refine ab_go 3 [] (pc' := 39) (lo' := [some (.int x1)]) (st' := [.int (2 : Int32)]) (h' := hp) ckP_afterSwitchedOn rfl ?_
    have e : fP_afterSwitchedOn x1 = (2 : Int32) := by simp only [fP_afterSwitchedOn, if_neg h1, if_neg h2, if_pos h3]
    exact ab_iret ckP_afterSwitchedOn rfl rfl ⟨(congrArg (fun q : Int32 => some (Value.int q)) e).symm, rfl⟩
  by_cases h4 : x1 = (5 : Int32)
  · refine ab_tswI (tgt := 42) (off := 41) ckP_afterSwitchedOn rfl h4 (by decide) (by decide) rfl (by decide) ?_
    refine ab_go 3 [] (pc' := 43) (lo' := [some (.int x1)]) (st' := [.int (3 : Int32)]) (h' := hp) ckP_afterSwitchedOn rfl ?_
    have e : fP_afterSwitchedOn x1 = (3 : Int32) := by simp only [fP_afterSwitchedOn, if_neg h1, if_neg h2, if_neg h3, if_pos h4]
    exact ab_iret ckP_afterSwitchedOn rfl rfl ⟨(congrArg (fun q : Int32 => some (Value.int q)) e).symm, rfl⟩
  by_cases h5 : x1 = (6 : Int32)
  · refine ab_tswI (tgt := 36) (off := 35) ckP_afterSwitchedOn rfl h5 (by decide) (by decide) rfl (by decide) ?_
    refine ab_go 3 [] (pc' := 37) (lo' := [some (.int x1)]) (st' := [.int (4 : Int32)]) (h' := hp) ckP_afterSwitchedOn rfl ?_
    have e : fP_afterSwitchedOn x1 = (4 : Int32) := by simp only [fP_afterSwitchedOn, if_neg h1, if_neg h2, if_neg h3, if_neg h4, if_pos h5]
    exact ab_iret ckP_afterSwitchedOn rfl rfl ⟨(congrArg (fun q : Int32 => some (Value.int q)) e).symm, rfl⟩
  refine ab_tswO (tgt := 42) ckP_afterSwitchedOn rfl (by have a0 := lv_neT h1 (show (2 : Int32).toInt = 2 by decide); have a1 := lv_neT h2 (show (3 : Int32).toInt = 3 by decide); have a2 := lv_neT h3 (show (4 : Int32).toInt = 4 by decide); have a3 := lv_neT h4 (show (5 : Int32).toInt = 5 by decide); have a4 := lv_neT h5 (show (6 : Int32).toInt = 6 by decide); omega) (by decide) ?_
  refine ab_go 3 [] (pc' := 43) (lo' := [some (.int x1)]) (st' := [.int (3 : Int32)]) (h' := hp) ckP_afterSwitchedOn rfl ?_
  have e : fP_afterSwitchedOn x1 = (3 : Int32) := by simp only [fP_afterSwitchedOn, if_neg h1, if_neg h2, if_neg h3, if_neg h4, if_neg h5]
  exact ab_iret ckP_afterSwitchedOn rfl rfl ⟨(congrArg (fun q : Int32 => some (Value.int q)) e).symm, rfl⟩
def fP_afterEnabled (x1 : Int32) : Int32 := (if x1 = (2 : Int32) then (1 : Int32) else (if x1 = (3 : Int32) then (5 : Int32) else (if x1 = (4 : Int32) then (2 : Int32) else (if x1 = (5 : Int32) then (3 : Int32) else (4 : Int32)))))
theorem tP_afterEnabled {x1 : Int32} : ab_M X mP_afterEnabled (d) 0 0 [.int x1] (hp) (fun r9 h9 => r9 = some (Value.int (fP_afterEnabled x1)) ∧ h9 = hp) := by
  refine ab_entry (by decide) (Nat.le_of_ble_eq_true rfl) ?_
  refine ab_go 3 [] (pc' := 1) (lo' := [some (.int x1)]) (st' := [.int x1]) (h' := hp) ckP_afterEnabled rfl ?_
  by_cases h1 : x1 = (2 : Int32)
  · refine ab_tswI (tgt := 36) (off := 35) ckP_afterEnabled rfl h1 (by decide) (by decide) rfl (by decide) ?_
    refine ab_go 3 [] (pc' := 37) (lo' := [some (.int x1)]) (st' := [.int (1 : Int32)]) (h' := hp) ckP_afterEnabled rfl ?_
    have e : fP_afterEnabled x1 = (1 : Int32) := by simp only [fP_afterEnabled, if_pos h1]
    exact ab_iret ckP_afterEnabled rfl rfl ⟨(congrArg (fun q : Int32 => some (Value.int q)) e).symm, rfl⟩
  by_cases h2 : x1 = (3 : Int32)
  · refine ab_tswI (tgt := 38) (off := 37) ckP_afterEnabled rfl h2 (by decide) (by decide) rfl (by decide) ?_
    refine ab_go 3 [] (pc' := 39) (lo' := [some (.int x1)]) (st' := [.int (5 : Int32)]) (h' := hp) ckP_afterEnabled rfl ?_
    have e : fP_afterEnabled x1 = (5 : Int32) := by simp only [fP_afterEnabled, if_neg h1, if_pos h2]
    exact ab_iret ckP_afterEnabled rfl rfl ⟨(congrArg (fun q : Int32 => some (Value.int q)) e).symm, rfl⟩
  by_cases h3 : x1 = (4 : Int32)
  · refine ab_tswI (tgt := 34) (off := 33) ckP_afterEnabled rfl h3 (by decide) (by decide) rfl (by decide) ?_
    refine ab_go 3 [] (pc' := 35) (lo' := [some (.int x1)]) (st' := [.int (2 : Int32)]) (h' := hp) ckP_afterEnabled rfl ?_
    have e : fP_afterEnabled x1 = (2 : Int32) := by simp only [fP_afterEnabled, if_neg h1, if_neg h2, if_pos h3]
    exact ab_iret ckP_afterEnabled rfl rfl ⟨(congrArg (fun q : Int32 => some (Value.int q)) e).symm, rfl⟩
  by_cases h4 : x1 = (5 : Int32)
  · refine ab_tswI (tgt := 32) (off := 31) ckP_afterEnabled rfl h4 (by decide) (by decide) rfl (by decide) ?_
    refine ab_go 3 [] (pc' := 33) (lo' := [some (.int x1)]) (st' := [.int (3 : Int32)]) (h' := hp) ckP_afterEnabled rfl ?_
    have e : fP_afterEnabled x1 = (3 : Int32) := by simp only [fP_afterEnabled, if_neg h1, if_neg h2, if_neg h3, if_pos h4]
    exact ab_iret ckP_afterEnabled rfl rfl ⟨(congrArg (fun q : Int32 => some (Value.int q)) e).symm, rfl⟩
  refine ab_tswO (tgt := 40) ckP_afterEnabled rfl (by have a0 := lv_neT h1 (show (2 : Int32).toInt = 2 by decide); have a1 := lv_neT h2 (show (3 : Int32).toInt = 3 by decide); have a2 := lv_neT h3 (show (4 : Int32).toInt = 4 by decide); have a3 := lv_neT h4 (show (5 : Int32).toInt = 5 by decide); omega) (by decide) ?_
  refine ab_go 3 [] (pc' := 41) (lo' := [some (.int x1)]) (st' := [.int (4 : Int32)]) (h' := hp) ckP_afterEnabled rfl ?_
  have e : fP_afterEnabled x1 = (4 : Int32) := by simp only [fP_afterEnabled, if_neg h1, if_neg h2, if_neg h3, if_neg h4]
  exact ab_iret ckP_afterEnabled rfl rfl ⟨(congrArg (fun q : Int32 => some (Value.int q)) e).symm, rfl⟩
def fP_stateAfter (c : cs_S) (x1 : Int32) (x2 : Int32) : Int32 := (if (c.1 0 8) = (1 : Int32) then (if x1 = (4 : Int32) then (2 : Int32) else (1 : Int32)) else (if (c.1 0 8) = (2 : Int32) then (fP_afterReady x1) else (if (c.1 0 8) = (3 : Int32) then (fP_afterSwitchedOn x1) else (if (c.1 0 8) = (4 : Int32) then (fP_afterEnabled x1) else (if (c.1 0 8) = (5 : Int32) then (if x1 = (2 : Int32) then (1 : Int32) else (if x2 = 0 then (5 : Int32) else (1 : Int32))) else (if (c.1 0 8) = (6 : Int32) then (if x2 = 0 then (6 : Int32) else (7 : Int32)) else (if x1 = (1 : Int32) then (1 : Int32) else (7 : Int32))))))))
theorem tP_stateAfter {x1 : Int32} {x2 : Int32} : ab_M X mP_stateAfter (d + 1) 0 0 [.ref 19, .int x1, .int x2] (cs_H c rest) (fun r9 h9 => r9 = some (Value.int (fP_stateAfter c x1 x2)) ∧ h9 = cs_H c rest) := by
  refine ab_entry (by decide) (Nat.le_of_ble_eq_true rfl) ?_
  refine ab_go 4 [] (pc' := 4) (lo' := [some (.ref 19), some (.int x1), some (.int x2)]) (st' := [.int (c.1 0 8)]) (h' := cs_H c rest) ckP_stateAfter rfl ?_
  by_cases h1 : (c.1 0 8) = (1 : Int32)
  · refine ab_tswI (tgt := 44) (off := 40) ckP_stateAfter rfl h1 (by decide) (by decide) rfl (by decide) ?_
    refine ab_go 4 [] (pc' := 46) (lo' := [some (.ref 19), some (.int x1), some (.int x2)]) (st' := [.int (4 : Int32), .int x1]) (h' := cs_H c rest) ckP_stateAfter rfl ?_
    refine ab_icmp_ne ckP_stateAfter rfl (fun (h2 : ¬ (x1 = (4 : Int32))) => ?_) (fun (h2 : x1 = (4 : Int32)) => ?_)
    · refine ab_go 3 [] (pc' := 54) (lo' := [some (.ref 19), some (.int x1), some (.int x2)]) (st' := [.int (1 : Int32)]) (h' := cs_H c rest) ckP_stateAfter rfl ?_
      have e : fP_stateAfter c x1 x2 = (1 : Int32) := by simp only [fP_stateAfter, if_pos h1, if_neg h2]
      exact ab_iret ckP_stateAfter rfl rfl ⟨(congrArg (fun q : Int32 => some (Value.int q)) e).symm, rfl⟩
    · refine ab_go 4 [] (pc' := 54) (lo' := [some (.ref 19), some (.int x1), some (.int x2)]) (st' := [.int (2 : Int32)]) (h' := cs_H c rest) ckP_stateAfter rfl ?_
      have e : fP_stateAfter c x1 x2 = (2 : Int32) := by simp only [fP_stateAfter, if_pos h1, if_pos h2]
      exact ab_iret ckP_stateAfter rfl rfl ⟨(congrArg (fun q : Int32 => some (Value.int q)) e).symm, rfl⟩
  by_cases h3 : (c.1 0 8) = (2 : Int32)
  · refine ab_tswI (tgt := 55) (off := 51) ckP_stateAfter rfl h3 (by decide) (by decide) rfl (by decide) ?_
    refine ab_go 3 [] (pc' := 56) (lo' := [some (.ref 19), some (.int x1), some (.int x2)]) (st' := [.int x1]) (h' := cs_H c rest) ckP_stateAfter rfl ?_
    refine ab_callS (bc2 := 0) (bs2 := 0) (as := [_]) (rest := []) ckP_stateAfter rfl (by decide +kernel) wP_afterReady (tP_afterReady (d := d) (x1 := x1)) (by omega) ⟨Nat.le_refl _, Nat.le_refl _⟩ (Nat.le_of_ble_eq_true rfl) ?_
    rintro _ _ ⟨rfl, rfl⟩
    have e : fP_stateAfter c x1 x2 = (fP_afterReady x1) := by simp only [fP_stateAfter, if_neg h1, if_pos h3]
    exact ab_iret ckP_stateAfter rfl rfl ⟨(congrArg (fun q : Int32 => some (Value.int q)) e).symm, rfl⟩
  by_cases h4 : (c.1 0 8) = (3 : Int32)
  · refine ab_tswI (tgt := 60) (off := 56) ckP_stateAfter rfl h4 (by decide) (by decide) rfl (by decide) ?_
    refine ab_go 3 [] (pc' := 61) (lo' := [some (.ref 19), some (.int x1), some (.int x2)]) (st' := [.int x1]) (h' := cs_H c rest) ckP_stateAfter rfl ?_
    refine ab_callS (bc2 := 0) (bs2 := 0) (as := [_]) (rest := []) ckP_stateAfter rfl (by decide +kernel) wP_afterSwitchedOn (tP_afterSwitchedOn (d := d) (x1 := x1)) (by omega) ⟨Nat.le_refl _, Nat.le_refl _⟩ (Nat.le_of_ble_eq_true rfl) ?_
    rintro _ _ ⟨rfl, rfl⟩
    have e : fP_stateAfter c x1 x2 = (fP_afterSwitchedOn x1) := by simp only [fP_stateAfter, if_neg h1, if_neg h3, if_pos h4]
    exact ab_iret ckP_stateAfter rfl rfl ⟨(congrArg (fun q : Int32 => some (Value.int q)) e).symm, rfl⟩
  by_cases h5 : (c.1 0 8) = (4 : Int32)
  · refine ab_tswI (tgt := 65) (off := 61) ckP_stateAfter rfl h5 (by decide) (by decide) rfl (by decide) ?_
    refine ab_go 3 [] (pc' := 66) (lo' := [some (.ref 19), some (.int x1), some (.int x2)]) (st' := [.int x1]) (h' := cs_H c rest) ckP_stateAfter rfl ?_
    refine ab_callS (bc2 := 0) (bs2 := 0) (as := [_]) (rest := []) ckP_stateAfter rfl (by decide +kernel) wP_afterEnabled (tP_afterEnabled (d := d) (x1 := x1)) (by omega) ⟨Nat.le_refl _, Nat.le_refl _⟩ (Nat.le_of_ble_eq_true rfl) ?_
    rintro _ _ ⟨rfl, rfl⟩
    have e : fP_stateAfter c x1 x2 = (fP_afterEnabled x1) := by simp only [fP_stateAfter, if_neg h1, if_neg h3, if_neg h4, if_pos h5]
    exact ab_iret ckP_stateAfter rfl rfl ⟨(congrArg (fun q : Int32 => some (Value.int q)) e).symm, rfl⟩
  by_cases h6 : (c.1 0 8) = (5 : Int32)
  · refine ab_tswI (tgt := 70) (off := 66) ckP_stateAfter rfl h6 (by decide) (by decide) rfl (by decide) ?_
    refine ab_go 4 [] (pc' := 72) (lo' := [some (.ref 19), some (.int x1), some (.int x2)]) (st' := [.int (2 : Int32), .int x1]) (h' := cs_H c rest) ckP_stateAfter rfl ?_
    refine ab_icmp_eq ckP_stateAfter rfl (fun (h7 : x1 = (2 : Int32)) => ?_) (fun (h7 : ¬ (x1 = (2 : Int32))) => ?_)
    · refine ab_go 4 [] (pc' := 84) (lo' := [some (.ref 19), some (.int x1), some (.int x2)]) (st' := [.int (1 : Int32)]) (h' := cs_H c rest) ckP_stateAfter rfl ?_
      have e : fP_stateAfter c x1 x2 = (1 : Int32) := by simp only [fP_stateAfter, if_neg h1, if_neg h3, if_neg h4, if_neg h5, if_pos h6, if_pos h7]
      exact ab_iret ckP_stateAfter rfl rfl ⟨(congrArg (fun q : Int32 => some (Value.int q)) e).symm, rfl⟩
    · refine ab_go 3 [] (pc' := 76) (lo' := [some (.ref 19), some (.int x1), some (.int x2)]) (st' := [.int x2]) (h' := cs_H c rest) ckP_stateAfter rfl ?_
      refine ab_if_eq ckP_stateAfter rfl (fun (h8 : x2 = 0) => ?_) (fun (h8 : ¬ (x2 = 0)) => ?_)
      · refine ab_go 3 [] (pc' := 84) (lo' := [some (.ref 19), some (.int x1), some (.int x2)]) (st' := [.int (5 : Int32)]) (h' := cs_H c rest) ckP_stateAfter rfl ?_
        have e : fP_stateAfter c x1 x2 = (5 : Int32) := by simp only [fP_stateAfter, if_neg h1, if_neg h3, if_neg h4, if_neg h5, if_pos h6, if_neg h7, if_pos h8]
        exact ab_iret ckP_stateAfter rfl rfl ⟨(congrArg (fun q : Int32 => some (Value.int q)) e).symm, rfl⟩
      · refine ab_go 4 [] (pc' := 84) (lo' := [some (.ref 19), some (.int x1), some (.int x2)]) (st' := [.int (1 : Int32)]) (h' := cs_H c rest) ckP_stateAfter rfl ?_
        have e : fP_stateAfter c x1 x2 = (1 : Int32) := by simp only [fP_stateAfter, if_neg h1, if_neg h3, if_neg h4, if_neg h5, if_pos h6, if_neg h7, if_neg h8]
        exact ab_iret ckP_stateAfter rfl rfl ⟨(congrArg (fun q : Int32 => some (Value.int q)) e).symm, rfl⟩
  by_cases h9 : (c.1 0 8) = (6 : Int32)
  · refine ab_tswI (tgt := 85) (off := 81) ckP_stateAfter rfl h9 (by decide) (by decide) rfl (by decide) ?_
    refine ab_go 3 [] (pc' := 86) (lo' := [some (.ref 19), some (.int x1), some (.int x2)]) (st' := [.int x2]) (h' := cs_H c rest) ckP_stateAfter rfl ?_
    refine ab_if_eq ckP_stateAfter rfl (fun (h10 : x2 = 0) => ?_) (fun (h10 : ¬ (x2 = 0)) => ?_)
    · refine ab_go 3 [] (pc' := 96) (lo' := [some (.ref 19), some (.int x1), some (.int x2)]) (st' := [.int (6 : Int32)]) (h' := cs_H c rest) ckP_stateAfter rfl ?_
      have e : fP_stateAfter c x1 x2 = (6 : Int32) := by simp only [fP_stateAfter, if_neg h1, if_neg h3, if_neg h4, if_neg h5, if_neg h6, if_pos h9, if_pos h10]
      exact ab_iret ckP_stateAfter rfl rfl ⟨(congrArg (fun q : Int32 => some (Value.int q)) e).symm, rfl⟩
    · refine ab_go 4 [] (pc' := 96) (lo' := [some (.ref 19), some (.int x1), some (.int x2)]) (st' := [.int (7 : Int32)]) (h' := cs_H c rest) ckP_stateAfter rfl ?_
      have e : fP_stateAfter c x1 x2 = (7 : Int32) := by simp only [fP_stateAfter, if_neg h1, if_neg h3, if_neg h4, if_neg h5, if_neg h6, if_pos h9, if_neg h10]
      exact ab_iret ckP_stateAfter rfl rfl ⟨(congrArg (fun q : Int32 => some (Value.int q)) e).symm, rfl⟩
  refine ab_tswO (tgt := 97) ckP_stateAfter rfl (by have a0 := lv_neT h1 (show (1 : Int32).toInt = 1 by decide); have a1 := lv_neT h3 (show (2 : Int32).toInt = 2 by decide); have a2 := lv_neT h4 (show (3 : Int32).toInt = 3 by decide); have a3 := lv_neT h5 (show (4 : Int32).toInt = 4 by decide); have a4 := lv_neT h6 (show (5 : Int32).toInt = 5 by decide); have a5 := lv_neT h9 (show (6 : Int32).toInt = 6 by decide); omega) (by decide) ?_
  refine ab_go 4 [] (pc' := 99) (lo' := [some (.ref 19), some (.int x1), some (.int x2)]) (st' := [.int (1 : Int32), .int x1]) (h' := cs_H c rest) ckP_stateAfter rfl ?_
  refine ab_icmp_ne ckP_stateAfter rfl (fun (h11 : ¬ (x1 = (1 : Int32))) => ?_) (fun (h11 : x1 = (1 : Int32)) => ?_)
  · refine ab_go 3 [] (pc' := 108) (lo' := [some (.ref 19), some (.int x1), some (.int x2)]) (st' := [.int (7 : Int32)]) (h' := cs_H c rest) ckP_stateAfter rfl ?_
    have e : fP_stateAfter c x1 x2 = (7 : Int32) := by simp only [fP_stateAfter, if_neg h1, if_neg h3, if_neg h4, if_neg h5, if_neg h6, if_neg h9, if_neg h11]
    exact ab_iret ckP_stateAfter rfl rfl ⟨(congrArg (fun q : Int32 => some (Value.int q)) e).symm, rfl⟩
  · refine ab_go 4 [] (pc' := 108) (lo' := [some (.ref 19), some (.int x1), some (.int x2)]) (st' := [.int (1 : Int32)]) (h' := cs_H c rest) ckP_stateAfter rfl ?_
    have e : fP_stateAfter c x1 x2 = (1 : Int32) := by simp only [fP_stateAfter, if_neg h1, if_neg h3, if_neg h4, if_neg h5, if_neg h6, if_neg h9, if_pos h11]
    exact ab_iret ckP_stateAfter rfl rfl ⟨(congrArg (fun q : Int32 => some (Value.int q)) e).symm, rfl⟩
def fP_obey (c : cs_S) (x1 : Int32) (x2 : Int32) : Int32 × cs_S := (if (c.1 0 8) = (7 : Int32) then (if (fP_stateAfter c x1 x2) = (7 : Int32) then ((0 : Int32), (cs_u c 0 8 (fP_stateAfter c x1 x2))) else ((1 : Int32), (cs_u c 0 8 (fP_stateAfter c x1 x2)))) else ((0 : Int32), (cs_u c 0 8 (fP_stateAfter c x1 x2))))
theorem tP_obey {x1 : Int32} {x2 : Int32} : ab_M X mP_obey (d + 2) 0 0 [.ref 19, .int x1, .int x2] (cs_H c rest) (fun r9 h9 => r9 = some (Value.int (fP_obey c x1 x2).1) ∧ h9 = cs_H (fP_obey c x1 x2).2 rest) := by
  refine ab_entry (by decide) (Nat.le_of_ble_eq_true rfl) ?_
  refine ab_go 5 [] (pc' := 6) (lo' := [some (.ref 19), some (.int x1), some (.int x2), none]) (st' := [.int (7 : Int32), .int (c.1 0 8)]) (h' := cs_H c rest) ckP_obey rfl ?_
  refine ab_icmp_ne ckP_obey rfl (fun (h1 : ¬ ((c.1 0 8) = (7 : Int32))) => ?_) (fun (h1 : (c.1 0 8) = (7 : Int32)) => ?_)
  · refine ab_go 8 [] (pc' := 19) (lo' := [some (.ref 19), some (.int x1), some (.int x2), some (.int (0 : Int32))]) (st' := [.int x2, .int x1, .ref 19, .ref 19]) (h' := cs_H c rest) ckP_obey rfl ?_
    refine ab_callV (bc2 := 0) (bs2 := 0) (as := [_, _]) (rest := [_]) ckP_obey rfl (by decide +kernel) wP_stateAfter (tP_stateAfter (d := d) (x1 := x1) (x2 := x2) (c := c)) rfl rfl (by omega) ⟨Nat.le_refl _, Nat.le_refl _⟩ (Nat.le_of_ble_eq_true rfl) ?_
    rintro _ _ ⟨rfl, rfl⟩
    refine ab_go 4 [] (pc' := 26) (lo' := [some (.ref 19), some (.int x1), some (.int x2), some (.int (0 : Int32))]) (st' := [.int (0 : Int32)]) (h' := cs_H (cs_u c 0 8 (fP_stateAfter c x1 x2)) rest) ckP_obey rfl ?_
    refine ab_if_eq ckP_obey rfl (fun _ => ?_) (fun hh => absurd hh (by decide))
    refine ab_go 3 [] (pc' := 43) (lo' := [some (.ref 19), some (.int x1), some (.int x2), some (.int (0 : Int32))]) (st' := [.int (0 : Int32)]) (h' := cs_H (cs_u c 0 8 (fP_stateAfter c x1 x2)) rest) ckP_obey rfl ?_
    have e : fP_obey c x1 x2 = ((0 : Int32), (cs_u c 0 8 (fP_stateAfter c x1 x2))) := by simp only [fP_obey, if_neg h1]
    exact ab_zret ckP_obey rfl rfl (Or.inl rfl) ⟨(congrArg (fun q : Int32 × cs_S => some (Value.int q.1)) e).symm, (congrArg (fun q : Int32 × cs_S => cs_H q.2 rest) e).symm⟩
  · refine ab_go 9 [] (pc' := 19) (lo' := [some (.ref 19), some (.int x1), some (.int x2), some (.int (1 : Int32))]) (st' := [.int x2, .int x1, .ref 19, .ref 19]) (h' := cs_H c rest) ckP_obey rfl ?_
    refine ab_callV (bc2 := 0) (bs2 := 0) (as := [_, _]) (rest := [_]) ckP_obey rfl (by decide +kernel) wP_stateAfter (tP_stateAfter (d := d) (x1 := x1) (x2 := x2) (c := c)) rfl rfl (by omega) ⟨Nat.le_refl _, Nat.le_refl _⟩ (Nat.le_of_ble_eq_true rfl) ?_
    rintro _ _ ⟨rfl, rfl⟩
    refine ab_go 4 [] (pc' := 26) (lo' := [some (.ref 19), some (.int x1), some (.int x2), some (.int (1 : Int32))]) (st' := [.int (1 : Int32)]) (h' := cs_H (cs_u c 0 8 (fP_stateAfter c x1 x2)) rest) ckP_obey rfl ?_
    refine ab_if_eq ckP_obey rfl (fun hh => absurd hh (by decide)) (fun _ => ?_)
    refine ab_go 5 [] (pc' := 35) (lo' := [some (.ref 19), some (.int x1), some (.int x2), some (.int (1 : Int32))]) (st' := [.int (7 : Int32), .int (fP_stateAfter c x1 x2)]) (h' := cs_H (cs_u c 0 8 (fP_stateAfter c x1 x2)) rest) ckP_obey rfl ?_
    refine ab_icmp_eq ckP_obey rfl (fun (h2 : (fP_stateAfter c x1 x2) = (7 : Int32)) => ?_) (fun (h2 : ¬ ((fP_stateAfter c x1 x2) = (7 : Int32))) => ?_)
    · refine ab_go 3 [] (pc' := 43) (lo' := [some (.ref 19), some (.int x1), some (.int x2), some (.int (1 : Int32))]) (st' := [.int (0 : Int32)]) (h' := cs_H (cs_u c 0 8 (fP_stateAfter c x1 x2)) rest) ckP_obey rfl ?_
      have e : fP_obey c x1 x2 = ((0 : Int32), (cs_u c 0 8 (fP_stateAfter c x1 x2))) := by simp only [fP_obey, if_pos h1, if_pos h2]
      exact ab_zret ckP_obey rfl rfl (Or.inl rfl) ⟨(congrArg (fun q : Int32 × cs_S => some (Value.int q.1)) e).symm, (congrArg (fun q : Int32 × cs_S => cs_H q.2 rest) e).symm⟩
    · refine ab_go 4 [] (pc' := 43) (lo' := [some (.ref 19), some (.int x1), some (.int x2), some (.int (1 : Int32))]) (st' := [.int (1 : Int32)]) (h' := cs_H (cs_u c 0 8 (fP_stateAfter c x1 x2)) rest) ckP_obey rfl ?_
      have e : fP_obey c x1 x2 = ((1 : Int32), (cs_u c 0 8 (fP_stateAfter c x1 x2))) := by simp only [fP_obey, if_pos h1, if_neg h2]
      exact ab_zret ckP_obey rfl rfl (Or.inr rfl) ⟨(congrArg (fun q : Int32 × cs_S => some (Value.int q.1)) e).symm, (congrArg (fun q : Int32 × cs_S => cs_H q.2 rest) e).symm⟩
def fH_arm (c : cs_S)  : cs_S := (cs_u (cs_u c 0 11 (1 : Int32)) 0 12 (0 : Int32))
theorem tH_arm : ab_M X mH_arm (d) 0 0 [.ref 21] (cs_H c rest) (fun r9 h9 => r9 = none ∧ h9 = cs_H (fH_arm c) rest) := by
  refine ab_entry (by decide) (Nat.le_of_ble_eq_true rfl) ?_
  refine ab_go 8 [] (pc' := 10) (lo' := [some (.ref 21)]) (st' := []) (h' := cs_H (cs_u (cs_u c 0 11 (1 : Int32)) 0 12 (0 : Int32)) rest) ckH_arm rfl ?_
  have e : fH_arm c = (cs_u (cs_u c 0 11 (1 : Int32)) 0 12 (0 : Int32)) := by simp only [fH_arm]
  exact ab_vret ckH_arm rfl rfl ⟨rfl, (congrArg (fun q : cs_S => cs_H q rest) e).symm⟩
def fH_disarm (c : cs_S)  : cs_S := (cs_u c 0 11 (0 : Int32))
theorem tH_disarm : ab_M X mH_disarm (d) 0 0 [.ref 21] (cs_H c rest) (fun r9 h9 => r9 = none ∧ h9 = cs_H (fH_disarm c) rest) := by
  refine ab_entry (by decide) (Nat.le_of_ble_eq_true rfl) ?_
  refine ab_go 5 [] (pc' := 5) (lo' := [some (.ref 21)]) (st' := []) (h' := cs_H (cs_u c 0 11 (0 : Int32)) rest) ckH_disarm rfl ?_
  have e : fH_disarm c = (cs_u c 0 11 (0 : Int32)) := by simp only [fH_disarm]
  exact ab_vret ckH_disarm rfl rfl ⟨rfl, (congrArg (fun q : cs_S => cs_H q rest) e).symm⟩
def fH_runsOut (c : cs_S) (x1 : Int32) : Int32 × cs_S := (if (c.1 0 11) = 0 then ((0 : Int32), c) else (if x1 ≤ ((c.1 0 12) + (1 : Int32)) then (let p1 := fH_disarm (cs_u c 0 12 ((c.1 0 12) + (1 : Int32))); ((1 : Int32), p1)) else ((0 : Int32), (cs_u c 0 12 ((c.1 0 12) + (1 : Int32))))))
theorem tH_runsOut {x1 : Int32} : ab_M X mH_runsOut (d + 1) 0 0 [.ref 21, .int x1] (cs_H c rest) (fun r9 h9 => r9 = some (Value.int (fH_runsOut c x1).1) ∧ h9 = cs_H (fH_runsOut c x1).2 rest) := by
  refine ab_entry (by decide) (Nat.le_of_ble_eq_true rfl) ?_
  refine ab_go 4 [] (pc' := 4) (lo' := [some (.ref 21), some (.int x1)]) (st' := [.int (c.1 0 11)]) (h' := cs_H c rest) ckH_runsOut rfl ?_
  refine ab_if_ne ckH_runsOut rfl (fun (h1 : ¬ ((c.1 0 11) = 0)) => ?_) (fun (h1 : (c.1 0 11) = 0) => ?_)
  · refine ab_go 11 [] (pc' := 24) (lo' := [some (.ref 21), some (.int x1)]) (st' := [.int x1, .int ((c.1 0 12) + (1 : Int32))]) (h' := cs_H (cs_u c 0 12 ((c.1 0 12) + (1 : Int32))) rest) ckH_runsOut rfl ?_
    refine ab_icmp_ge ckH_runsOut rfl (fun (h2 : x1 ≤ ((c.1 0 12) + (1 : Int32))) => ?_) (fun (h2 : ¬ (x1 ≤ ((c.1 0 12) + (1 : Int32)))) => ?_)
    · refine ab_go 3 [] (pc' := 30) (lo' := [some (.ref 21), some (.int x1)]) (st' := [.ref 21]) (h' := cs_H (cs_u c 0 12 ((c.1 0 12) + (1 : Int32))) rest) ckH_runsOut rfl ?_
      refine ab_callV (bc2 := 0) (bs2 := 0) (as := []) (rest := []) ckH_runsOut rfl (by decide +kernel) wH_disarm (tH_disarm (d := d) (c := (cs_u c 0 12 ((c.1 0 12) + (1 : Int32))))) rfl rfl (by omega) ⟨Nat.le_refl _, Nat.le_refl _⟩ (Nat.le_of_ble_eq_true rfl) ?_
      rintro _ _ ⟨rfl, rfl⟩
      generalize e1 : fH_disarm (cs_u c 0 12 ((c.1 0 12) + (1 : Int32))) = p1
      refine ab_go 3 [] (pc' := 34) (lo' := [some (.ref 21), some (.int x1)]) (st' := [.int (1 : Int32)]) (h' := cs_H p1 rest) ckH_runsOut rfl ?_
      have e : fH_runsOut c x1 = ((1 : Int32), p1) := by simp only [fH_runsOut, if_neg h1, if_pos h2, e1]
      exact ab_zret ckH_runsOut rfl rfl (Or.inr rfl) ⟨(congrArg (fun q : Int32 × cs_S => some (Value.int q.1)) e).symm, (congrArg (fun q : Int32 × cs_S => cs_H q.2 rest) e).symm⟩
    · refine ab_go 3 [] (pc' := 28) (lo' := [some (.ref 21), some (.int x1)]) (st' := [.int (0 : Int32)]) (h' := cs_H (cs_u c 0 12 ((c.1 0 12) + (1 : Int32))) rest) ckH_runsOut rfl ?_
      have e : fH_runsOut c x1 = ((0 : Int32), (cs_u c 0 12 ((c.1 0 12) + (1 : Int32)))) := by simp only [fH_runsOut, if_neg h1, if_neg h2]
      exact ab_zret ckH_runsOut rfl rfl (Or.inl rfl) ⟨(congrArg (fun q : Int32 × cs_S => some (Value.int q.1)) e).symm, (congrArg (fun q : Int32 × cs_S => cs_H q.2 rest) e).symm⟩
  · refine ab_go 3 [] (pc' := 8) (lo' := [some (.ref 21), some (.int x1)]) (st' := [.int (0 : Int32)]) (h' := cs_H c rest) ckH_runsOut rfl ?_
    have e : fH_runsOut c x1 = ((0 : Int32), c) := by simp only [fH_runsOut, if_pos h1]
    exact ab_zret ckH_runsOut rfl rfl (Or.inl rfl) ⟨(congrArg (fun q : Int32 × cs_S => some (Value.int q.1)) e).symm, (congrArg (fun q : Int32 × cs_S => cs_H q.2 rest) e).symm⟩
def fC_find_33 : Nat → Int32 → Int32 → Option (Int32)
  | 0, _, _ => none
  | n + 1, y2, y3 => (if (30 : Int32) ≤ y3 then (some (-1 : Int32)) else (if ab_inb (y3 * (6 : Int32)) 180 = true then (if (tabF ((y3 * (6 : Int32))).toNatClampNeg) = y2 then (some y3) else fC_find_33 n y2 (y3 + (1 : Int32))) else none))
def fC_find (x1 : Int32) (x2 : Int32) : Option (Int32) := (if x1 < 0 then (some (-1 : Int32)) else (if (65535 : Int32) < x1 then (some (-1 : Int32)) else (if x2 < 0 then (some (-1 : Int32)) else (if x2 ≤ (255 : Int32) then fC_find_33 40 ((x1 * (256 : Int32)) + x2) (0 : Int32) else (some (-1 : Int32))))))
theorem tC_find_33 (hX : cs_X X) (n : Nat)   : ∀  (y2 : Int32) (y3 : Int32)  (v : Int32) (hv : fC_find_33 n y2 y3 = some v), ab_W X mC_find (d) 0 0 33 [none, none, some (.int y2), some (.int y3)] [] (hp) (fun r9 h9 => r9 = some (Value.int v) ∧ h9 = hp) := by
  induction n with
  | zero =>
    intro y2 y3 v hv
    cases hv
  | succ n ih =>
    intro y2 y3 v hv
    refine ab_go 4 [33] (pc' := 36) (lo' := [none, none, some (.int y2), some (.int y3)]) (st' := [.int (30 : Int32), .int y3]) (h' := hp) ckC_find rfl ?_
    refine ab_icmp_ge ckC_find rfl (fun (h1 : (30 : Int32) ≤ y3) => ?_) (fun (h1 : ¬ ((30 : Int32) ≤ y3)) => ?_)
    · refine ab_go 3 [33] (pc' := 60) (lo' := [none, none, some (.int y2), some (.int y3)]) (st' := [.int (-1 : Int32)]) (h' := hp) ckC_find rfl ?_
      have e : fC_find_33 (n + 1) y2 y3 = some (-1 : Int32) := by simp only [fC_find_33, if_pos h1]
      obtain rfl := Option.some.inj (e.symm.trans hv)
      exact ab_iret ckC_find rfl rfl ⟨rfl, rfl⟩
    · refine ab_go 6 [33] (pc' := 46) (lo' := [none, none, some (.int y2), some (.int y3)]) (st' := [.int (y3 * (6 : Int32)), .ref 0]) (h' := hp) ckC_find rfl ?_
      by_cases h2 : ab_inb (y3 * (6 : Int32)) 180 = true
      case neg => exact ab_no hv (by simp only [fC_find_33, if_neg h1, if_neg h2])
      refine ab_tald ckC_find rfl (by decide) hX.1 (ab_inb_ok h2) ?_
      refine ab_go 3 [33] (pc' := 48) (lo' := [none, none, some (.int y2), some (.int y3)]) (st' := [.int y2, .int (tabF ((y3 * (6 : Int32))).toNatClampNeg)]) (h' := hp) ckC_find rfl ?_
      refine ab_icmp_ne ckC_find rfl (fun (h3 : ¬ ((tabF ((y3 * (6 : Int32))).toNatClampNeg) = y2)) => ?_) (fun (h3 : (tabF ((y3 * (6 : Int32))).toNatClampNeg) = y2) => ?_)
      · refine ab_go 4 [33] (pc' := 33) (lo' := [none, none, some (.int y2), some (.int (y3 + (1 : Int32)))]) (st' := []) (h' := hp) ckC_find rfl ?_
        have e : fC_find_33 (n + 1) y2 y3 = fC_find_33 n y2 (y3 + (1 : Int32)) := by simp only [fC_find_33, if_neg h1, if_pos h2, if_neg h3]
        exact ab_W.weak (ih y2 (y3 + (1 : Int32)) v (e.symm.trans hv)) ⟨rfl, rfl, trivial⟩
      · refine ab_go 3 [33] (pc' := 52) (lo' := [none, none, some (.int y2), some (.int y3)]) (st' := [.int y3]) (h' := hp) ckC_find rfl ?_
        have e : fC_find_33 (n + 1) y2 y3 = some y3 := by simp only [fC_find_33, if_neg h1, if_pos h2, if_pos h3]
        obtain rfl := Option.some.inj (e.symm.trans hv)
        exact ab_iret ckC_find rfl rfl ⟨rfl, rfl⟩
theorem tC_find {x1 : Int32} {x2 : Int32} (hX : cs_X X) {v : Int32} (hv : fC_find x1 x2 = some v) : ab_M X mC_find (d) 0 0 [.int x1, .int x2] (hp) (fun r9 h9 => r9 = some (Value.int v) ∧ h9 = hp) := by
  refine ab_entry (by decide) (Nat.le_of_ble_eq_true rfl) ?_
  refine ab_go 3 [33] (pc' := 1) (lo' := [some (.int x1), some (.int x2), none, none]) (st' := [.int x1]) (h' := hp) ckC_find rfl ?_
  refine ab_if_lt ckC_find rfl (fun (h1 : x1 < 0) => ?_) (fun (h1 : ¬ (x1 < 0)) => ?_)
  · refine ab_go 3 [33] (pc' := 22) (lo' := [some (.int x1), some (.int x2), none, none]) (st' := [.int (-1 : Int32)]) (h' := hp) ckC_find rfl ?_
    have e : fC_find x1 x2 = some (-1 : Int32) := by simp only [fC_find, if_pos h1]
    obtain rfl := Option.some.inj (e.symm.trans hv)
    exact ab_iret ckC_find rfl rfl ⟨rfl, rfl⟩
  · refine ab_go 4 [33] (pc' := 7) (lo' := [some (.int x1), some (.int x2), none, none]) (st' := [.int (65535 : Int32), .int x1]) (h' := hp) ckC_find rfl ?_
    refine ab_icmp_gt ckC_find rfl (fun (h2 : (65535 : Int32) < x1) => ?_) (fun (h2 : ¬ ((65535 : Int32) < x1)) => ?_)
    · refine ab_go 3 [33] (pc' := 22) (lo' := [some (.int x1), some (.int x2), none, none]) (st' := [.int (-1 : Int32)]) (h' := hp) ckC_find rfl ?_
      have e : fC_find x1 x2 = some (-1 : Int32) := by simp only [fC_find, if_neg h1, if_pos h2]
      obtain rfl := Option.some.inj (e.symm.trans hv)
      exact ab_iret ckC_find rfl rfl ⟨rfl, rfl⟩
    · refine ab_go 3 [33] (pc' := 11) (lo' := [some (.int x1), some (.int x2), none, none]) (st' := [.int x2]) (h' := hp) ckC_find rfl ?_
      refine ab_if_lt ckC_find rfl (fun (h3 : x2 < 0) => ?_) (fun (h3 : ¬ (x2 < 0)) => ?_)
      · refine ab_go 3 [33] (pc' := 22) (lo' := [some (.int x1), some (.int x2), none, none]) (st' := [.int (-1 : Int32)]) (h' := hp) ckC_find rfl ?_
        have e : fC_find x1 x2 = some (-1 : Int32) := by simp only [fC_find, if_neg h1, if_neg h2, if_pos h3]
        obtain rfl := Option.some.inj (e.symm.trans hv)
        exact ab_iret ckC_find rfl rfl ⟨rfl, rfl⟩
      · refine ab_go 4 [33] (pc' := 18) (lo' := [some (.int x1), some (.int x2), none, none]) (st' := [.int (255 : Int32), .int x2]) (h' := hp) ckC_find rfl ?_
        refine ab_icmp_le ckC_find rfl (fun (h4 : x2 ≤ (255 : Int32)) => ?_) (fun (h4 : ¬ (x2 ≤ (255 : Int32))) => ?_)
        · refine ab_go 10 [33] (pc' := 33) (lo' := [some (.int x1), some (.int x2), some (.int ((x1 * (256 : Int32)) + x2)), some (.int (0 : Int32))]) (st' := []) (h' := hp) ckC_find rfl ?_
          have e : fC_find x1 x2 = fC_find_33 40 ((x1 * (256 : Int32)) + x2) (0 : Int32) := by simp only [fC_find, if_neg h1, if_neg h2, if_neg h3, if_pos h4]
          exact ab_W.weak (tC_find_33 hX 40 ((x1 * (256 : Int32)) + x2) (0 : Int32) v (e.symm.trans hv)) ⟨rfl, rfl, trivial⟩
        · refine ab_go 3 [33] (pc' := 22) (lo' := [some (.int x1), some (.int x2), none, none]) (st' := [.int (-1 : Int32)]) (h' := hp) ckC_find rfl ?_
          have e : fC_find x1 x2 = some (-1 : Int32) := by simp only [fC_find, if_neg h1, if_neg h2, if_neg h3, if_neg h4]
          obtain rfl := Option.some.inj (e.symm.trans hv)
          exact ab_iret ckC_find rfl rfl ⟨rfl, rfl⟩
def fC_hasIndex_2 : Nat → Int32 → Int32 → Option (Int32)
  | 0, _, _ => none
  | n + 1, y0, y1 => (if (30 : Int32) ≤ y1 then (some (0 : Int32)) else (if ab_inb (y1 * (6 : Int32)) 180 = true then (if ((tabF ((y1 * (6 : Int32))).toNatClampNeg) >>> ((8 : Int32) &&& 31)) = y0 then (some (1 : Int32)) else fC_hasIndex_2 n y0 (y1 + (1 : Int32))) else none))
def fC_hasIndex (x1 : Int32) : Option (Int32) := fC_hasIndex_2 40 x1 (0 : Int32)
theorem tC_hasIndex_2 (hX : cs_X X) (n : Nat)   : ∀  (y0 : Int32) (y1 : Int32)  (v : Int32) (hv : fC_hasIndex_2 n y0 y1 = some v), ab_W X mC_hasIndex (d) 0 0 2 [some (.int y0), some (.int y1)] [] (hp) (fun r9 h9 => r9 = some (Value.int v) ∧ h9 = hp) := by
  induction n with
  | zero =>
    intro y0 y1 v hv
    cases hv
  | succ n ih =>
    intro y0 y1 v hv
    refine ab_go 4 [2] (pc' := 5) (lo' := [some (.int y0), some (.int y1)]) (st' := [.int (30 : Int32), .int y1]) (h' := hp) ckC_hasIndex rfl ?_
    refine ab_icmp_ge ckC_hasIndex rfl (fun (h1 : (30 : Int32) ≤ y1) => ?_) (fun (h1 : ¬ ((30 : Int32) ≤ y1)) => ?_)
    · refine ab_go 3 [2] (pc' := 32) (lo' := [some (.int y0), some (.int y1)]) (st' := [.int (0 : Int32)]) (h' := hp) ckC_hasIndex rfl ?_
      have e : fC_hasIndex_2 (n + 1) y0 y1 = some (0 : Int32) := by simp only [fC_hasIndex_2, if_pos h1]
      obtain rfl := Option.some.inj (e.symm.trans hv)
      exact ab_zret ckC_hasIndex rfl rfl (Or.inl rfl) ⟨rfl, rfl⟩
    · refine ab_go 6 [2] (pc' := 15) (lo' := [some (.int y0), some (.int y1)]) (st' := [.int (y1 * (6 : Int32)), .ref 0]) (h' := hp) ckC_hasIndex rfl ?_
      by_cases h2 : ab_inb (y1 * (6 : Int32)) 180 = true
      case neg => exact ab_no hv (by simp only [fC_hasIndex_2, if_neg h1, if_neg h2])
      refine ab_tald ckC_hasIndex rfl (by decide) hX.1 (ab_inb_ok h2) ?_
      refine ab_go 5 [2] (pc' := 20) (lo' := [some (.int y0), some (.int y1)]) (st' := [.int y0, .int ((tabF ((y1 * (6 : Int32))).toNatClampNeg) >>> ((8 : Int32) &&& 31))]) (h' := hp) ckC_hasIndex rfl ?_
      refine ab_icmp_ne ckC_hasIndex rfl (fun (h3 : ¬ (((tabF ((y1 * (6 : Int32))).toNatClampNeg) >>> ((8 : Int32) &&& 31)) = y0)) => ?_) (fun (h3 : ((tabF ((y1 * (6 : Int32))).toNatClampNeg) >>> ((8 : Int32) &&& 31)) = y0) => ?_)
      · refine ab_go 4 [2] (pc' := 2) (lo' := [some (.int y0), some (.int (y1 + (1 : Int32)))]) (st' := []) (h' := hp) ckC_hasIndex rfl ?_
        have e : fC_hasIndex_2 (n + 1) y0 y1 = fC_hasIndex_2 n y0 (y1 + (1 : Int32)) := by simp only [fC_hasIndex_2, if_neg h1, if_pos h2, if_neg h3]
        exact ab_W.weak (ih y0 (y1 + (1 : Int32)) v (e.symm.trans hv)) ⟨rfl, rfl, trivial⟩
      · refine ab_go 3 [2] (pc' := 24) (lo' := [some (.int y0), some (.int y1)]) (st' := [.int (1 : Int32)]) (h' := hp) ckC_hasIndex rfl ?_
        have e : fC_hasIndex_2 (n + 1) y0 y1 = some (1 : Int32) := by simp only [fC_hasIndex_2, if_neg h1, if_pos h2, if_pos h3]
        obtain rfl := Option.some.inj (e.symm.trans hv)
        exact ab_zret ckC_hasIndex rfl rfl (Or.inr rfl) ⟨rfl, rfl⟩
theorem tC_hasIndex {x1 : Int32} (hX : cs_X X) {v : Int32} (hv : fC_hasIndex x1 = some v) : ab_M X mC_hasIndex (d) 0 0 [.int x1] (hp) (fun r9 h9 => r9 = some (Value.int v) ∧ h9 = hp) := by
  refine ab_entry (by decide) (Nat.le_of_ble_eq_true rfl) ?_
  refine ab_go 4 [2] (pc' := 2) (lo' := [some (.int x1), some (.int (0 : Int32))]) (st' := []) (h' := hp) ckC_hasIndex rfl ?_
  have e : fC_hasIndex x1 = fC_hasIndex_2 40 x1 (0 : Int32) := by simp only [fC_hasIndex]
  exact ab_W.weak (tC_hasIndex_2 hX 40 x1 (0 : Int32) v (e.symm.trans hv)) ⟨rfl, rfl, trivial⟩
def fC_bytes (x1 : Int32) : Option (Int32) := (if ab_inb ((x1 * (6 : Int32)) + (1 : Int32)) 180 = true then (some (tabF (((x1 * (6 : Int32)) + (1 : Int32))).toNatClampNeg)) else none)
theorem tC_bytes {x1 : Int32} (hX : cs_X X) {v : Int32} (hv : fC_bytes x1 = some v) : ab_M X mC_bytes (d) 0 0 [.int x1] (hp) (fun r9 h9 => r9 = some (Value.int v) ∧ h9 = hp) := by
  refine ab_entry (by decide) (Nat.le_of_ble_eq_true rfl) ?_
  refine ab_go 8 [] (pc' := 9) (lo' := [some (.int x1)]) (st' := [.int ((x1 * (6 : Int32)) + (1 : Int32)), .ref 0]) (h' := hp) ckC_bytes rfl ?_
  by_cases h1 : ab_inb ((x1 * (6 : Int32)) + (1 : Int32)) 180 = true
  case neg => exact ab_no hv (by simp only [fC_bytes, if_neg h1])
  refine ab_tald ckC_bytes rfl (by decide) hX.1 (ab_inb_ok h1) ?_
  have e : fC_bytes x1 = some (tabF (((x1 * (6 : Int32)) + (1 : Int32))).toNatClampNeg) := by simp only [fC_bytes, if_pos h1]
  obtain rfl := Option.some.inj (e.symm.trans hv)
  exact ab_iret ckC_bytes rfl rfl ⟨rfl, rfl⟩
def fC_kind (x1 : Int32) : Option (Int32) := (if ab_inb ((x1 * (6 : Int32)) + (2 : Int32)) 180 = true then (some (tabF (((x1 * (6 : Int32)) + (2 : Int32))).toNatClampNeg)) else none)
theorem tC_kind {x1 : Int32} (hX : cs_X X) {v : Int32} (hv : fC_kind x1 = some v) : ab_M X mC_kind (d) 0 0 [.int x1] (hp) (fun r9 h9 => r9 = some (Value.int v) ∧ h9 = hp) := by
  refine ab_entry (by decide) (Nat.le_of_ble_eq_true rfl) ?_
  refine ab_go 8 [] (pc' := 9) (lo' := [some (.int x1)]) (st' := [.int ((x1 * (6 : Int32)) + (2 : Int32)), .ref 0]) (h' := hp) ckC_kind rfl ?_
  by_cases h1 : ab_inb ((x1 * (6 : Int32)) + (2 : Int32)) 180 = true
  case neg => exact ab_no hv (by simp only [fC_kind, if_neg h1])
  refine ab_tald ckC_kind rfl (by decide) hX.1 (ab_inb_ok h1) ?_
  have e : fC_kind x1 = some (tabF (((x1 * (6 : Int32)) + (2 : Int32))).toNatClampNeg) := by simp only [fC_kind, if_pos h1]
  obtain rfl := Option.some.inj (e.symm.trans hv)
  exact ab_iret ckC_kind rfl rfl ⟨rfl, rfl⟩
def fC_start (x1 : Int32) : Option (Int32) := (if ab_inb ((x1 * (6 : Int32)) + (3 : Int32)) 180 = true then (some (tabF (((x1 * (6 : Int32)) + (3 : Int32))).toNatClampNeg)) else none)
theorem tC_start {x1 : Int32} (hX : cs_X X) {v : Int32} (hv : fC_start x1 = some v) : ab_M X mC_start (d) 0 0 [.int x1] (hp) (fun r9 h9 => r9 = some (Value.int v) ∧ h9 = hp) := by
  refine ab_entry (by decide) (Nat.le_of_ble_eq_true rfl) ?_
  refine ab_go 8 [] (pc' := 9) (lo' := [some (.int x1)]) (st' := [.int ((x1 * (6 : Int32)) + (3 : Int32)), .ref 0]) (h' := hp) ckC_start rfl ?_
  by_cases h1 : ab_inb ((x1 * (6 : Int32)) + (3 : Int32)) 180 = true
  case neg => exact ab_no hv (by simp only [fC_start, if_neg h1])
  refine ab_tald ckC_start rfl (by decide) hX.1 (ab_inb_ok h1) ?_
  have e : fC_start x1 = some (tabF (((x1 * (6 : Int32)) + (3 : Int32))).toNatClampNeg) := by simp only [fC_start, if_pos h1]
  obtain rfl := Option.some.inj (e.symm.trans hv)
  exact ab_iret ckC_start rfl rfl ⟨rfl, rfl⟩
def fC_least (x1 : Int32) : Option (Int32) := (if ab_inb ((x1 * (6 : Int32)) + (4 : Int32)) 180 = true then (some (tabF (((x1 * (6 : Int32)) + (4 : Int32))).toNatClampNeg)) else none)
theorem tC_least {x1 : Int32} (hX : cs_X X) {v : Int32} (hv : fC_least x1 = some v) : ab_M X mC_least (d) 0 0 [.int x1] (hp) (fun r9 h9 => r9 = some (Value.int v) ∧ h9 = hp) := by
  refine ab_entry (by decide) (Nat.le_of_ble_eq_true rfl) ?_
  refine ab_go 8 [] (pc' := 9) (lo' := [some (.int x1)]) (st' := [.int ((x1 * (6 : Int32)) + (4 : Int32)), .ref 0]) (h' := hp) ckC_least rfl ?_
  by_cases h1 : ab_inb ((x1 * (6 : Int32)) + (4 : Int32)) 180 = true
  case neg => exact ab_no hv (by simp only [fC_least, if_neg h1])
  refine ab_tald ckC_least rfl (by decide) hX.1 (ab_inb_ok h1) ?_
  have e : fC_least x1 = some (tabF (((x1 * (6 : Int32)) + (4 : Int32))).toNatClampNeg) := by simp only [fC_least, if_pos h1]
  obtain rfl := Option.some.inj (e.symm.trans hv)
  exact ab_iret ckC_least rfl rfl ⟨rfl, rfl⟩
def fC_greatest (x1 : Int32) : Option (Int32) := (if ab_inb ((x1 * (6 : Int32)) + (5 : Int32)) 180 = true then (some (tabF (((x1 * (6 : Int32)) + (5 : Int32))).toNatClampNeg)) else none)
theorem tC_greatest {x1 : Int32} (hX : cs_X X) {v : Int32} (hv : fC_greatest x1 = some v) : ab_M X mC_greatest (d) 0 0 [.int x1] (hp) (fun r9 h9 => r9 = some (Value.int v) ∧ h9 = hp) := by
  refine ab_entry (by decide) (Nat.le_of_ble_eq_true rfl) ?_
  refine ab_go 8 [] (pc' := 9) (lo' := [some (.int x1)]) (st' := [.int ((x1 * (6 : Int32)) + (5 : Int32)), .ref 0]) (h' := hp) ckC_greatest rfl ?_
  by_cases h1 : ab_inb ((x1 * (6 : Int32)) + (5 : Int32)) 180 = true
  case neg => exact ab_no hv (by simp only [fC_greatest, if_neg h1])
  refine ab_tald ckC_greatest rfl (by decide) hX.1 (ab_inb_ok h1) ?_
  have e : fC_greatest x1 = some (tabF (((x1 * (6 : Int32)) + (5 : Int32))).toNatClampNeg) := by simp only [fC_greatest, if_pos h1]
  obtain rfl := Option.some.inj (e.symm.trans hv)
  exact ab_iret ckC_greatest rfl rfl ⟨rfl, rfl⟩
def fC_kept (x1 : Int32) : Option (Int32) := (if ab_inb x1 21 = true then (some (keptF (x1).toNatClampNeg)) else none)
theorem tC_kept {x1 : Int32} (hX : cs_X X) {v : Int32} (hv : fC_kept x1 = some v) : ab_M X mC_kept (d) 0 0 [.int x1] (hp) (fun r9 h9 => r9 = some (Value.int v) ∧ h9 = hp) := by
  refine ab_entry (by decide) (Nat.le_of_ble_eq_true rfl) ?_
  refine ab_go 4 [] (pc' := 4) (lo' := [some (.int x1)]) (st' := [.int x1, .ref 1]) (h' := hp) ckC_kept rfl ?_
  by_cases h1 : ab_inb x1 21 = true
  case neg => exact ab_no hv (by simp only [fC_kept, if_neg h1])
  refine ab_tald ckC_kept rfl (by decide) hX.2.1 (ab_inb_ok h1) ?_
  have e : fC_kept x1 = some (keptF (x1).toNatClampNeg) := by simp only [fC_kept, if_pos h1]
  obtain rfl := Option.some.inj (e.symm.trans hv)
  exact ab_iret ckC_kept rfl rfl ⟨rfl, rfl⟩
def fC_isCount (x1 : Int32) : Int32 := (if x1 = (5 : Int32) then (1 : Int32) else (if x1 = (12 : Int32) then (1 : Int32) else (0 : Int32)))
theorem tC_isCount {x1 : Int32} : ab_M X mC_isCount (d) 0 0 [.int x1] (hp) (fun r9 h9 => r9 = some (Value.int (fC_isCount x1)) ∧ h9 = hp) := by
  refine ab_entry (by decide) (Nat.le_of_ble_eq_true rfl) ?_
  refine ab_go 4 [] (pc' := 2) (lo' := [some (.int x1)]) (st' := [.int (5 : Int32), .int x1]) (h' := hp) ckC_isCount rfl ?_
  refine ab_icmp_eq ckC_isCount rfl (fun (h1 : x1 = (5 : Int32)) => ?_) (fun (h1 : ¬ (x1 = (5 : Int32))) => ?_)
  · refine ab_go 4 [] (pc' := 16) (lo' := [some (.int x1)]) (st' := [.int (1 : Int32)]) (h' := hp) ckC_isCount rfl ?_
    have e : fC_isCount x1 = (1 : Int32) := by simp only [fC_isCount, if_pos h1]
    exact ab_zret ckC_isCount rfl rfl (Or.inr rfl) ⟨(congrArg (fun q : Int32 => some (Value.int q)) e).symm, rfl⟩
  · refine ab_go 4 [] (pc' := 8) (lo' := [some (.int x1)]) (st' := [.int (12 : Int32), .int x1]) (h' := hp) ckC_isCount rfl ?_
    refine ab_icmp_ne ckC_isCount rfl (fun (h2 : ¬ (x1 = (12 : Int32))) => ?_) (fun (h2 : x1 = (12 : Int32)) => ?_)
    · refine ab_go 3 [] (pc' := 16) (lo' := [some (.int x1)]) (st' := [.int (0 : Int32)]) (h' := hp) ckC_isCount rfl ?_
      have e : fC_isCount x1 = (0 : Int32) := by simp only [fC_isCount, if_neg h1, if_neg h2]
      exact ab_zret ckC_isCount rfl rfl (Or.inl rfl) ⟨(congrArg (fun q : Int32 => some (Value.int q)) e).symm, rfl⟩
    · refine ab_go 4 [] (pc' := 16) (lo' := [some (.int x1)]) (st' := [.int (1 : Int32)]) (h' := hp) ckC_isCount rfl ?_
      have e : fC_isCount x1 = (1 : Int32) := by simp only [fC_isCount, if_neg h1, if_pos h2]
      exact ab_zret ckC_isCount rfl rfl (Or.inr rfl) ⟨(congrArg (fun q : Int32 => some (Value.int q)) e).symm, rfl⟩
def fC_countOf (x1 : Int32) : Int32 := (if (12 : Int32) ≤ x1 then (12 : Int32) else (5 : Int32))
theorem tC_countOf {x1 : Int32} : ab_M X mC_countOf (d) 0 0 [.int x1] (hp) (fun r9 h9 => r9 = some (Value.int (fC_countOf x1)) ∧ h9 = hp) := by
  refine ab_entry (by decide) (Nat.le_of_ble_eq_true rfl) ?_
  refine ab_go 4 [] (pc' := 3) (lo' := [some (.int x1)]) (st' := [.int (12 : Int32), .int x1]) (h' := hp) ckC_countOf rfl ?_
  refine ab_icmp_ge ckC_countOf rfl (fun (h1 : (12 : Int32) ≤ x1) => ?_) (fun (h1 : ¬ ((12 : Int32) ≤ x1)) => ?_)
  · refine ab_go 3 [] (pc' := 12) (lo' := [some (.int x1)]) (st' := [.int (12 : Int32)]) (h' := hp) ckC_countOf rfl ?_
    have e : fC_countOf x1 = (12 : Int32) := by simp only [fC_countOf, if_pos h1]
    exact ab_iret ckC_countOf rfl rfl ⟨(congrArg (fun q : Int32 => some (Value.int q)) e).symm, rfl⟩
  · refine ab_go 4 [] (pc' := 12) (lo' := [some (.int x1)]) (st' := [.int (5 : Int32)]) (h' := hp) ckC_countOf rfl ?_
    have e : fC_countOf x1 = (5 : Int32) := by simp only [fC_countOf, if_neg h1]
    exact ab_iret ckC_countOf rfl rfl ⟨(congrArg (fun q : Int32 => some (Value.int q)) e).symm, rfl⟩
def fN_bytesWritten (x1 : Int32) : Int32 := (if x1 = (35 : Int32) then (4 : Int32) else (if x1 = (39 : Int32) then (3 : Int32) else (if x1 = (43 : Int32) then (2 : Int32) else (if x1 = (47 : Int32) then (1 : Int32) else (0 : Int32)))))
theorem tN_bytesWritten {x1 : Int32} : ab_M X mN_bytesWritten (d) 0 0 [.int x1] (hp) (fun r9 h9 => r9 = some (Value.int (fN_bytesWritten x1)) ∧ h9 = hp) := by
  refine ab_entry (by decide) (Nat.le_of_ble_eq_true rfl) ?_
  refine ab_go 3 [] (pc' := 1) (lo' := [some (.int x1)]) (st' := [.int x1]) (h' := hp) ckN_bytesWritten rfl ?_
  by_cases h1 : x1 = (35 : Int32)
  · refine ab_lsw (tgt := 50) (off := 49) ckN_bytesWritten rfl (by decide) (by rw [h1]; decide) (by decide) ?_
    refine ab_go 3 [] (pc' := 51) (lo' := [some (.int x1)]) (st' := [.int (4 : Int32)]) (h' := hp) ckN_bytesWritten rfl ?_
    have e : fN_bytesWritten x1 = (4 : Int32) := by simp only [fN_bytesWritten, if_pos h1]
    exact ab_iret ckN_bytesWritten rfl rfl ⟨(congrArg (fun q : Int32 => some (Value.int q)) e).symm, rfl⟩
  by_cases h2 : x1 = (39 : Int32)
  · refine ab_lsw (tgt := 48) (off := 47) ckN_bytesWritten rfl (by decide) (by rw [h2]; decide) (by decide) ?_
    refine ab_go 3 [] (pc' := 49) (lo' := [some (.int x1)]) (st' := [.int (3 : Int32)]) (h' := hp) ckN_bytesWritten rfl ?_
    have e : fN_bytesWritten x1 = (3 : Int32) := by simp only [fN_bytesWritten, if_neg h1, if_pos h2]
    exact ab_iret ckN_bytesWritten rfl rfl ⟨(congrArg (fun q : Int32 => some (Value.int q)) e).symm, rfl⟩
  by_cases h3 : x1 = (43 : Int32)
  · refine ab_lsw (tgt := 46) (off := 45) ckN_bytesWritten rfl (by decide) (by rw [h3]; decide) (by decide) ?_
    refine ab_go 3 [] (pc' := 47) (lo' := [some (.int x1)]) (st' := [.int (2 : Int32)]) (h' := hp) ckN_bytesWritten rfl ?_
    have e : fN_bytesWritten x1 = (2 : Int32) := by simp only [fN_bytesWritten, if_neg h1, if_neg h2, if_pos h3]
    exact ab_iret ckN_bytesWritten rfl rfl ⟨(congrArg (fun q : Int32 => some (Value.int q)) e).symm, rfl⟩
  by_cases h4 : x1 = (47 : Int32)
  · refine ab_lsw (tgt := 44) (off := 43) ckN_bytesWritten rfl (by decide) (by rw [h4]; decide) (by decide) ?_
    refine ab_go 3 [] (pc' := 45) (lo' := [some (.int x1)]) (st' := [.int (1 : Int32)]) (h' := hp) ckN_bytesWritten rfl ?_
    have e : fN_bytesWritten x1 = (1 : Int32) := by simp only [fN_bytesWritten, if_neg h1, if_neg h2, if_neg h3, if_pos h4]
    exact ab_iret ckN_bytesWritten rfl rfl ⟨(congrArg (fun q : Int32 => some (Value.int q)) e).symm, rfl⟩
  refine ab_lsw (tgt := 52) ckN_bytesWritten rfl (by decide) (off := 51) (by show Op.lookupswitch.offset [(35, 49), (39, 47), (43, 45), (47, 43)] 51 _ = _; rw [lv_osw h1 (by decide)]; rw [lv_osw h2 (by decide)]; rw [lv_osw h3 (by decide)]; rw [lv_osw h4 (by decide)]; rfl) (by decide) ?_
  refine ab_go 3 [] (pc' := 53) (lo' := [some (.int x1)]) (st' := [.int (0 : Int32)]) (h' := hp) ckN_bytesWritten rfl ?_
  have e : fN_bytesWritten x1 = (0 : Int32) := by simp only [fN_bytesWritten, if_neg h1, if_neg h2, if_neg h3, if_neg h4]
  exact ab_iret ckN_bytesWritten rfl rfl ⟨(congrArg (fun q : Int32 => some (Value.int q)) e).symm, rfl⟩
def fN_readAnswer (x1 : Int32) : Int32 := (if x1 = (1 : Int32) then (79 : Int32) else (if x1 = (2 : Int32) then (75 : Int32) else (67 : Int32)))
theorem tN_readAnswer {x1 : Int32} : ab_M X mN_readAnswer (d) 0 0 [.int x1] (hp) (fun r9 h9 => r9 = some (Value.int (fN_readAnswer x1)) ∧ h9 = hp) := by
  refine ab_entry (by decide) (Nat.le_of_ble_eq_true rfl) ?_
  refine ab_go 4 [] (pc' := 2) (lo' := [some (.int x1)]) (st' := [.int (1 : Int32), .int x1]) (h' := hp) ckN_readAnswer rfl ?_
  refine ab_icmp_ne ckN_readAnswer rfl (fun (h1 : ¬ (x1 = (1 : Int32))) => ?_) (fun (h1 : x1 = (1 : Int32)) => ?_)
  · refine ab_go 4 [] (pc' := 10) (lo' := [some (.int x1)]) (st' := [.int (2 : Int32), .int x1]) (h' := hp) ckN_readAnswer rfl ?_
    refine ab_icmp_ne ckN_readAnswer rfl (fun (h2 : ¬ (x1 = (2 : Int32))) => ?_) (fun (h2 : x1 = (2 : Int32)) => ?_)
    · refine ab_go 3 [] (pc' := 20) (lo' := [some (.int x1)]) (st' := [.int (67 : Int32)]) (h' := hp) ckN_readAnswer rfl ?_
      have e : fN_readAnswer x1 = (67 : Int32) := by simp only [fN_readAnswer, if_neg h1, if_neg h2]
      exact ab_iret ckN_readAnswer rfl rfl ⟨(congrArg (fun q : Int32 => some (Value.int q)) e).symm, rfl⟩
    · refine ab_go 4 [] (pc' := 20) (lo' := [some (.int x1)]) (st' := [.int (75 : Int32)]) (h' := hp) ckN_readAnswer rfl ?_
      have e : fN_readAnswer x1 = (75 : Int32) := by simp only [fN_readAnswer, if_neg h1, if_pos h2]
      exact ab_iret ckN_readAnswer rfl rfl ⟨(congrArg (fun q : Int32 => some (Value.int q)) e).symm, rfl⟩
  · refine ab_go 3 [] (pc' := 7) (lo' := [some (.int x1)]) (st' := [.int (79 : Int32)]) (h' := hp) ckN_readAnswer rfl ?_
    have e : fN_readAnswer x1 = (79 : Int32) := by simp only [fN_readAnswer, if_pos h1]
    exact ab_iret ckN_readAnswer rfl rfl ⟨(congrArg (fun q : Int32 => some (Value.int q)) e).symm, rfl⟩
def fN_refusalOfAddress (x1 : Int32) (x2 : Int32) (x3 : Int32) : Option (Int32) := (if x1 = (64 : Int32) then (if x3 = (-1 : Int32) then (ab_bd (fC_hasIndex x2) (fun p1 => (if p1 = 0 then (some (100794368 : Int32)) else (some (101253137 : Int32))))) else (some (0 : Int32))) else (if (fN_bytesWritten x1) = 0 then (some (84148225 : Int32)) else (if x3 = (-1 : Int32) then (ab_bd (fC_hasIndex x2) (fun p2 => (if p2 = 0 then (some (100794368 : Int32)) else (some (101253137 : Int32))))) else (some (0 : Int32)))))
theorem tN_refusalOfAddress {x1 : Int32} {x2 : Int32} {x3 : Int32} (hX : cs_X X) {v : Int32} (hv : fN_refusalOfAddress x1 x2 x3 = some v) : ab_M X mN_refusalOfAddress (d + 1) 0 0 [.int x1, .int x2, .int x3] (hp) (fun r9 h9 => r9 = some (Value.int v) ∧ h9 = hp) := by
  refine ab_entry (by decide) (Nat.le_of_ble_eq_true rfl) ?_
  refine ab_go 4 [] (pc' := 3) (lo' := [some (.int x1), some (.int x2), some (.int x3)]) (st' := [.int (64 : Int32), .int x1]) (h' := hp) ckN_refusalOfAddress rfl ?_
  refine ab_icmp_eq ckN_refusalOfAddress rfl (fun (h1 : x1 = (64 : Int32)) => ?_) (fun (h1 : ¬ (x1 = (64 : Int32))) => ?_)
  · refine ab_go 4 [] (pc' := 18) (lo' := [some (.int x1), some (.int x2), some (.int x3)]) (st' := [.int (-1 : Int32), .int x3]) (h' := hp) ckN_refusalOfAddress rfl ?_
    refine ab_icmp_eq ckN_refusalOfAddress rfl (fun (h2 : x3 = (-1 : Int32)) => ?_) (fun (h2 : ¬ (x3 = (-1 : Int32))) => ?_)
    · refine ab_go 3 [] (pc' := 24) (lo' := [some (.int x1), some (.int x2), some (.int x3)]) (st' := [.int x2]) (h' := hp) ckN_refusalOfAddress rfl ?_
      rcases e1 : fC_hasIndex x2 with _ | p1
      · exact ab_no hv (by simp only [fN_refusalOfAddress, if_pos h1, if_pos h2, e1, ab_bd_n])
      refine ab_callS (bc2 := 0) (bs2 := 0) (as := [_]) (rest := []) ckN_refusalOfAddress rfl (by decide +kernel) wC_hasIndex (tC_hasIndex (d := d) (x1 := x2) hX (v := p1) e1) (by omega) ⟨Nat.le_refl _, Nat.le_refl _⟩ (Nat.le_of_ble_eq_true rfl) ?_
      rintro _ h9 ⟨rfl, q9⟩
      rw [q9]
      clear q9 h9
      refine ab_if_eq ckN_refusalOfAddress rfl (fun (h3 : p1 = 0) => ?_) (fun (h3 : ¬ (p1 = 0)) => ?_)
      · refine ab_go 3 [] (pc' := 37) (lo' := [some (.int x1), some (.int x2), some (.int x3)]) (st' := [.int (100794368 : Int32)]) (h' := hp) ckN_refusalOfAddress rfl ?_
        have e : fN_refusalOfAddress x1 x2 x3 = some (100794368 : Int32) := by simp only [fN_refusalOfAddress, if_pos h1, if_pos h2, e1, ab_bd_s, if_pos h3]
        obtain rfl := Option.some.inj (e.symm.trans hv)
        exact ab_iret ckN_refusalOfAddress rfl rfl ⟨rfl, rfl⟩
      · refine ab_go 4 [] (pc' := 37) (lo' := [some (.int x1), some (.int x2), some (.int x3)]) (st' := [.int (101253137 : Int32)]) (h' := hp) ckN_refusalOfAddress rfl ?_
        have e : fN_refusalOfAddress x1 x2 x3 = some (101253137 : Int32) := by simp only [fN_refusalOfAddress, if_pos h1, if_pos h2, e1, ab_bd_s, if_neg h3]
        obtain rfl := Option.some.inj (e.symm.trans hv)
        exact ab_iret ckN_refusalOfAddress rfl rfl ⟨rfl, rfl⟩
    · refine ab_go 3 [] (pc' := 22) (lo' := [some (.int x1), some (.int x2), some (.int x3)]) (st' := [.int (0 : Int32)]) (h' := hp) ckN_refusalOfAddress rfl ?_
      have e : fN_refusalOfAddress x1 x2 x3 = some (0 : Int32) := by simp only [fN_refusalOfAddress, if_pos h1, if_neg h2]
      obtain rfl := Option.some.inj (e.symm.trans hv)
      exact ab_iret ckN_refusalOfAddress rfl rfl ⟨rfl, rfl⟩
  · refine ab_go 3 [] (pc' := 7) (lo' := [some (.int x1), some (.int x2), some (.int x3)]) (st' := [.int x1]) (h' := hp) ckN_refusalOfAddress rfl ?_
    refine ab_callS (bc2 := 0) (bs2 := 0) (as := [_]) (rest := []) ckN_refusalOfAddress rfl (by decide +kernel) wN_bytesWritten (tN_bytesWritten (d := d) (x1 := x1)) (by omega) ⟨Nat.le_refl _, Nat.le_refl _⟩ (Nat.le_of_ble_eq_true rfl) ?_
    rintro _ h9 ⟨rfl, q9⟩
    rw [q9]
    clear q9 h9
    refine ab_if_ne ckN_refusalOfAddress rfl (fun (h4 : ¬ ((fN_bytesWritten x1) = 0)) => ?_) (fun (h4 : (fN_bytesWritten x1) = 0) => ?_)
    · refine ab_go 4 [] (pc' := 18) (lo' := [some (.int x1), some (.int x2), some (.int x3)]) (st' := [.int (-1 : Int32), .int x3]) (h' := hp) ckN_refusalOfAddress rfl ?_
      refine ab_icmp_eq ckN_refusalOfAddress rfl (fun (h5 : x3 = (-1 : Int32)) => ?_) (fun (h5 : ¬ (x3 = (-1 : Int32))) => ?_)
      · refine ab_go 3 [] (pc' := 24) (lo' := [some (.int x1), some (.int x2), some (.int x3)]) (st' := [.int x2]) (h' := hp) ckN_refusalOfAddress rfl ?_
        rcases e2 : fC_hasIndex x2 with _ | p2
        · exact ab_no hv (by simp only [fN_refusalOfAddress, if_neg h1, if_neg h4, if_pos h5, e2, ab_bd_n])
        refine ab_callS (bc2 := 0) (bs2 := 0) (as := [_]) (rest := []) ckN_refusalOfAddress rfl (by decide +kernel) wC_hasIndex (tC_hasIndex (d := d) (x1 := x2) hX (v := p2) e2) (by omega) ⟨Nat.le_refl _, Nat.le_refl _⟩ (Nat.le_of_ble_eq_true rfl) ?_
        rintro _ h9 ⟨rfl, q9⟩
        rw [q9]
        clear q9 h9
        refine ab_if_eq ckN_refusalOfAddress rfl (fun (h6 : p2 = 0) => ?_) (fun (h6 : ¬ (p2 = 0)) => ?_)
        · refine ab_go 3 [] (pc' := 37) (lo' := [some (.int x1), some (.int x2), some (.int x3)]) (st' := [.int (100794368 : Int32)]) (h' := hp) ckN_refusalOfAddress rfl ?_
          have e : fN_refusalOfAddress x1 x2 x3 = some (100794368 : Int32) := by simp only [fN_refusalOfAddress, if_neg h1, if_neg h4, if_pos h5, e2, ab_bd_s, if_pos h6]
          obtain rfl := Option.some.inj (e.symm.trans hv)
          exact ab_iret ckN_refusalOfAddress rfl rfl ⟨rfl, rfl⟩
        · refine ab_go 4 [] (pc' := 37) (lo' := [some (.int x1), some (.int x2), some (.int x3)]) (st' := [.int (101253137 : Int32)]) (h' := hp) ckN_refusalOfAddress rfl ?_
          have e : fN_refusalOfAddress x1 x2 x3 = some (101253137 : Int32) := by simp only [fN_refusalOfAddress, if_neg h1, if_neg h4, if_pos h5, e2, ab_bd_s, if_neg h6]
          obtain rfl := Option.some.inj (e.symm.trans hv)
          exact ab_iret ckN_refusalOfAddress rfl rfl ⟨rfl, rfl⟩
      · refine ab_go 3 [] (pc' := 22) (lo' := [some (.int x1), some (.int x2), some (.int x3)]) (st' := [.int (0 : Int32)]) (h' := hp) ckN_refusalOfAddress rfl ?_
        have e : fN_refusalOfAddress x1 x2 x3 = some (0 : Int32) := by simp only [fN_refusalOfAddress, if_neg h1, if_neg h4, if_neg h5]
        obtain rfl := Option.some.inj (e.symm.trans hv)
        exact ab_iret ckN_refusalOfAddress rfl rfl ⟨rfl, rfl⟩
    · refine ab_go 3 [] (pc' := 15) (lo' := [some (.int x1), some (.int x2), some (.int x3)]) (st' := [.int (84148225 : Int32)]) (h' := hp) ckN_refusalOfAddress rfl ?_
      have e : fN_refusalOfAddress x1 x2 x3 = some (84148225 : Int32) := by simp only [fN_refusalOfAddress, if_neg h1, if_pos h4]
      obtain rfl := Option.some.inj (e.symm.trans hv)
      exact ab_iret ckN_refusalOfAddress rfl rfl ⟨rfl, rfl⟩
def fN_refusalOfValue (x1 : Int32) (x2 : Int32) : Option (Int32) := (ab_bd (fC_greatest x1) (fun p1 => (if x2 ≤ p1 then (ab_bd (fC_least x1) (fun p2 => (if p2 ≤ x2 then (if x1 = (18 : Int32) then (if x2 = (2 : Int32) then (some (101253168 : Int32)) else (some (0 : Int32))) else (some (0 : Int32))) else (some (101253170 : Int32))))) else (some (101253169 : Int32)))))
theorem tN_refusalOfValue {x1 : Int32} {x2 : Int32} (hX : cs_X X) {v : Int32} (hv : fN_refusalOfValue x1 x2 = some v) : ab_M X mN_refusalOfValue (d + 1) 0 0 [.int x1, .int x2] (hp) (fun r9 h9 => r9 = some (Value.int v) ∧ h9 = hp) := by
  refine ab_entry (by decide) (Nat.le_of_ble_eq_true rfl) ?_
  refine ab_go 4 [] (pc' := 2) (lo' := [some (.int x1), some (.int x2)]) (st' := [.int x1, .int x2]) (h' := hp) ckN_refusalOfValue rfl ?_
  rcases e1 : fC_greatest x1 with _ | p1
  · exact ab_no hv (by simp only [fN_refusalOfValue, e1, ab_bd_n])
  refine ab_callS (bc2 := 0) (bs2 := 0) (as := [_]) (rest := [_]) ckN_refusalOfValue rfl (by decide +kernel) wC_greatest (tC_greatest (d := d) (x1 := x1) hX (v := p1) e1) (by omega) ⟨Nat.le_refl _, Nat.le_refl _⟩ (Nat.le_of_ble_eq_true rfl) ?_
  rintro _ h9 ⟨rfl, q9⟩
  rw [q9]
  clear q9 h9
  refine ab_icmp_le ckN_refusalOfValue rfl (fun (h1 : x2 ≤ p1) => ?_) (fun (h1 : ¬ (x2 ≤ p1)) => ?_)
  · refine ab_go 4 [] (pc' := 13) (lo' := [some (.int x1), some (.int x2)]) (st' := [.int x1, .int x2]) (h' := hp) ckN_refusalOfValue rfl ?_
    rcases e2 : fC_least x1 with _ | p2
    · exact ab_no hv (by simp only [fN_refusalOfValue, e1, ab_bd_s, if_pos h1, e2, ab_bd_n])
    refine ab_callS (bc2 := 0) (bs2 := 0) (as := [_]) (rest := [_]) ckN_refusalOfValue rfl (by decide +kernel) wC_least (tC_least (d := d) (x1 := x1) hX (v := p2) e2) (by omega) ⟨Nat.le_refl _, Nat.le_refl _⟩ (Nat.le_of_ble_eq_true rfl) ?_
    rintro _ h9 ⟨rfl, q9⟩
    rw [q9]
    clear q9 h9
    refine ab_icmp_ge ckN_refusalOfValue rfl (fun (h2 : p2 ≤ x2) => ?_) (fun (h2 : ¬ (p2 ≤ x2)) => ?_)
    · refine ab_go 4 [] (pc' := 25) (lo' := [some (.int x1), some (.int x2)]) (st' := [.int (18 : Int32), .int x1]) (h' := hp) ckN_refusalOfValue rfl ?_
      refine ab_icmp_ne ckN_refusalOfValue rfl (fun (h3 : ¬ (x1 = (18 : Int32))) => ?_) (fun (h3 : x1 = (18 : Int32)) => ?_)
      · refine ab_go 3 [] (pc' := 39) (lo' := [some (.int x1), some (.int x2)]) (st' := [.int (0 : Int32)]) (h' := hp) ckN_refusalOfValue rfl ?_
        have e : fN_refusalOfValue x1 x2 = some (0 : Int32) := by simp only [fN_refusalOfValue, e1, ab_bd_s, if_pos h1, e2, ab_bd_s, if_pos h2, if_neg h3]
        obtain rfl := Option.some.inj (e.symm.trans hv)
        exact ab_iret ckN_refusalOfValue rfl rfl ⟨rfl, rfl⟩
      · refine ab_go 4 [] (pc' := 30) (lo' := [some (.int x1), some (.int x2)]) (st' := [.int (2 : Int32), .int x2]) (h' := hp) ckN_refusalOfValue rfl ?_
        refine ab_icmp_ne ckN_refusalOfValue rfl (fun (h4 : ¬ (x2 = (2 : Int32))) => ?_) (fun (h4 : x2 = (2 : Int32)) => ?_)
        · refine ab_go 3 [] (pc' := 39) (lo' := [some (.int x1), some (.int x2)]) (st' := [.int (0 : Int32)]) (h' := hp) ckN_refusalOfValue rfl ?_
          have e : fN_refusalOfValue x1 x2 = some (0 : Int32) := by simp only [fN_refusalOfValue, e1, ab_bd_s, if_pos h1, e2, ab_bd_s, if_pos h2, if_pos h3, if_neg h4]
          obtain rfl := Option.some.inj (e.symm.trans hv)
          exact ab_iret ckN_refusalOfValue rfl rfl ⟨rfl, rfl⟩
        · refine ab_go 4 [] (pc' := 39) (lo' := [some (.int x1), some (.int x2)]) (st' := [.int (101253168 : Int32)]) (h' := hp) ckN_refusalOfValue rfl ?_
          have e : fN_refusalOfValue x1 x2 = some (101253168 : Int32) := by simp only [fN_refusalOfValue, e1, ab_bd_s, if_pos h1, e2, ab_bd_s, if_pos h2, if_pos h3, if_pos h4]
          obtain rfl := Option.some.inj (e.symm.trans hv)
          exact ab_iret ckN_refusalOfValue rfl rfl ⟨rfl, rfl⟩
    · refine ab_go 3 [] (pc' := 21) (lo' := [some (.int x1), some (.int x2)]) (st' := [.int (101253170 : Int32)]) (h' := hp) ckN_refusalOfValue rfl ?_
      have e : fN_refusalOfValue x1 x2 = some (101253170 : Int32) := by simp only [fN_refusalOfValue, e1, ab_bd_s, if_pos h1, e2, ab_bd_s, if_neg h2]
      obtain rfl := Option.some.inj (e.symm.trans hv)
      exact ab_iret ckN_refusalOfValue rfl rfl ⟨rfl, rfl⟩
  · refine ab_go 3 [] (pc' := 10) (lo' := [some (.int x1), some (.int x2)]) (st' := [.int (101253169 : Int32)]) (h' := hp) ckN_refusalOfValue rfl ?_
    have e : fN_refusalOfValue x1 x2 = some (101253169 : Int32) := by simp only [fN_refusalOfValue, e1, ab_bd_s, if_neg h1]
    obtain rfl := Option.some.inj (e.symm.trans hv)
    exact ab_iret ckN_refusalOfValue rfl rfl ⟨rfl, rfl⟩
end LEAF
end
section
/-! contracts, by program (wip/gen/walk.py, gen_cls.py) -/
section LEAF
variable {X : ab_C} {d : Nat} {c : cs_S} {rest hp : ab_H}
def fV_demanded (c : cs_S)  : Int32 := (c.1 0 10)
theorem tV_demanded : ab_M X mV_demanded (d) 0 0 [.ref 20] (cs_H c rest) (fun r9 h9 => r9 = some (Value.int (fV_demanded c)) ∧ h9 = cs_H c rest) := by
  refine ab_entry (by decide) (Nat.le_of_ble_eq_true rfl) ?_
  refine ab_go 4 [] (pc' := 4) (lo' := [some (.ref 20)]) (st' := [.int (c.1 0 10)]) (h' := cs_H c rest) ckV_demanded rfl ?_
  have e : fV_demanded c = (c.1 0 10) := by simp only [fV_demanded]
  exact ab_iret ckV_demanded rfl rfl ⟨(congrArg (fun q : Int32 => some (Value.int q)) e).symm, rfl⟩
def fV_rest (c : cs_S) (x1 : Int32) : cs_S := (cs_u (cs_u c 1 21 (0 : Int32)) 0 10 x1)
theorem tV_rest {x1 : Int32} : ab_M X mV_rest (d) 0 0 [.ref 20, .int x1] (cs_H c rest) (fun r9 h9 => r9 = none ∧ h9 = cs_H (fV_rest c x1) rest) := by
  refine ab_entry (by decide) (Nat.le_of_ble_eq_true rfl) ?_
  refine ab_go 10 [] (pc' := 13) (lo' := [some (.ref 20), some (.int x1)]) (st' := []) (h' := cs_H (cs_u (cs_u c 1 21 (0 : Int32)) 0 10 x1) rest) ckV_rest rfl ?_
  have e : fV_rest c x1 = (cs_u (cs_u c 1 21 (0 : Int32)) 0 10 x1) := by simp only [fV_rest]
  exact ab_vret ckV_rest rfl rfl ⟨rfl, (congrArg (fun q : cs_S => cs_H q rest) e).symm⟩
def fV_moveWith (c : cs_S) (x1 : Int32) : cs_S := (cs_u (cs_u c 1 21 x1) 0 10 ((c.1 0 10) + x1))
theorem tV_moveWith {x1 : Int32} : ab_M X mV_moveWith (d) 0 0 [.ref 20, .int x1] (cs_H c rest) (fun r9 h9 => r9 = none ∧ h9 = cs_H (fV_moveWith c x1) rest) := by
  refine ab_entry (by decide) (Nat.le_of_ble_eq_true rfl) ?_
  refine ab_go 13 [] (pc' := 18) (lo' := [some (.ref 20), some (.int x1)]) (st' := []) (h' := cs_H (cs_u (cs_u c 1 21 x1) 0 10 ((c.1 0 10) + x1)) rest) ckV_moveWith rfl ?_
  have e : fV_moveWith c x1 = (cs_u (cs_u c 1 21 x1) 0 10 ((c.1 0 10) + x1)) := by simp only [fV_moveWith]
  exact ab_vret ckV_moveWith rfl rfl ⟨rfl, (congrArg (fun q : cs_S => cs_H q rest) e).symm⟩
def fV_slower (x1 : Int32) (x2 : Int32) : Int32 := (if x1 ≤ 0 then (i_min (x1 + x2) (0 : Int32)) else (i_max (x1 - x2) (0 : Int32)))
theorem tV_slower {x1 : Int32} {x2 : Int32} : ab_M X mV_slower (d + 1) 0 0 [.int x1, .int x2] (hp) (fun r9 h9 => r9 = some (Value.int (fV_slower x1 x2)) ∧ h9 = hp) := by
  refine ab_entry (by decide) (Nat.le_of_ble_eq_true rfl) ?_
  refine ab_go 3 [] (pc' := 1) (lo' := [some (.int x1), some (.int x2)]) (st' := [.int x1]) (h' := hp) ckV_slower rfl ?_
  refine ab_if_le ckV_slower rfl (fun (h1 : x1 ≤ 0) => ?_) (fun (h1 : ¬ (x1 ≤ 0)) => ?_)
  · refine ab_go 6 [] (pc' := 18) (lo' := [some (.int x1), some (.int x2)]) (st' := [.int (0 : Int32), .int (x1 + x2)]) (h' := hp) ckV_slower rfl ?_
    refine ab_mmin ckV_slower rfl (by decide +kernel) (by omega) (Nat.le_of_ble_eq_true rfl) ?_
    have e : fV_slower x1 x2 = (i_min (x1 + x2) (0 : Int32)) := by simp only [fV_slower, if_pos h1]
    exact ab_iret ckV_slower rfl rfl ⟨(congrArg (fun q : Int32 => some (Value.int q)) e).symm, rfl⟩
  · refine ab_go 6 [] (pc' := 8) (lo' := [some (.int x1), some (.int x2)]) (st' := [.int (0 : Int32), .int (x1 - x2)]) (h' := hp) ckV_slower rfl ?_
    refine ab_mmax ckV_slower rfl (by decide +kernel) (by omega) (Nat.le_of_ble_eq_true rfl) ?_
    refine ab_go 3 [] (pc' := 21) (lo' := [some (.int x1), some (.int x2)]) (st' := [.int (i_max (x1 - x2) (0 : Int32))]) (h' := hp) ckV_slower rfl ?_
    have e : fV_slower x1 x2 = (i_max (x1 - x2) (0 : Int32)) := by simp only [fV_slower, if_neg h1]
    exact ab_iret ckV_slower rfl rfl ⟨(congrArg (fun q : Int32 => some (Value.int q)) e).symm, rfl⟩
def fV_positionAim (c : cs_S)  : Int32 := (i_max (i_min (c.1 1 22) (c.1 1 24)) (c.1 1 23))
theorem tV_positionAim : ab_M X mV_positionAim (d + 1) 0 0 [.ref 20] (cs_H c rest) (fun r9 h9 => r9 = some (Value.int (fV_positionAim c)) ∧ h9 = cs_H c rest) := by
  refine ab_entry (by decide) (Nat.le_of_ble_eq_true rfl) ?_
  refine ab_go 10 [] (pc' := 14) (lo' := [some (.ref 20), none]) (st' := [.int (c.1 1 24), .int (c.1 1 22)]) (h' := cs_H c rest) ckV_positionAim rfl ?_
  refine ab_mmin ckV_positionAim rfl (by decide +kernel) (by omega) (Nat.le_of_ble_eq_true rfl) ?_
  refine ab_go 8 [] (pc' := 26) (lo' := [some (.ref 20), some (.int (i_min (c.1 1 22) (c.1 1 24)))]) (st' := [.int (c.1 1 23), .int (i_min (c.1 1 22) (c.1 1 24))]) (h' := cs_H c rest) ckV_positionAim rfl ?_
  refine ab_mmax ckV_positionAim rfl (by decide +kernel) (by omega) (Nat.le_of_ble_eq_true rfl) ?_
  have e : fV_positionAim c = (i_max (i_min (c.1 1 22) (c.1 1 24)) (c.1 1 23)) := by simp only [fV_positionAim]
  exact ab_iret ckV_positionAim rfl rfl ⟨(congrArg (fun q : Int32 => some (Value.int q)) e).symm, rfl⟩
def fV_speedAim (c : cs_S)  : Int32 := (if (c.1 1 29) = 0 then (c.1 0 10) else (if (c.1 1 29) ≤ 0 then (i_min (c.1 0 10) (c.1 1 23)) else (i_max (c.1 0 10) (c.1 1 24))))
theorem tV_speedAim : ab_M X mV_speedAim (d + 1) 0 0 [.ref 20] (cs_H c rest) (fun r9 h9 => r9 = some (Value.int (fV_speedAim c)) ∧ h9 = cs_H c rest) := by
  refine ab_entry (by decide) (Nat.le_of_ble_eq_true rfl) ?_
  refine ab_go 8 [] (pc' := 9) (lo' := [some (.ref 20), some (.int (c.1 1 29))]) (st' := [.int (c.1 1 29)]) (h' := cs_H c rest) ckV_speedAim rfl ?_
  refine ab_if_ne ckV_speedAim rfl (fun (h1 : ¬ ((c.1 1 29) = 0)) => ?_) (fun (h1 : (c.1 1 29) = 0) => ?_)
  · refine ab_go 3 [] (pc' := 18) (lo' := [some (.ref 20), some (.int (c.1 1 29))]) (st' := [.int (c.1 1 29)]) (h' := cs_H c rest) ckV_speedAim rfl ?_
    refine ab_if_le ckV_speedAim rfl (fun (h2 : (c.1 1 29) ≤ 0) => ?_) (fun (h2 : ¬ ((c.1 1 29) ≤ 0)) => ?_)
    · refine ab_go 8 [] (pc' := 49) (lo' := [some (.ref 20), some (.int (c.1 1 29))]) (st' := [.int (c.1 1 23), .int (c.1 0 10)]) (h' := cs_H c rest) ckV_speedAim rfl ?_
      refine ab_mmin ckV_speedAim rfl (by decide +kernel) (by omega) (Nat.le_of_ble_eq_true rfl) ?_
      have e : fV_speedAim c = (i_min (c.1 0 10) (c.1 1 23)) := by simp only [fV_speedAim, if_neg h1, if_pos h2]
      exact ab_iret ckV_speedAim rfl rfl ⟨(congrArg (fun q : Int32 => some (Value.int q)) e).symm, rfl⟩
    · refine ab_go 8 [] (pc' := 32) (lo' := [some (.ref 20), some (.int (c.1 1 29))]) (st' := [.int (c.1 1 24), .int (c.1 0 10)]) (h' := cs_H c rest) ckV_speedAim rfl ?_
      refine ab_mmax ckV_speedAim rfl (by decide +kernel) (by omega) (Nat.le_of_ble_eq_true rfl) ?_
      refine ab_go 3 [] (pc' := 52) (lo' := [some (.ref 20), some (.int (c.1 1 29))]) (st' := [.int (i_max (c.1 0 10) (c.1 1 24))]) (h' := cs_H c rest) ckV_speedAim rfl ?_
      have e : fV_speedAim c = (i_max (c.1 0 10) (c.1 1 24)) := by simp only [fV_speedAim, if_neg h1, if_neg h2]
      exact ab_iret ckV_speedAim rfl rfl ⟨(congrArg (fun q : Int32 => some (Value.int q)) e).symm, rfl⟩
  · refine ab_go 4 [] (pc' := 16) (lo' := [some (.ref 20), some (.int (c.1 1 29))]) (st' := [.int (c.1 0 10)]) (h' := cs_H c rest) ckV_speedAim rfl ?_
    have e : fV_speedAim c = (c.1 0 10) := by simp only [fV_speedAim, if_pos h1]
    exact ab_iret ckV_speedAim rfl rfl ⟨(congrArg (fun q : Int32 => some (Value.int q)) e).symm, rfl⟩
def fV_stoppingWay (x1 : Int32) (x2 : Int32) : Option (Int32) := (if x2 = 0 then none else (some (((((x1 + x2) - (1 : Int32)) / x2) * x1) - (x2 * (((((x1 + x2) - (1 : Int32)) / x2) * ((((x1 + x2) - (1 : Int32)) / x2) - (1 : Int32))) / (2 : Int32))))))
theorem tV_stoppingWay {x1 : Int32} {x2 : Int32} {v : Int32} (hv : fV_stoppingWay x1 x2 = some v) : ab_M X mV_stoppingWay (d) 0 0 [.int x1, .int x2] (hp) (fun r9 h9 => r9 = some (Value.int v) ∧ h9 = hp) := by
  refine ab_entry (by decide) (Nat.le_of_ble_eq_true rfl) ?_
  refine ab_go 8 [] (pc' := 6) (lo' := [some (.int x1), some (.int x2), none]) (st' := [.int x2, .int ((x1 + x2) - (1 : Int32))]) (h' := hp) ckV_stoppingWay rfl ?_
  by_cases h1 : x2 = 0
  case pos => exact ab_no hv (by simp only [fV_stoppingWay, if_pos h1])
  refine ab_idiv ckV_stoppingWay rfl h1 ?_
  refine ab_go 16 [] (pc' := 21) (lo' := [some (.int x1), some (.int x2), some (.int (((x1 + x2) - (1 : Int32)) / x2))]) (st' := [.int (((((x1 + x2) - (1 : Int32)) / x2) * x1) - (x2 * (((((x1 + x2) - (1 : Int32)) / x2) * ((((x1 + x2) - (1 : Int32)) / x2) - (1 : Int32))) / (2 : Int32))))]) (h' := hp) ckV_stoppingWay rfl ?_
  have e : fV_stoppingWay x1 x2 = some (((((x1 + x2) - (1 : Int32)) / x2) * x1) - (x2 * (((((x1 + x2) - (1 : Int32)) / x2) * ((((x1 + x2) - (1 : Int32)) / x2) - (1 : Int32))) / (2 : Int32)))) := by simp only [fV_stoppingWay, if_neg h1]
  obtain rfl := Option.some.inj (e.symm.trans hv)
  exact ab_iret ckV_stoppingWay rfl rfl ⟨rfl, rfl⟩
def fV_fastestThatStops_30 : Nat → cs_S → Int32 → Int32 → Int32 → Int32 → Int32 → Option (Int32)
  | 0, _, _, _, _, _, _ => none
  | n + 1, c, y1, y2, y3, y4, y5 => (if y5 ≤ 0 then (some y4) else (if y1 < (y4 + y5) then fV_fastestThatStops_30 n c y1 y2 y3 y4 (y5 / (2 : Int32)) else (ab_bd (fV_stoppingWay (y4 + y5) y3) (fun p1 => (if y2 < p1 then fV_fastestThatStops_30 n c y1 y2 y3 y4 (y5 / (2 : Int32)) else fV_fastestThatStops_30 n c y1 y2 y3 (y4 + y5) (y5 / (2 : Int32)))))))
def fV_fastestThatStops (c : cs_S) (x1 : Int32) (x2 : Int32) : Option (Int32) := fV_fastestThatStops_30 40 c x1 x2 (i_max (1 : Int32) (i_min (c.1 1 27) (c.1 1 28))) (0 : Int32) (512 : Int32)
theorem tV_fastestThatStops_30 (n : Nat)   : ∀ (c : cs_S) (y1 : Int32) (y2 : Int32) (y3 : Int32) (y4 : Int32) (y5 : Int32)  (v : Int32) (hv : fV_fastestThatStops_30 n c y1 y2 y3 y4 y5 = some v), ab_W X mV_fastestThatStops (d + 1) 0 0 30 [none, some (.int y1), some (.int y2), some (.int y3), some (.int y4), some (.int y5), none] [] (cs_H c rest) (fun r9 h9 => r9 = some (Value.int v) ∧ h9 = cs_H c rest) := by
  induction n with
  | zero =>
    intro c y1 y2 y3 y4 y5 v hv
    cases hv
  | succ n ih =>
    intro c y1 y2 y3 y4 y5 v hv
    refine ab_go 3 [30] (pc' := 32) (lo' := [none, some (.int y1), some (.int y2), some (.int y3), some (.int y4), some (.int y5), none]) (st' := [.int y5]) (h' := cs_H c rest) ckV_fastestThatStops rfl ?_
    refine ab_if_le ckV_fastestThatStops rfl (fun (h1 : y5 ≤ 0) => ?_) (fun (h1 : ¬ (y5 ≤ 0)) => ?_)
    · refine ab_go 3 [30] (pc' := 73) (lo' := [none, some (.int y1), some (.int y2), some (.int y3), some (.int y4), some (.int y5), none]) (st' := [.int y4]) (h' := cs_H c rest) ckV_fastestThatStops rfl ?_
      have e : fV_fastestThatStops_30 (n + 1) c y1 y2 y3 y4 y5 = some y4 := by simp only [fV_fastestThatStops_30, if_pos h1]
      obtain rfl := Option.some.inj (e.symm.trans hv)
      exact ab_iret ckV_fastestThatStops rfl rfl ⟨rfl, rfl⟩
    · refine ab_go 8 [30] (pc' := 45) (lo' := [none, some (.int y1), some (.int y2), some (.int y3), some (.int y4), some (.int y5), some (.int (y4 + y5))]) (st' := [.int y1, .int (y4 + y5)]) (h' := cs_H c rest) ckV_fastestThatStops rfl ?_
      refine ab_icmp_gt ckV_fastestThatStops rfl (fun (h2 : y1 < (y4 + y5)) => ?_) (fun (h2 : ¬ (y1 < (y4 + y5))) => ?_)
      · refine ab_go 7 [30] (pc' := 30) (lo' := [none, some (.int y1), some (.int y2), some (.int y3), some (.int y4), some (.int (y5 / (2 : Int32))), some (.int (y4 + y5))]) (st' := []) (h' := cs_H c rest) ckV_fastestThatStops rfl ?_
        have e : fV_fastestThatStops_30 (n + 1) c y1 y2 y3 y4 y5 = fV_fastestThatStops_30 n c y1 y2 y3 y4 (y5 / (2 : Int32)) := by simp only [fV_fastestThatStops_30, if_neg h1, if_pos h2]
        exact ab_W.weak (ih c y1 y2 y3 y4 (y5 / (2 : Int32)) v (e.symm.trans hv)) ⟨rfl, rfl, rfl, rfl, rfl, trivial⟩
      · refine ab_go 4 [30] (pc' := 51) (lo' := [none, some (.int y1), some (.int y2), some (.int y3), some (.int y4), some (.int y5), some (.int (y4 + y5))]) (st' := [.int y3, .int (y4 + y5)]) (h' := cs_H c rest) ckV_fastestThatStops rfl ?_
        rcases e1 : fV_stoppingWay (y4 + y5) y3 with _ | p1
        · exact ab_no hv (by simp only [fV_fastestThatStops_30, if_neg h1, if_neg h2, e1, ab_bd_n])
        refine ab_callS (bc2 := 0) (bs2 := 0) (as := [_, _]) (rest := []) ckV_fastestThatStops rfl (by decide +kernel) wV_stoppingWay (tV_stoppingWay (d := d) (x1 := (y4 + y5)) (x2 := y3) (v := p1) e1) (by omega) ⟨Nat.le_refl _, Nat.le_refl _⟩ (Nat.le_of_ble_eq_true rfl) ?_
        rintro _ _ ⟨rfl, rfl⟩
        refine ab_go 3 [30] (pc' := 55) (lo' := [none, some (.int y1), some (.int y2), some (.int y3), some (.int y4), some (.int y5), some (.int (y4 + y5))]) (st' := [.int y2, .int p1]) (h' := cs_H c rest) ckV_fastestThatStops rfl ?_
        refine ab_icmp_gt ckV_fastestThatStops rfl (fun (h3 : y2 < p1) => ?_) (fun (h3 : ¬ (y2 < p1)) => ?_)
        · refine ab_go 7 [30] (pc' := 30) (lo' := [none, some (.int y1), some (.int y2), some (.int y3), some (.int y4), some (.int (y5 / (2 : Int32))), some (.int (y4 + y5))]) (st' := []) (h' := cs_H c rest) ckV_fastestThatStops rfl ?_
          have e : fV_fastestThatStops_30 (n + 1) c y1 y2 y3 y4 y5 = fV_fastestThatStops_30 n c y1 y2 y3 y4 (y5 / (2 : Int32)) := by simp only [fV_fastestThatStops_30, if_neg h1, if_neg h2, e1, ab_bd_s, if_pos h3]
          exact ab_W.weak (ih c y1 y2 y3 y4 (y5 / (2 : Int32)) v (e.symm.trans hv)) ⟨rfl, rfl, rfl, rfl, rfl, trivial⟩
        · refine ab_go 9 [30] (pc' := 30) (lo' := [none, some (.int y1), some (.int y2), some (.int y3), some (.int (y4 + y5)), some (.int (y5 / (2 : Int32))), some (.int (y4 + y5))]) (st' := []) (h' := cs_H c rest) ckV_fastestThatStops rfl ?_
          have e : fV_fastestThatStops_30 (n + 1) c y1 y2 y3 y4 y5 = fV_fastestThatStops_30 n c y1 y2 y3 (y4 + y5) (y5 / (2 : Int32)) := by simp only [fV_fastestThatStops_30, if_neg h1, if_neg h2, e1, ab_bd_s, if_neg h3]
          exact ab_W.weak (ih c y1 y2 y3 (y4 + y5) (y5 / (2 : Int32)) v (e.symm.trans hv)) ⟨rfl, rfl, rfl, rfl, rfl, trivial⟩
theorem tV_fastestThatStops {x1 : Int32} {x2 : Int32} {v : Int32} (hv : fV_fastestThatStops c x1 x2 = some v) : ab_M X mV_fastestThatStops (d + 1) 0 0 [.ref 20, .int x1, .int x2] (cs_H c rest) (fun r9 h9 => r9 = some (Value.int v) ∧ h9 = cs_H c rest) := by
  refine ab_entry (by decide) (Nat.le_of_ble_eq_true rfl) ?_
  refine ab_go 11 [30] (pc' := 15) (lo' := [some (.ref 20), some (.int x1), some (.int x2), none, none, none, none]) (st' := [.int (c.1 1 28), .int (c.1 1 27), .int (1 : Int32)]) (h' := cs_H c rest) ckV_fastestThatStops rfl ?_
  refine ab_mmin ckV_fastestThatStops rfl (by decide +kernel) (by omega) (Nat.le_of_ble_eq_true rfl) ?_
  refine ab_mmax ckV_fastestThatStops rfl (by decide +kernel) (by omega) (Nat.le_of_ble_eq_true rfl) ?_
  refine ab_go 7 [30] (pc' := 30) (lo' := [some (.ref 20), some (.int x1), some (.int x2), some (.int (i_max (1 : Int32) (i_min (c.1 1 27) (c.1 1 28)))), some (.int (0 : Int32)), some (.int (512 : Int32)), none]) (st' := []) (h' := cs_H c rest) ckV_fastestThatStops rfl ?_
  have e : fV_fastestThatStops c x1 x2 = fV_fastestThatStops_30 40 c x1 x2 (i_max (1 : Int32) (i_min (c.1 1 27) (c.1 1 28))) (0 : Int32) (512 : Int32) := by simp only [fV_fastestThatStops]
  exact ab_W.weak (tV_fastestThatStops_30 40 c x1 x2 (i_max (1 : Int32) (i_min (c.1 1 27) (c.1 1 28))) (0 : Int32) (512 : Int32) v (e.symm.trans hv)) ⟨rfl, rfl, rfl, rfl, rfl, trivial⟩
def fV_isArrived (c : cs_S)  : Int32 := (if (c.1 1 18) = (1 : Int32) then (if (c.1 1 21) = 0 then (if (c.1 0 10) = (fV_positionAim c) then (1 : Int32) else (0 : Int32)) else (0 : Int32)) else (0 : Int32))
theorem tV_isArrived : ab_M X mV_isArrived (d + 2) 0 0 [.ref 20] (cs_H c rest) (fun r9 h9 => r9 = some (Value.int (fV_isArrived c)) ∧ h9 = cs_H c rest) := by
  refine ab_entry (by decide) (Nat.le_of_ble_eq_true rfl) ?_
  refine ab_go 7 [] (pc' := 8) (lo' := [some (.ref 20)]) (st' := [.int (1 : Int32), .int (c.1 1 18)]) (h' := cs_H c rest) ckV_isArrived rfl ?_
  refine ab_icmp_ne ckV_isArrived rfl (fun (h1 : ¬ ((c.1 1 18) = (1 : Int32))) => ?_) (fun (h1 : (c.1 1 18) = (1 : Int32)) => ?_)
  · refine ab_go 3 [] (pc' := 37) (lo' := [some (.ref 20)]) (st' := [.int (0 : Int32)]) (h' := cs_H c rest) ckV_isArrived rfl ?_
    have e : fV_isArrived c = (0 : Int32) := by simp only [fV_isArrived, if_neg h1]
    exact ab_zret ckV_isArrived rfl rfl (Or.inl rfl) ⟨(congrArg (fun q : Int32 => some (Value.int q)) e).symm, rfl⟩
  · refine ab_go 6 [] (pc' := 18) (lo' := [some (.ref 20)]) (st' := [.int (c.1 1 21)]) (h' := cs_H c rest) ckV_isArrived rfl ?_
    refine ab_if_ne ckV_isArrived rfl (fun (h2 : ¬ ((c.1 1 21) = 0)) => ?_) (fun (h2 : (c.1 1 21) = 0) => ?_)
    · refine ab_go 3 [] (pc' := 37) (lo' := [some (.ref 20)]) (st' := [.int (0 : Int32)]) (h' := cs_H c rest) ckV_isArrived rfl ?_
      have e : fV_isArrived c = (0 : Int32) := by simp only [fV_isArrived, if_pos h1, if_neg h2]
      exact ab_zret ckV_isArrived rfl rfl (Or.inl rfl) ⟨(congrArg (fun q : Int32 => some (Value.int q)) e).symm, rfl⟩
    · refine ab_go 5 [] (pc' := 26) (lo' := [some (.ref 20)]) (st' := [.ref 20, .int (c.1 0 10)]) (h' := cs_H c rest) ckV_isArrived rfl ?_
      refine ab_callV (bc2 := 0) (bs2 := 0) (as := []) (rest := [_]) ckV_isArrived rfl (by decide +kernel) wV_positionAim (tV_positionAim (d := d) (c := c)) rfl rfl (by omega) ⟨Nat.le_refl _, Nat.le_refl _⟩ (Nat.le_of_ble_eq_true rfl) ?_
      rintro _ _ ⟨rfl, rfl⟩
      refine ab_icmp_ne ckV_isArrived rfl (fun (h3 : ¬ ((c.1 0 10) = (fV_positionAim c))) => ?_) (fun (h3 : (c.1 0 10) = (fV_positionAim c)) => ?_)
      · refine ab_go 3 [] (pc' := 37) (lo' := [some (.ref 20)]) (st' := [.int (0 : Int32)]) (h' := cs_H c rest) ckV_isArrived rfl ?_
        have e : fV_isArrived c = (0 : Int32) := by simp only [fV_isArrived, if_pos h1, if_pos h2, if_neg h3]
        exact ab_zret ckV_isArrived rfl rfl (Or.inl rfl) ⟨(congrArg (fun q : Int32 => some (Value.int q)) e).symm, rfl⟩
      · refine ab_go 4 [] (pc' := 37) (lo' := [some (.ref 20)]) (st' := [.int (1 : Int32)]) (h' := cs_H c rest) ckV_isArrived rfl ?_
        have e : fV_isArrived c = (1 : Int32) := by simp only [fV_isArrived, if_pos h1, if_pos h2, if_pos h3]
        exact ab_zret ckV_isArrived rfl rfl (Or.inr rfl) ⟨(congrArg (fun q : Int32 => some (Value.int q)) e).symm, rfl⟩
def fV_brake (c : cs_S)  : cs_S := (let p1 := fV_moveWith c (fV_slower (c.1 1 21) (c.1 1 28)); p1)
theorem tV_brake : ab_M X mV_brake (d + 2) 0 0 [.ref 20] (cs_H c rest) (fun r9 h9 => r9 = none ∧ h9 = cs_H (fV_brake c) rest) := by
  refine ab_entry (by decide) (Nat.le_of_ble_eq_true rfl) ?_
  refine ab_go 11 [] (pc' := 15) (lo' := [some (.ref 20)]) (st' := [.int (c.1 1 28), .int (c.1 1 21), .ref 20]) (h' := cs_H c rest) ckV_brake rfl ?_
  refine ab_callS (bc2 := 0) (bs2 := 0) (as := [_, _]) (rest := [_]) ckV_brake rfl (by decide +kernel) wV_slower (tV_slower (d := d) (x1 := (c.1 1 21)) (x2 := (c.1 1 28))) (by omega) ⟨Nat.le_refl _, Nat.le_refl _⟩ (Nat.le_of_ble_eq_true rfl) ?_
  rintro _ _ ⟨rfl, rfl⟩
  refine ab_callV (bc2 := 0) (bs2 := 0) (as := [_]) (rest := []) ckV_brake rfl (by decide +kernel) wV_moveWith (tV_moveWith (d := d + 1) (x1 := (fV_slower (c.1 1 21) (c.1 1 28))) (c := c)) rfl rfl (by omega) ⟨Nat.le_refl _, Nat.le_refl _⟩ (Nat.le_of_ble_eq_true rfl) ?_
  rintro _ _ ⟨rfl, rfl⟩
  generalize e1 : fV_moveWith c (fV_slower (c.1 1 21) (c.1 1 28)) = p1
  have e : fV_brake c = p1 := by simp only [fV_brake, e1]
  exact ab_vret ckV_brake rfl rfl ⟨rfl, (congrArg (fun q : cs_S => cs_H q rest) e).symm⟩
def fV_approach (c : cs_S) (x1 : Int32) (x2 : Int32) : Option (cs_S) := (if (c.1 1 21) ≤ 0 then (if 0 ≤ (c.1 1 21) then (ab_bd (fV_fastestThatStops c (i_min ((i_abs (c.1 1 21)) + (c.1 1 27)) x2) (i_abs (x1 - (c.1 0 10)))) (fun p1 => (if 0 ≤ (x1 - (c.1 0 10)) then (let p2 := fV_moveWith c (i_max p1 ((i_abs (c.1 1 21)) - (c.1 1 27))); (some p2)) else (let p3 := fV_moveWith c (-(i_max p1 ((i_abs (c.1 1 21)) - (c.1 1 27)))); (some p3))))) else (if (x1 - (c.1 0 10)) < 0 then (ab_bd (fV_fastestThatStops c (i_min ((i_abs (c.1 1 21)) + (c.1 1 27)) x2) (i_abs (x1 - (c.1 0 10)))) (fun p4 => (if 0 ≤ (x1 - (c.1 0 10)) then (let p5 := fV_moveWith c (i_max p4 ((i_abs (c.1 1 21)) - (c.1 1 27))); (some p5)) else (let p6 := fV_moveWith c (-(i_max p4 ((i_abs (c.1 1 21)) - (c.1 1 27)))); (some p6))))) else (let p7 := fV_moveWith c (fV_slower (c.1 1 21) (c.1 1 27)); (some p7)))) else (if (x1 - (c.1 0 10)) ≤ 0 then (let p8 := fV_moveWith c (fV_slower (c.1 1 21) (c.1 1 27)); (some p8)) else (if 0 ≤ (c.1 1 21) then (ab_bd (fV_fastestThatStops c (i_min ((i_abs (c.1 1 21)) + (c.1 1 27)) x2) (i_abs (x1 - (c.1 0 10)))) (fun p9 => (if 0 ≤ (x1 - (c.1 0 10)) then (let p10 := fV_moveWith c (i_max p9 ((i_abs (c.1 1 21)) - (c.1 1 27))); (some p10)) else (let p11 := fV_moveWith c (-(i_max p9 ((i_abs (c.1 1 21)) - (c.1 1 27)))); (some p11))))) else (if (x1 - (c.1 0 10)) < 0 then (ab_bd (fV_fastestThatStops c (i_min ((i_abs (c.1 1 21)) + (c.1 1 27)) x2) (i_abs (x1 - (c.1 0 10)))) (fun p12 => (if 0 ≤ (x1 - (c.1 0 10)) then (let p13 := fV_moveWith c (i_max p12 ((i_abs (c.1 1 21)) - (c.1 1 27))); (some p13)) else (let p14 := fV_moveWith c (-(i_max p12 ((i_abs (c.1 1 21)) - (c.1 1 27)))); (some p14))))) else (let p15 := fV_moveWith c (fV_slower (c.1 1 21) (c.1 1 27)); (some p15))))))
theorem tV_approach {x1 : Int32} {x2 : Int32} {v : cs_S} (hv : fV_approach c x1 x2 = some v) : ab_M X mV_approach (d + 2) 0 0 [.ref 20, .int x1, .int x2] (cs_H c rest) (fun r9 h9 => r9 = none ∧ h9 = cs_H v rest) := by
  refine ab_entry (by decide) (Nat.le_of_ble_eq_true rfl) ?_
  refine ab_go 18 [] (pc' := 26) (lo' := [some (.ref 20), some (.int x1), some (.int x2), some (.int (c.1 1 21)), some (.int (c.1 1 27)), some (.int (x1 - (c.1 0 10))), none, none, none, none, none]) (st' := [.int (c.1 1 21)]) (h' := cs_H c rest) ckV_approach rfl ?_
  refine ab_if_le ckV_approach rfl (fun (h1 : (c.1 1 21) ≤ 0) => ?_) (fun (h1 : ¬ ((c.1 1 21) ≤ 0)) => ?_)
  · refine ab_go 3 [] (pc' := 35) (lo' := [some (.ref 20), some (.int x1), some (.int x2), some (.int (c.1 1 21)), some (.int (c.1 1 27)), some (.int (x1 - (c.1 0 10))), none, none, none, none, none]) (st' := [.int (c.1 1 21)]) (h' := cs_H c rest) ckV_approach rfl ?_
    refine ab_if_ge ckV_approach rfl (fun (h2 : 0 ≤ (c.1 1 21)) => ?_) (fun (h2 : ¬ (0 ≤ (c.1 1 21))) => ?_)
    · refine ab_go 5 [] (pc' := 52) (lo' := [some (.ref 20), some (.int x1), some (.int x2), some (.int (c.1 1 21)), some (.int (c.1 1 27)), some (.int (x1 - (c.1 0 10))), some (.int (0 : Int32)), none, none, none, none]) (st' := [.int (0 : Int32)]) (h' := cs_H c rest) ckV_approach rfl ?_
      refine ab_if_eq ckV_approach rfl (fun _ => ?_) (fun hh => absurd hh (by decide))
      refine ab_go 3 [] (pc' := 67) (lo' := [some (.ref 20), some (.int x1), some (.int x2), some (.int (c.1 1 21)), some (.int (c.1 1 27)), some (.int (x1 - (c.1 0 10))), some (.int (0 : Int32)), none, none, none, none]) (st' := [.int (c.1 1 21)]) (h' := cs_H c rest) ckV_approach rfl ?_
      refine ab_mabs ckV_approach rfl (by decide +kernel) (by omega) (Nat.le_of_ble_eq_true rfl) ?_
      refine ab_go 7 [] (pc' := 78) (lo' := [some (.ref 20), some (.int x1), some (.int x2), some (.int (c.1 1 21)), some (.int (c.1 1 27)), some (.int (x1 - (c.1 0 10))), some (.int (0 : Int32)), some (.int (i_abs (c.1 1 21))), none, none, none]) (st' := [.int x2, .int ((i_abs (c.1 1 21)) + (c.1 1 27))]) (h' := cs_H c rest) ckV_approach rfl ?_
      refine ab_mmin ckV_approach rfl (by decide +kernel) (by omega) (Nat.le_of_ble_eq_true rfl) ?_
      refine ab_go 6 [] (pc' := 88) (lo' := [some (.ref 20), some (.int x1), some (.int x2), some (.int (c.1 1 21)), some (.int (c.1 1 27)), some (.int (x1 - (c.1 0 10))), some (.int (0 : Int32)), some (.int (i_abs (c.1 1 21))), some (.int (i_min ((i_abs (c.1 1 21)) + (c.1 1 27)) x2)), none, none]) (st' := [.int (x1 - (c.1 0 10)), .int (i_min ((i_abs (c.1 1 21)) + (c.1 1 27)) x2), .ref 20]) (h' := cs_H c rest) ckV_approach rfl ?_
      refine ab_mabs ckV_approach rfl (by decide +kernel) (by omega) (Nat.le_of_ble_eq_true rfl) ?_
      rcases e1 : fV_fastestThatStops c (i_min ((i_abs (c.1 1 21)) + (c.1 1 27)) x2) (i_abs (x1 - (c.1 0 10))) with _ | p1
      · exact ab_no hv (by simp only [fV_approach, if_pos h1, if_pos h2, e1, ab_bd_n])
      refine ab_callV (bc2 := 0) (bs2 := 0) (as := [_, _]) (rest := []) ckV_approach rfl (by decide +kernel) wV_fastestThatStops (tV_fastestThatStops (d := d) (x1 := (i_min ((i_abs (c.1 1 21)) + (c.1 1 27)) x2)) (x2 := (i_abs (x1 - (c.1 0 10)))) (c := c) (v := p1) e1) rfl rfl (by omega) ⟨Nat.le_refl _, Nat.le_refl _⟩ (Nat.le_of_ble_eq_true rfl) ?_
      rintro _ _ ⟨rfl, rfl⟩
      refine ab_go 7 [] (pc' := 103) (lo' := [some (.ref 20), some (.int x1), some (.int x2), some (.int (c.1 1 21)), some (.int (c.1 1 27)), some (.int (x1 - (c.1 0 10))), some (.int (0 : Int32)), some (.int (i_abs (c.1 1 21))), some (.int (i_min ((i_abs (c.1 1 21)) + (c.1 1 27)) x2)), some (.int p1), none]) (st' := [.int ((i_abs (c.1 1 21)) - (c.1 1 27)), .int p1]) (h' := cs_H c rest) ckV_approach rfl ?_
      refine ab_mmax ckV_approach rfl (by decide +kernel) (by omega) (Nat.le_of_ble_eq_true rfl) ?_
      refine ab_go 5 [] (pc' := 111) (lo' := [some (.ref 20), some (.int x1), some (.int x2), some (.int (c.1 1 21)), some (.int (c.1 1 27)), some (.int (x1 - (c.1 0 10))), some (.int (0 : Int32)), some (.int (i_abs (c.1 1 21))), some (.int (i_min ((i_abs (c.1 1 21)) + (c.1 1 27)) x2)), some (.int p1), some (.int (i_max p1 ((i_abs (c.1 1 21)) - (c.1 1 27))))]) (st' := [.int (x1 - (c.1 0 10)), .ref 20]) (h' := cs_H c rest) ckV_approach rfl ?_
      refine ab_if_ge ckV_approach rfl (fun (h3 : 0 ≤ (x1 - (c.1 0 10))) => ?_) (fun (h3 : ¬ (0 ≤ (x1 - (c.1 0 10)))) => ?_)
      · refine ab_go 3 [] (pc' := 122) (lo' := [some (.ref 20), some (.int x1), some (.int x2), some (.int (c.1 1 21)), some (.int (c.1 1 27)), some (.int (x1 - (c.1 0 10))), some (.int (0 : Int32)), some (.int (i_abs (c.1 1 21))), some (.int (i_min ((i_abs (c.1 1 21)) + (c.1 1 27)) x2)), some (.int p1), some (.int (i_max p1 ((i_abs (c.1 1 21)) - (c.1 1 27))))]) (st' := [.int (i_max p1 ((i_abs (c.1 1 21)) - (c.1 1 27))), .ref 20]) (h' := cs_H c rest) ckV_approach rfl ?_
        refine ab_callV (bc2 := 0) (bs2 := 0) (as := [_]) (rest := []) ckV_approach rfl (by decide +kernel) wV_moveWith (tV_moveWith (d := d + 1) (x1 := (i_max p1 ((i_abs (c.1 1 21)) - (c.1 1 27)))) (c := c)) rfl rfl (by omega) ⟨Nat.le_refl _, Nat.le_refl _⟩ (Nat.le_of_ble_eq_true rfl) ?_
        rintro _ _ ⟨rfl, rfl⟩
        generalize e2 : fV_moveWith c (i_max p1 ((i_abs (c.1 1 21)) - (c.1 1 27))) = p2
        have e : fV_approach c x1 x2 = some p2 := by simp only [fV_approach, if_pos h1, if_pos h2, e1, ab_bd_s, if_pos h3, e2]
        obtain rfl := Option.some.inj (e.symm.trans hv)
        exact ab_vret ckV_approach rfl rfl ⟨rfl, rfl⟩
      · refine ab_go 5 [] (pc' := 122) (lo' := [some (.ref 20), some (.int x1), some (.int x2), some (.int (c.1 1 21)), some (.int (c.1 1 27)), some (.int (x1 - (c.1 0 10))), some (.int (0 : Int32)), some (.int (i_abs (c.1 1 21))), some (.int (i_min ((i_abs (c.1 1 21)) + (c.1 1 27)) x2)), some (.int p1), some (.int (i_max p1 ((i_abs (c.1 1 21)) - (c.1 1 27))))]) (st' := [.int (-(i_max p1 ((i_abs (c.1 1 21)) - (c.1 1 27)))), .ref 20]) (h' := cs_H c rest) ckV_approach rfl ?_
        refine ab_callV (bc2 := 0) (bs2 := 0) (as := [_]) (rest := []) ckV_approach rfl (by decide +kernel) wV_moveWith (tV_moveWith (d := d + 1) (x1 := (-(i_max p1 ((i_abs (c.1 1 21)) - (c.1 1 27))))) (c := c)) rfl rfl (by omega) ⟨Nat.le_refl _, Nat.le_refl _⟩ (Nat.le_of_ble_eq_true rfl) ?_
        rintro _ _ ⟨rfl, rfl⟩
        generalize e3 : fV_moveWith c (-(i_max p1 ((i_abs (c.1 1 21)) - (c.1 1 27)))) = p3
        have e : fV_approach c x1 x2 = some p3 := by simp only [fV_approach, if_pos h1, if_pos h2, e1, ab_bd_s, if_neg h3, e3]
        obtain rfl := Option.some.inj (e.symm.trans hv)
        exact ab_vret ckV_approach rfl rfl ⟨rfl, rfl⟩
    · refine ab_go 3 [] (pc' := 40) (lo' := [some (.ref 20), some (.int x1), some (.int x2), some (.int (c.1 1 21)), some (.int (c.1 1 27)), some (.int (x1 - (c.1 0 10))), none, none, none, none, none]) (st' := [.int (x1 - (c.1 0 10))]) (h' := cs_H c rest) ckV_approach rfl ?_
      refine ab_if_lt ckV_approach rfl (fun (h4 : (x1 - (c.1 0 10)) < 0) => ?_) (fun (h4 : ¬ ((x1 - (c.1 0 10)) < 0)) => ?_)
      · refine ab_go 5 [] (pc' := 52) (lo' := [some (.ref 20), some (.int x1), some (.int x2), some (.int (c.1 1 21)), some (.int (c.1 1 27)), some (.int (x1 - (c.1 0 10))), some (.int (0 : Int32)), none, none, none, none]) (st' := [.int (0 : Int32)]) (h' := cs_H c rest) ckV_approach rfl ?_
        refine ab_if_eq ckV_approach rfl (fun _ => ?_) (fun hh => absurd hh (by decide))
        refine ab_go 3 [] (pc' := 67) (lo' := [some (.ref 20), some (.int x1), some (.int x2), some (.int (c.1 1 21)), some (.int (c.1 1 27)), some (.int (x1 - (c.1 0 10))), some (.int (0 : Int32)), none, none, none, none]) (st' := [.int (c.1 1 21)]) (h' := cs_H c rest) ckV_approach rfl ?_
        refine ab_mabs ckV_approach rfl (by decide +kernel) (by omega) (Nat.le_of_ble_eq_true rfl) ?_
        refine ab_go 7 [] (pc' := 78) (lo' := [some (.ref 20), some (.int x1), some (.int x2), some (.int (c.1 1 21)), some (.int (c.1 1 27)), some (.int (x1 - (c.1 0 10))), some (.int (0 : Int32)), some (.int (i_abs (c.1 1 21))), none, none, none]) (st' := [.int x2, .int ((i_abs (c.1 1 21)) + (c.1 1 27))]) (h' := cs_H c rest) ckV_approach rfl ?_
        refine ab_mmin ckV_approach rfl (by decide +kernel) (by omega) (Nat.le_of_ble_eq_true rfl) ?_
        refine ab_go 6 [] (pc' := 88) (lo' := [some (.ref 20), some (.int x1), some (.int x2), some (.int (c.1 1 21)), some (.int (c.1 1 27)), some (.int (x1 - (c.1 0 10))), some (.int (0 : Int32)), some (.int (i_abs (c.1 1 21))), some (.int (i_min ((i_abs (c.1 1 21)) + (c.1 1 27)) x2)), none, none]) (st' := [.int (x1 - (c.1 0 10)), .int (i_min ((i_abs (c.1 1 21)) + (c.1 1 27)) x2), .ref 20]) (h' := cs_H c rest) ckV_approach rfl ?_
        refine ab_mabs ckV_approach rfl (by decide +kernel) (by omega) (Nat.le_of_ble_eq_true rfl) ?_
        rcases e4 : fV_fastestThatStops c (i_min ((i_abs (c.1 1 21)) + (c.1 1 27)) x2) (i_abs (x1 - (c.1 0 10))) with _ | p4
        · exact ab_no hv (by simp only [fV_approach, if_pos h1, if_neg h2, if_pos h4, e4, ab_bd_n])
        refine ab_callV (bc2 := 0) (bs2 := 0) (as := [_, _]) (rest := []) ckV_approach rfl (by decide +kernel) wV_fastestThatStops (tV_fastestThatStops (d := d) (x1 := (i_min ((i_abs (c.1 1 21)) + (c.1 1 27)) x2)) (x2 := (i_abs (x1 - (c.1 0 10)))) (c := c) (v := p4) e4) rfl rfl (by omega) ⟨Nat.le_refl _, Nat.le_refl _⟩ (Nat.le_of_ble_eq_true rfl) ?_
        rintro _ _ ⟨rfl, rfl⟩
        refine ab_go 7 [] (pc' := 103) (lo' := [some (.ref 20), some (.int x1), some (.int x2), some (.int (c.1 1 21)), some (.int (c.1 1 27)), some (.int (x1 - (c.1 0 10))), some (.int (0 : Int32)), some (.int (i_abs (c.1 1 21))), some (.int (i_min ((i_abs (c.1 1 21)) + (c.1 1 27)) x2)), some (.int p4), none]) (st' := [.int ((i_abs (c.1 1 21)) - (c.1 1 27)), .int p4]) (h' := cs_H c rest) ckV_approach rfl ?_
        refine ab_mmax ckV_approach rfl (by decide +kernel) (by omega) (Nat.le_of_ble_eq_true rfl) ?_
        refine ab_go 5 [] (pc' := 111) (lo' := [some (.ref 20), some (.int x1), some (.int x2), some (.int (c.1 1 21)), some (.int (c.1 1 27)), some (.int (x1 - (c.1 0 10))), some (.int (0 : Int32)), some (.int (i_abs (c.1 1 21))), some (.int (i_min ((i_abs (c.1 1 21)) + (c.1 1 27)) x2)), some (.int p4), some (.int (i_max p4 ((i_abs (c.1 1 21)) - (c.1 1 27))))]) (st' := [.int (x1 - (c.1 0 10)), .ref 20]) (h' := cs_H c rest) ckV_approach rfl ?_
        refine ab_if_ge ckV_approach rfl (fun (h5 : 0 ≤ (x1 - (c.1 0 10))) => ?_) (fun (h5 : ¬ (0 ≤ (x1 - (c.1 0 10)))) => ?_)
        · refine ab_go 3 [] (pc' := 122) (lo' := [some (.ref 20), some (.int x1), some (.int x2), some (.int (c.1 1 21)), some (.int (c.1 1 27)), some (.int (x1 - (c.1 0 10))), some (.int (0 : Int32)), some (.int (i_abs (c.1 1 21))), some (.int (i_min ((i_abs (c.1 1 21)) + (c.1 1 27)) x2)), some (.int p4), some (.int (i_max p4 ((i_abs (c.1 1 21)) - (c.1 1 27))))]) (st' := [.int (i_max p4 ((i_abs (c.1 1 21)) - (c.1 1 27))), .ref 20]) (h' := cs_H c rest) ckV_approach rfl ?_
          refine ab_callV (bc2 := 0) (bs2 := 0) (as := [_]) (rest := []) ckV_approach rfl (by decide +kernel) wV_moveWith (tV_moveWith (d := d + 1) (x1 := (i_max p4 ((i_abs (c.1 1 21)) - (c.1 1 27)))) (c := c)) rfl rfl (by omega) ⟨Nat.le_refl _, Nat.le_refl _⟩ (Nat.le_of_ble_eq_true rfl) ?_
          rintro _ _ ⟨rfl, rfl⟩
          generalize e5 : fV_moveWith c (i_max p4 ((i_abs (c.1 1 21)) - (c.1 1 27))) = p5
          have e : fV_approach c x1 x2 = some p5 := by simp only [fV_approach, if_pos h1, if_neg h2, if_pos h4, e4, ab_bd_s, if_pos h5, e5]
          obtain rfl := Option.some.inj (e.symm.trans hv)
          exact ab_vret ckV_approach rfl rfl ⟨rfl, rfl⟩
        · refine ab_go 5 [] (pc' := 122) (lo' := [some (.ref 20), some (.int x1), some (.int x2), some (.int (c.1 1 21)), some (.int (c.1 1 27)), some (.int (x1 - (c.1 0 10))), some (.int (0 : Int32)), some (.int (i_abs (c.1 1 21))), some (.int (i_min ((i_abs (c.1 1 21)) + (c.1 1 27)) x2)), some (.int p4), some (.int (i_max p4 ((i_abs (c.1 1 21)) - (c.1 1 27))))]) (st' := [.int (-(i_max p4 ((i_abs (c.1 1 21)) - (c.1 1 27)))), .ref 20]) (h' := cs_H c rest) ckV_approach rfl ?_
          refine ab_callV (bc2 := 0) (bs2 := 0) (as := [_]) (rest := []) ckV_approach rfl (by decide +kernel) wV_moveWith (tV_moveWith (d := d + 1) (x1 := (-(i_max p4 ((i_abs (c.1 1 21)) - (c.1 1 27))))) (c := c)) rfl rfl (by omega) ⟨Nat.le_refl _, Nat.le_refl _⟩ (Nat.le_of_ble_eq_true rfl) ?_
          rintro _ _ ⟨rfl, rfl⟩
          generalize e6 : fV_moveWith c (-(i_max p4 ((i_abs (c.1 1 21)) - (c.1 1 27)))) = p6
          have e : fV_approach c x1 x2 = some p6 := by simp only [fV_approach, if_pos h1, if_neg h2, if_pos h4, e4, ab_bd_s, if_neg h5, e6]
          obtain rfl := Option.some.inj (e.symm.trans hv)
          exact ab_vret ckV_approach rfl rfl ⟨rfl, rfl⟩
      · refine ab_go 6 [] (pc' := 52) (lo' := [some (.ref 20), some (.int x1), some (.int x2), some (.int (c.1 1 21)), some (.int (c.1 1 27)), some (.int (x1 - (c.1 0 10))), some (.int (1 : Int32)), none, none, none, none]) (st' := [.int (1 : Int32)]) (h' := cs_H c rest) ckV_approach rfl ?_
        refine ab_if_eq ckV_approach rfl (fun hh => absurd hh (by decide)) (fun _ => ?_)
        refine ab_go 5 [] (pc' := 59) (lo' := [some (.ref 20), some (.int x1), some (.int x2), some (.int (c.1 1 21)), some (.int (c.1 1 27)), some (.int (x1 - (c.1 0 10))), some (.int (1 : Int32)), none, none, none, none]) (st' := [.int (c.1 1 27), .int (c.1 1 21), .ref 20]) (h' := cs_H c rest) ckV_approach rfl ?_
        refine ab_callS (bc2 := 0) (bs2 := 0) (as := [_, _]) (rest := [_]) ckV_approach rfl (by decide +kernel) wV_slower (tV_slower (d := d) (x1 := (c.1 1 21)) (x2 := (c.1 1 27))) (by omega) ⟨Nat.le_refl _, Nat.le_refl _⟩ (Nat.le_of_ble_eq_true rfl) ?_
        rintro _ _ ⟨rfl, rfl⟩
        refine ab_callV (bc2 := 0) (bs2 := 0) (as := [_]) (rest := []) ckV_approach rfl (by decide +kernel) wV_moveWith (tV_moveWith (d := d + 1) (x1 := (fV_slower (c.1 1 21) (c.1 1 27))) (c := c)) rfl rfl (by omega) ⟨Nat.le_refl _, Nat.le_refl _⟩ (Nat.le_of_ble_eq_true rfl) ?_
        rintro _ _ ⟨rfl, rfl⟩
        generalize e7 : fV_moveWith c (fV_slower (c.1 1 21) (c.1 1 27)) = p7
        have e : fV_approach c x1 x2 = some p7 := by simp only [fV_approach, if_pos h1, if_neg h2, if_neg h4, e7]
        obtain rfl := Option.some.inj (e.symm.trans hv)
        exact ab_vret ckV_approach rfl rfl ⟨rfl, rfl⟩
  · refine ab_go 3 [] (pc' := 31) (lo' := [some (.ref 20), some (.int x1), some (.int x2), some (.int (c.1 1 21)), some (.int (c.1 1 27)), some (.int (x1 - (c.1 0 10))), none, none, none, none, none]) (st' := [.int (x1 - (c.1 0 10))]) (h' := cs_H c rest) ckV_approach rfl ?_
    refine ab_if_le ckV_approach rfl (fun (h6 : (x1 - (c.1 0 10)) ≤ 0) => ?_) (fun (h6 : ¬ ((x1 - (c.1 0 10)) ≤ 0)) => ?_)
    · refine ab_go 6 [] (pc' := 52) (lo' := [some (.ref 20), some (.int x1), some (.int x2), some (.int (c.1 1 21)), some (.int (c.1 1 27)), some (.int (x1 - (c.1 0 10))), some (.int (1 : Int32)), none, none, none, none]) (st' := [.int (1 : Int32)]) (h' := cs_H c rest) ckV_approach rfl ?_
      refine ab_if_eq ckV_approach rfl (fun hh => absurd hh (by decide)) (fun _ => ?_)
      refine ab_go 5 [] (pc' := 59) (lo' := [some (.ref 20), some (.int x1), some (.int x2), some (.int (c.1 1 21)), some (.int (c.1 1 27)), some (.int (x1 - (c.1 0 10))), some (.int (1 : Int32)), none, none, none, none]) (st' := [.int (c.1 1 27), .int (c.1 1 21), .ref 20]) (h' := cs_H c rest) ckV_approach rfl ?_
      refine ab_callS (bc2 := 0) (bs2 := 0) (as := [_, _]) (rest := [_]) ckV_approach rfl (by decide +kernel) wV_slower (tV_slower (d := d) (x1 := (c.1 1 21)) (x2 := (c.1 1 27))) (by omega) ⟨Nat.le_refl _, Nat.le_refl _⟩ (Nat.le_of_ble_eq_true rfl) ?_
      rintro _ _ ⟨rfl, rfl⟩
      refine ab_callV (bc2 := 0) (bs2 := 0) (as := [_]) (rest := []) ckV_approach rfl (by decide +kernel) wV_moveWith (tV_moveWith (d := d + 1) (x1 := (fV_slower (c.1 1 21) (c.1 1 27))) (c := c)) rfl rfl (by omega) ⟨Nat.le_refl _, Nat.le_refl _⟩ (Nat.le_of_ble_eq_true rfl) ?_
      rintro _ _ ⟨rfl, rfl⟩
      generalize e8 : fV_moveWith c (fV_slower (c.1 1 21) (c.1 1 27)) = p8
      have e : fV_approach c x1 x2 = some p8 := by simp only [fV_approach, if_neg h1, if_pos h6, e8]
      obtain rfl := Option.some.inj (e.symm.trans hv)
      exact ab_vret ckV_approach rfl rfl ⟨rfl, rfl⟩
    · refine ab_go 3 [] (pc' := 35) (lo' := [some (.ref 20), some (.int x1), some (.int x2), some (.int (c.1 1 21)), some (.int (c.1 1 27)), some (.int (x1 - (c.1 0 10))), none, none, none, none, none]) (st' := [.int (c.1 1 21)]) (h' := cs_H c rest) ckV_approach rfl ?_
      refine ab_if_ge ckV_approach rfl (fun (h7 : 0 ≤ (c.1 1 21)) => ?_) (fun (h7 : ¬ (0 ≤ (c.1 1 21))) => ?_)
      · refine ab_go 5 [] (pc' := 52) (lo' := [some (.ref 20), some (.int x1), some (.int x2), some (.int (c.1 1 21)), some (.int (c.1 1 27)), some (.int (x1 - (c.1 0 10))), some (.int (0 : Int32)), none, none, none, none]) (st' := [.int (0 : Int32)]) (h' := cs_H c rest) ckV_approach rfl ?_
        refine ab_if_eq ckV_approach rfl (fun _ => ?_) (fun hh => absurd hh (by decide))
        refine ab_go 3 [] (pc' := 67) (lo' := [some (.ref 20), some (.int x1), some (.int x2), some (.int (c.1 1 21)), some (.int (c.1 1 27)), some (.int (x1 - (c.1 0 10))), some (.int (0 : Int32)), none, none, none, none]) (st' := [.int (c.1 1 21)]) (h' := cs_H c rest) ckV_approach rfl ?_
        refine ab_mabs ckV_approach rfl (by decide +kernel) (by omega) (Nat.le_of_ble_eq_true rfl) ?_
        refine ab_go 7 [] (pc' := 78) (lo' := [some (.ref 20), some (.int x1), some (.int x2), some (.int (c.1 1 21)), some (.int (c.1 1 27)), some (.int (x1 - (c.1 0 10))), some (.int (0 : Int32)), some (.int (i_abs (c.1 1 21))), none, none, none]) (st' := [.int x2, .int ((i_abs (c.1 1 21)) + (c.1 1 27))]) (h' := cs_H c rest) ckV_approach rfl ?_
        refine ab_mmin ckV_approach rfl (by decide +kernel) (by omega) (Nat.le_of_ble_eq_true rfl) ?_
        refine ab_go 6 [] (pc' := 88) (lo' := [some (.ref 20), some (.int x1), some (.int x2), some (.int (c.1 1 21)), some (.int (c.1 1 27)), some (.int (x1 - (c.1 0 10))), some (.int (0 : Int32)), some (.int (i_abs (c.1 1 21))), some (.int (i_min ((i_abs (c.1 1 21)) + (c.1 1 27)) x2)), none, none]) (st' := [.int (x1 - (c.1 0 10)), .int (i_min ((i_abs (c.1 1 21)) + (c.1 1 27)) x2), .ref 20]) (h' := cs_H c rest) ckV_approach rfl ?_
        refine ab_mabs ckV_approach rfl (by decide +kernel) (by omega) (Nat.le_of_ble_eq_true rfl) ?_
        rcases e9 : fV_fastestThatStops c (i_min ((i_abs (c.1 1 21)) + (c.1 1 27)) x2) (i_abs (x1 - (c.1 0 10))) with _ | p9
        · exact ab_no hv (by simp only [fV_approach, if_neg h1, if_neg h6, if_pos h7, e9, ab_bd_n])
        refine ab_callV (bc2 := 0) (bs2 := 0) (as := [_, _]) (rest := []) ckV_approach rfl (by decide +kernel) wV_fastestThatStops (tV_fastestThatStops (d := d) (x1 := (i_min ((i_abs (c.1 1 21)) + (c.1 1 27)) x2)) (x2 := (i_abs (x1 - (c.1 0 10)))) (c := c) (v := p9) e9) rfl rfl (by omega) ⟨Nat.le_refl _, Nat.le_refl _⟩ (Nat.le_of_ble_eq_true rfl) ?_
        rintro _ _ ⟨rfl, rfl⟩
        refine ab_go 7 [] (pc' := 103) (lo' := [some (.ref 20), some (.int x1), some (.int x2), some (.int (c.1 1 21)), some (.int (c.1 1 27)), some (.int (x1 - (c.1 0 10))), some (.int (0 : Int32)), some (.int (i_abs (c.1 1 21))), some (.int (i_min ((i_abs (c.1 1 21)) + (c.1 1 27)) x2)), some (.int p9), none]) (st' := [.int ((i_abs (c.1 1 21)) - (c.1 1 27)), .int p9]) (h' := cs_H c rest) ckV_approach rfl ?_
        refine ab_mmax ckV_approach rfl (by decide +kernel) (by omega) (Nat.le_of_ble_eq_true rfl) ?_
        refine ab_go 5 [] (pc' := 111) (lo' := [some (.ref 20), some (.int x1), some (.int x2), some (.int (c.1 1 21)), some (.int (c.1 1 27)), some (.int (x1 - (c.1 0 10))), some (.int (0 : Int32)), some (.int (i_abs (c.1 1 21))), some (.int (i_min ((i_abs (c.1 1 21)) + (c.1 1 27)) x2)), some (.int p9), some (.int (i_max p9 ((i_abs (c.1 1 21)) - (c.1 1 27))))]) (st' := [.int (x1 - (c.1 0 10)), .ref 20]) (h' := cs_H c rest) ckV_approach rfl ?_
        refine ab_if_ge ckV_approach rfl (fun (h8 : 0 ≤ (x1 - (c.1 0 10))) => ?_) (fun (h8 : ¬ (0 ≤ (x1 - (c.1 0 10)))) => ?_)
        · refine ab_go 3 [] (pc' := 122) (lo' := [some (.ref 20), some (.int x1), some (.int x2), some (.int (c.1 1 21)), some (.int (c.1 1 27)), some (.int (x1 - (c.1 0 10))), some (.int (0 : Int32)), some (.int (i_abs (c.1 1 21))), some (.int (i_min ((i_abs (c.1 1 21)) + (c.1 1 27)) x2)), some (.int p9), some (.int (i_max p9 ((i_abs (c.1 1 21)) - (c.1 1 27))))]) (st' := [.int (i_max p9 ((i_abs (c.1 1 21)) - (c.1 1 27))), .ref 20]) (h' := cs_H c rest) ckV_approach rfl ?_
          refine ab_callV (bc2 := 0) (bs2 := 0) (as := [_]) (rest := []) ckV_approach rfl (by decide +kernel) wV_moveWith (tV_moveWith (d := d + 1) (x1 := (i_max p9 ((i_abs (c.1 1 21)) - (c.1 1 27)))) (c := c)) rfl rfl (by omega) ⟨Nat.le_refl _, Nat.le_refl _⟩ (Nat.le_of_ble_eq_true rfl) ?_
          rintro _ _ ⟨rfl, rfl⟩
          generalize e10 : fV_moveWith c (i_max p9 ((i_abs (c.1 1 21)) - (c.1 1 27))) = p10
          have e : fV_approach c x1 x2 = some p10 := by simp only [fV_approach, if_neg h1, if_neg h6, if_pos h7, e9, ab_bd_s, if_pos h8, e10]
          obtain rfl := Option.some.inj (e.symm.trans hv)
          exact ab_vret ckV_approach rfl rfl ⟨rfl, rfl⟩
        · refine ab_go 5 [] (pc' := 122) (lo' := [some (.ref 20), some (.int x1), some (.int x2), some (.int (c.1 1 21)), some (.int (c.1 1 27)), some (.int (x1 - (c.1 0 10))), some (.int (0 : Int32)), some (.int (i_abs (c.1 1 21))), some (.int (i_min ((i_abs (c.1 1 21)) + (c.1 1 27)) x2)), some (.int p9), some (.int (i_max p9 ((i_abs (c.1 1 21)) - (c.1 1 27))))]) (st' := [.int (-(i_max p9 ((i_abs (c.1 1 21)) - (c.1 1 27)))), .ref 20]) (h' := cs_H c rest) ckV_approach rfl ?_
          refine ab_callV (bc2 := 0) (bs2 := 0) (as := [_]) (rest := []) ckV_approach rfl (by decide +kernel) wV_moveWith (tV_moveWith (d := d + 1) (x1 := (-(i_max p9 ((i_abs (c.1 1 21)) - (c.1 1 27))))) (c := c)) rfl rfl (by omega) ⟨Nat.le_refl _, Nat.le_refl _⟩ (Nat.le_of_ble_eq_true rfl) ?_
          rintro _ _ ⟨rfl, rfl⟩
          generalize e11 : fV_moveWith c (-(i_max p9 ((i_abs (c.1 1 21)) - (c.1 1 27)))) = p11
          have e : fV_approach c x1 x2 = some p11 := by simp only [fV_approach, if_neg h1, if_neg h6, if_pos h7, e9, ab_bd_s, if_neg h8, e11]
          obtain rfl := Option.some.inj (e.symm.trans hv)
          exact ab_vret ckV_approach rfl rfl ⟨rfl, rfl⟩
      · refine ab_go 3 [] (pc' := 40) (lo' := [some (.ref 20), some (.int x1), some (.int x2), some (.int (c.1 1 21)), some (.int (c.1 1 27)), some (.int (x1 - (c.1 0 10))), none, none, none, none, none]) (st' := [.int (x1 - (c.1 0 10))]) (h' := cs_H c rest) ckV_approach rfl ?_
        refine ab_if_lt ckV_approach rfl (fun (h9 : (x1 - (c.1 0 10)) < 0) => ?_) (fun (h9 : ¬ ((x1 - (c.1 0 10)) < 0)) => ?_)
        · refine ab_go 5 [] (pc' := 52) (lo' := [some (.ref 20), some (.int x1), some (.int x2), some (.int (c.1 1 21)), some (.int (c.1 1 27)), some (.int (x1 - (c.1 0 10))), some (.int (0 : Int32)), none, none, none, none]) (st' := [.int (0 : Int32)]) (h' := cs_H c rest) ckV_approach rfl ?_
          refine ab_if_eq ckV_approach rfl (fun _ => ?_) (fun hh => absurd hh (by decide))
          refine ab_go 3 [] (pc' := 67) (lo' := [some (.ref 20), some (.int x1), some (.int x2), some (.int (c.1 1 21)), some (.int (c.1 1 27)), some (.int (x1 - (c.1 0 10))), some (.int (0 : Int32)), none, none, none, none]) (st' := [.int (c.1 1 21)]) (h' := cs_H c rest) ckV_approach rfl ?_
          refine ab_mabs ckV_approach rfl (by decide +kernel) (by omega) (Nat.le_of_ble_eq_true rfl) ?_
          refine ab_go 7 [] (pc' := 78) (lo' := [some (.ref 20), some (.int x1), some (.int x2), some (.int (c.1 1 21)), some (.int (c.1 1 27)), some (.int (x1 - (c.1 0 10))), some (.int (0 : Int32)), some (.int (i_abs (c.1 1 21))), none, none, none]) (st' := [.int x2, .int ((i_abs (c.1 1 21)) + (c.1 1 27))]) (h' := cs_H c rest) ckV_approach rfl ?_
          refine ab_mmin ckV_approach rfl (by decide +kernel) (by omega) (Nat.le_of_ble_eq_true rfl) ?_
          refine ab_go 6 [] (pc' := 88) (lo' := [some (.ref 20), some (.int x1), some (.int x2), some (.int (c.1 1 21)), some (.int (c.1 1 27)), some (.int (x1 - (c.1 0 10))), some (.int (0 : Int32)), some (.int (i_abs (c.1 1 21))), some (.int (i_min ((i_abs (c.1 1 21)) + (c.1 1 27)) x2)), none, none]) (st' := [.int (x1 - (c.1 0 10)), .int (i_min ((i_abs (c.1 1 21)) + (c.1 1 27)) x2), .ref 20]) (h' := cs_H c rest) ckV_approach rfl ?_
          refine ab_mabs ckV_approach rfl (by decide +kernel) (by omega) (Nat.le_of_ble_eq_true rfl) ?_
          rcases e12 : fV_fastestThatStops c (i_min ((i_abs (c.1 1 21)) + (c.1 1 27)) x2) (i_abs (x1 - (c.1 0 10))) with _ | p12
          · exact ab_no hv (by simp only [fV_approach, if_neg h1, if_neg h6, if_neg h7, if_pos h9, e12, ab_bd_n])
          refine ab_callV (bc2 := 0) (bs2 := 0) (as := [_, _]) (rest := []) ckV_approach rfl (by decide +kernel) wV_fastestThatStops (tV_fastestThatStops (d := d) (x1 := (i_min ((i_abs (c.1 1 21)) + (c.1 1 27)) x2)) (x2 := (i_abs (x1 - (c.1 0 10)))) (c := c) (v := p12) e12) rfl rfl (by omega) ⟨Nat.le_refl _, Nat.le_refl _⟩ (Nat.le_of_ble_eq_true rfl) ?_
          rintro _ _ ⟨rfl, rfl⟩
          refine ab_go 7 [] (pc' := 103) (lo' := [some (.ref 20), some (.int x1), some (.int x2), some (.int (c.1 1 21)), some (.int (c.1 1 27)), some (.int (x1 - (c.1 0 10))), some (.int (0 : Int32)), some (.int (i_abs (c.1 1 21))), some (.int (i_min ((i_abs (c.1 1 21)) + (c.1 1 27)) x2)), some (.int p12), none]) (st' := [.int ((i_abs (c.1 1 21)) - (c.1 1 27)), .int p12]) (h' := cs_H c rest) ckV_approach rfl ?_
          refine ab_mmax ckV_approach rfl (by decide +kernel) (by omega) (Nat.le_of_ble_eq_true rfl) ?_
          refine ab_go 5 [] (pc' := 111) (lo' := [some (.ref 20), some (.int x1), some (.int x2), some (.int (c.1 1 21)), some (.int (c.1 1 27)), some (.int (x1 - (c.1 0 10))), some (.int (0 : Int32)), some (.int (i_abs (c.1 1 21))), some (.int (i_min ((i_abs (c.1 1 21)) + (c.1 1 27)) x2)), some (.int p12), some (.int (i_max p12 ((i_abs (c.1 1 21)) - (c.1 1 27))))]) (st' := [.int (x1 - (c.1 0 10)), .ref 20]) (h' := cs_H c rest) ckV_approach rfl ?_
          refine ab_if_ge ckV_approach rfl (fun (h10 : 0 ≤ (x1 - (c.1 0 10))) => ?_) (fun (h10 : ¬ (0 ≤ (x1 - (c.1 0 10)))) => ?_)
          · refine ab_go 3 [] (pc' := 122) (lo' := [some (.ref 20), some (.int x1), some (.int x2), some (.int (c.1 1 21)), some (.int (c.1 1 27)), some (.int (x1 - (c.1 0 10))), some (.int (0 : Int32)), some (.int (i_abs (c.1 1 21))), some (.int (i_min ((i_abs (c.1 1 21)) + (c.1 1 27)) x2)), some (.int p12), some (.int (i_max p12 ((i_abs (c.1 1 21)) - (c.1 1 27))))]) (st' := [.int (i_max p12 ((i_abs (c.1 1 21)) - (c.1 1 27))), .ref 20]) (h' := cs_H c rest) ckV_approach rfl ?_
            refine ab_callV (bc2 := 0) (bs2 := 0) (as := [_]) (rest := []) ckV_approach rfl (by decide +kernel) wV_moveWith (tV_moveWith (d := d + 1) (x1 := (i_max p12 ((i_abs (c.1 1 21)) - (c.1 1 27)))) (c := c)) rfl rfl (by omega) ⟨Nat.le_refl _, Nat.le_refl _⟩ (Nat.le_of_ble_eq_true rfl) ?_
            rintro _ _ ⟨rfl, rfl⟩
            generalize e13 : fV_moveWith c (i_max p12 ((i_abs (c.1 1 21)) - (c.1 1 27))) = p13
            have e : fV_approach c x1 x2 = some p13 := by simp only [fV_approach, if_neg h1, if_neg h6, if_neg h7, if_pos h9, e12, ab_bd_s, if_pos h10, e13]
            obtain rfl := Option.some.inj (e.symm.trans hv)
            exact ab_vret ckV_approach rfl rfl ⟨rfl, rfl⟩
          · refine ab_go 5 [] (pc' := 122) (lo' := [some (.ref 20), some (.int x1), some (.int x2), some (.int (c.1 1 21)), some (.int (c.1 1 27)), some (.int (x1 - (c.1 0 10))), some (.int (0 : Int32)), some (.int (i_abs (c.1 1 21))), some (.int (i_min ((i_abs (c.1 1 21)) + (c.1 1 27)) x2)), some (.int p12), some (.int (i_max p12 ((i_abs (c.1 1 21)) - (c.1 1 27))))]) (st' := [.int (-(i_max p12 ((i_abs (c.1 1 21)) - (c.1 1 27)))), .ref 20]) (h' := cs_H c rest) ckV_approach rfl ?_
            refine ab_callV (bc2 := 0) (bs2 := 0) (as := [_]) (rest := []) ckV_approach rfl (by decide +kernel) wV_moveWith (tV_moveWith (d := d + 1) (x1 := (-(i_max p12 ((i_abs (c.1 1 21)) - (c.1 1 27))))) (c := c)) rfl rfl (by omega) ⟨Nat.le_refl _, Nat.le_refl _⟩ (Nat.le_of_ble_eq_true rfl) ?_
            rintro _ _ ⟨rfl, rfl⟩
            generalize e14 : fV_moveWith c (-(i_max p12 ((i_abs (c.1 1 21)) - (c.1 1 27)))) = p14
            have e : fV_approach c x1 x2 = some p14 := by simp only [fV_approach, if_neg h1, if_neg h6, if_neg h7, if_pos h9, e12, ab_bd_s, if_neg h10, e14]
            obtain rfl := Option.some.inj (e.symm.trans hv)
            exact ab_vret ckV_approach rfl rfl ⟨rfl, rfl⟩
        · refine ab_go 6 [] (pc' := 52) (lo' := [some (.ref 20), some (.int x1), some (.int x2), some (.int (c.1 1 21)), some (.int (c.1 1 27)), some (.int (x1 - (c.1 0 10))), some (.int (1 : Int32)), none, none, none, none]) (st' := [.int (1 : Int32)]) (h' := cs_H c rest) ckV_approach rfl ?_
          refine ab_if_eq ckV_approach rfl (fun hh => absurd hh (by decide)) (fun _ => ?_)
          refine ab_go 5 [] (pc' := 59) (lo' := [some (.ref 20), some (.int x1), some (.int x2), some (.int (c.1 1 21)), some (.int (c.1 1 27)), some (.int (x1 - (c.1 0 10))), some (.int (1 : Int32)), none, none, none, none]) (st' := [.int (c.1 1 27), .int (c.1 1 21), .ref 20]) (h' := cs_H c rest) ckV_approach rfl ?_
          refine ab_callS (bc2 := 0) (bs2 := 0) (as := [_, _]) (rest := [_]) ckV_approach rfl (by decide +kernel) wV_slower (tV_slower (d := d) (x1 := (c.1 1 21)) (x2 := (c.1 1 27))) (by omega) ⟨Nat.le_refl _, Nat.le_refl _⟩ (Nat.le_of_ble_eq_true rfl) ?_
          rintro _ _ ⟨rfl, rfl⟩
          refine ab_callV (bc2 := 0) (bs2 := 0) (as := [_]) (rest := []) ckV_approach rfl (by decide +kernel) wV_moveWith (tV_moveWith (d := d + 1) (x1 := (fV_slower (c.1 1 21) (c.1 1 27))) (c := c)) rfl rfl (by omega) ⟨Nat.le_refl _, Nat.le_refl _⟩ (Nat.le_of_ble_eq_true rfl) ?_
          rintro _ _ ⟨rfl, rfl⟩
          generalize e15 : fV_moveWith c (fV_slower (c.1 1 21) (c.1 1 27)) = p15
          have e : fV_approach c x1 x2 = some p15 := by simp only [fV_approach, if_neg h1, if_neg h6, if_neg h7, if_neg h9, e15]
          obtain rfl := Option.some.inj (e.symm.trans hv)
          exact ab_vret ckV_approach rfl rfl ⟨rfl, rfl⟩
def fV_follow (c : cs_S)  : Option (cs_S) := (if (c.1 1 18) = (1 : Int32) then (ab_bd (fV_approach c (fV_positionAim c) (i_min (c.1 1 26) (c.1 1 25))) (fun p2 => (some p2))) else (ab_bd (fV_approach c (fV_speedAim c) (i_min (i_abs (c.1 1 29)) (c.1 1 25))) (fun p1 => (some p1))))
theorem tV_follow {v : cs_S} (hv : fV_follow c = some v) : ab_M X mV_follow (d + 3) 0 0 [.ref 20] (cs_H c rest) (fun r9 h9 => r9 = none ∧ h9 = cs_H v rest) := by
  refine ab_entry (by decide) (Nat.le_of_ble_eq_true rfl) ?_
  refine ab_go 7 [] (pc' := 8) (lo' := [some (.ref 20), none]) (st' := [.int (1 : Int32), .int (c.1 1 18)]) (h' := cs_H c rest) ckV_follow rfl ?_
  refine ab_icmp_ne ckV_follow rfl (fun (h1 : ¬ ((c.1 1 18) = (1 : Int32))) => ?_) (fun (h1 : (c.1 1 18) = (1 : Int32)) => ?_)
  · refine ab_go 6 [] (pc' := 46) (lo' := [some (.ref 20), none]) (st' := [.int (c.1 1 29)]) (h' := cs_H c rest) ckV_follow rfl ?_
    refine ab_mabs ckV_follow rfl (by decide +kernel) (by omega) (Nat.le_of_ble_eq_true rfl) ?_
    refine ab_go 5 [] (pc' := 52) (lo' := [some (.ref 20), some (.int (i_abs (c.1 1 29)))]) (st' := [.ref 20, .ref 20]) (h' := cs_H c rest) ckV_follow rfl ?_
    refine ab_callV (bc2 := 0) (bs2 := 0) (as := []) (rest := [_]) ckV_follow rfl (by decide +kernel) wV_speedAim (tV_speedAim (d := d + 1) (c := c)) rfl rfl (by omega) ⟨Nat.le_refl _, Nat.le_refl _⟩ (Nat.le_of_ble_eq_true rfl) ?_
    rintro _ _ ⟨rfl, rfl⟩
    refine ab_go 7 [] (pc' := 63) (lo' := [some (.ref 20), some (.int (i_abs (c.1 1 29)))]) (st' := [.int (c.1 1 25), .int (i_abs (c.1 1 29)), .int (fV_speedAim c), .ref 20]) (h' := cs_H c rest) ckV_follow rfl ?_
    refine ab_mmin ckV_follow rfl (by decide +kernel) (by omega) (Nat.le_of_ble_eq_true rfl) ?_
    rcases e1 : fV_approach c (fV_speedAim c) (i_min (i_abs (c.1 1 29)) (c.1 1 25)) with _ | p1
    · exact ab_no hv (by simp only [fV_follow, if_neg h1, e1, ab_bd_n])
    refine ab_callV (bc2 := 0) (bs2 := 0) (as := [_, _]) (rest := []) ckV_follow rfl (by decide +kernel) wV_approach (tV_approach (d := d) (x1 := (fV_speedAim c)) (x2 := (i_min (i_abs (c.1 1 29)) (c.1 1 25))) (c := c) (v := p1) e1) rfl rfl (by omega) ⟨Nat.le_refl _, Nat.le_refl _⟩ (Nat.le_of_ble_eq_true rfl) ?_
    rintro _ _ ⟨rfl, rfl⟩
    have e : fV_follow c = some p1 := by simp only [fV_follow, if_neg h1, e1, ab_bd_s]
    obtain rfl := Option.some.inj (e.symm.trans hv)
    exact ab_vret ckV_follow rfl rfl ⟨rfl, rfl⟩
  · refine ab_go 4 [] (pc' := 13) (lo' := [some (.ref 20), none]) (st' := [.ref 20, .ref 20]) (h' := cs_H c rest) ckV_follow rfl ?_
    refine ab_callV (bc2 := 0) (bs2 := 0) (as := []) (rest := [_]) ckV_follow rfl (by decide +kernel) wV_positionAim (tV_positionAim (d := d + 1) (c := c)) rfl rfl (by omega) ⟨Nat.le_refl _, Nat.le_refl _⟩ (Nat.le_of_ble_eq_true rfl) ?_
    rintro _ _ ⟨rfl, rfl⟩
    refine ab_go 10 [] (pc' := 30) (lo' := [some (.ref 20), none]) (st' := [.int (c.1 1 25), .int (c.1 1 26), .int (fV_positionAim c), .ref 20]) (h' := cs_H c rest) ckV_follow rfl ?_
    refine ab_mmin ckV_follow rfl (by decide +kernel) (by omega) (Nat.le_of_ble_eq_true rfl) ?_
    rcases e2 : fV_approach c (fV_positionAim c) (i_min (c.1 1 26) (c.1 1 25)) with _ | p2
    · exact ab_no hv (by simp only [fV_follow, if_pos h1, e2, ab_bd_n])
    refine ab_callV (bc2 := 0) (bs2 := 0) (as := [_, _]) (rest := []) ckV_follow rfl (by decide +kernel) wV_approach (tV_approach (d := d) (x1 := (fV_positionAim c)) (x2 := (i_min (c.1 1 26) (c.1 1 25))) (c := c) (v := p2) e2) rfl rfl (by omega) ⟨Nat.le_refl _, Nat.le_refl _⟩ (Nat.le_of_ble_eq_true rfl) ?_
    rintro _ _ ⟨rfl, rfl⟩
    refine ab_go 3 [] (pc' := 69) (lo' := [some (.ref 20), none]) (st' := []) (h' := cs_H p2 rest) ckV_follow rfl ?_
    have e : fV_follow c = some p2 := by simp only [fV_follow, if_pos h1, e2, ab_bd_s]
    obtain rfl := Option.some.inj (e.symm.trans hv)
    exact ab_vret ckV_follow rfl rfl ⟨rfl, rfl⟩
def fG_number (x1 : Int64) (x2 : Int32) : Int32 := (if x2 < (4 : Int32) then ((x1).toInt32 &&& (((1 : Int32) <<< (((8 : Int32) * x2) &&& 31)) - (1 : Int32))) else (x1).toInt32)
theorem tG_number {x1 : Int64} {x2 : Int32} : ab_M X mG_number (d) 0 0 [.long x1, .int x2] (hp) (fun r9 h9 => r9 = some (Value.int (fG_number x1 x2)) ∧ h9 = hp) := by
  refine ab_entry (by decide) (Nat.le_of_ble_eq_true rfl) ?_
  refine ab_go 4 [] (pc' := 2) (lo' := [some (.long x1), none, some (.int x2)]) (st' := [.int (4 : Int32), .int x2]) (h' := hp) ckG_number rfl ?_
  refine ab_icmp_lt ckG_number rfl (fun (h1 : x2 < (4 : Int32)) => ?_) (fun (h1 : ¬ (x2 < (4 : Int32))) => ?_)
  · refine ab_go 12 [] (pc' := 21) (lo' := [some (.long x1), none, some (.int x2)]) (st' := [.int ((x1).toInt32 &&& (((1 : Int32) <<< (((8 : Int32) * x2) &&& 31)) - (1 : Int32)))]) (h' := hp) ckG_number rfl ?_
    have e : fG_number x1 x2 = ((x1).toInt32 &&& (((1 : Int32) <<< (((8 : Int32) * x2) &&& 31)) - (1 : Int32))) := by simp only [fG_number, if_pos h1]
    exact ab_iret ckG_number rfl rfl ⟨(congrArg (fun q : Int32 => some (Value.int q)) e).symm, rfl⟩
  · refine ab_go 5 [] (pc' := 21) (lo' := [some (.long x1), none, some (.int x2)]) (st' := [.int (x1).toInt32]) (h' := hp) ckG_number rfl ?_
    have e : fG_number x1 x2 = (x1).toInt32 := by simp only [fG_number, if_neg h1]
    exact ab_iret ckG_number rfl rfl ⟨(congrArg (fun q : Int32 => some (Value.int q)) e).symm, rfl⟩
def fG_slotOf (x1 : Int32) : Option (Int32) := (ab_bd (fC_find ((x1).toUInt32 >>> (((16 : Int32)).toUInt32 &&& Int32.toUInt32 31)).toInt32 (((x1).toUInt32 >>> (((8 : Int32)).toUInt32 &&& Int32.toUInt32 31)).toInt32 &&& (255 : Int32))) (fun p1 => (if p1 = (-1 : Int32) then (some (-1 : Int32)) else (if ((x1).toUInt32 >>> (((16 : Int32)).toUInt32 &&& Int32.toUInt32 31)).toInt32 < (24576 : Int32) then (some (-1 : Int32)) else (ab_bd (fC_bytes p1) (fun p2 => (if (x1 &&& (255 : Int32)) = ((8 : Int32) * p2) then (some p1) else (some (-1 : Int32)))))))))
theorem tG_slotOf {x1 : Int32} (hX : cs_X X) {v : Int32} (hv : fG_slotOf x1 = some v) : ab_M X mG_slotOf (d + 1) 0 0 [.int x1] (hp) (fun r9 h9 => r9 = some (Value.int v) ∧ h9 = hp) := by
  refine ab_entry (by decide) (Nat.le_of_ble_eq_true rfl) ?_
  refine ab_go 12 [] (pc' := 14) (lo' := [some (.int x1), some (.int ((x1).toUInt32 >>> (((16 : Int32)).toUInt32 &&& Int32.toUInt32 31)).toInt32), none]) (st' := [.int (((x1).toUInt32 >>> (((8 : Int32)).toUInt32 &&& Int32.toUInt32 31)).toInt32 &&& (255 : Int32)), .int ((x1).toUInt32 >>> (((16 : Int32)).toUInt32 &&& Int32.toUInt32 31)).toInt32]) (h' := hp) ckG_slotOf rfl ?_
  rcases e1 : fC_find ((x1).toUInt32 >>> (((16 : Int32)).toUInt32 &&& Int32.toUInt32 31)).toInt32 (((x1).toUInt32 >>> (((8 : Int32)).toUInt32 &&& Int32.toUInt32 31)).toInt32 &&& (255 : Int32)) with _ | p1
  · exact ab_no hv (by simp only [fG_slotOf, e1, ab_bd_n])
  refine ab_callS (bc2 := 0) (bs2 := 0) (as := [_, _]) (rest := []) ckG_slotOf rfl (by decide +kernel) wC_find (tC_find (d := d) (x1 := ((x1).toUInt32 >>> (((16 : Int32)).toUInt32 &&& Int32.toUInt32 31)).toInt32) (x2 := (((x1).toUInt32 >>> (((8 : Int32)).toUInt32 &&& Int32.toUInt32 31)).toInt32 &&& (255 : Int32))) hX (v := p1) e1) (by omega) ⟨Nat.le_refl _, Nat.le_refl _⟩ (Nat.le_of_ble_eq_true rfl) ?_
  rintro _ h9 ⟨rfl, q9⟩
  rw [q9]
  clear q9 h9
  refine ab_go 5 [] (pc' := 20) (lo' := [some (.int x1), some (.int ((x1).toUInt32 >>> (((16 : Int32)).toUInt32 &&& Int32.toUInt32 31)).toInt32), some (.int p1)]) (st' := [.int (-1 : Int32), .int p1]) (h' := hp) ckG_slotOf rfl ?_
  refine ab_icmp_eq ckG_slotOf rfl (fun (h1 : p1 = (-1 : Int32)) => ?_) (fun (h1 : ¬ (p1 = (-1 : Int32))) => ?_)
  · refine ab_go 3 [] (pc' := 46) (lo' := [some (.int x1), some (.int ((x1).toUInt32 >>> (((16 : Int32)).toUInt32 &&& Int32.toUInt32 31)).toInt32), some (.int p1)]) (st' := [.int (-1 : Int32)]) (h' := hp) ckG_slotOf rfl ?_
    have e : fG_slotOf x1 = some (-1 : Int32) := by simp only [fG_slotOf, e1, ab_bd_s, if_pos h1]
    obtain rfl := Option.some.inj (e.symm.trans hv)
    exact ab_iret ckG_slotOf rfl rfl ⟨rfl, rfl⟩
  · refine ab_go 4 [] (pc' := 27) (lo' := [some (.int x1), some (.int ((x1).toUInt32 >>> (((16 : Int32)).toUInt32 &&& Int32.toUInt32 31)).toInt32), some (.int p1)]) (st' := [.int (24576 : Int32), .int ((x1).toUInt32 >>> (((16 : Int32)).toUInt32 &&& Int32.toUInt32 31)).toInt32]) (h' := hp) ckG_slotOf rfl ?_
    refine ab_icmp_lt ckG_slotOf rfl (fun (h2 : ((x1).toUInt32 >>> (((16 : Int32)).toUInt32 &&& Int32.toUInt32 31)).toInt32 < (24576 : Int32)) => ?_) (fun (h2 : ¬ (((x1).toUInt32 >>> (((16 : Int32)).toUInt32 &&& Int32.toUInt32 31)).toInt32 < (24576 : Int32))) => ?_)
    · refine ab_go 3 [] (pc' := 46) (lo' := [some (.int x1), some (.int ((x1).toUInt32 >>> (((16 : Int32)).toUInt32 &&& Int32.toUInt32 31)).toInt32), some (.int p1)]) (st' := [.int (-1 : Int32)]) (h' := hp) ckG_slotOf rfl ?_
      have e : fG_slotOf x1 = some (-1 : Int32) := by simp only [fG_slotOf, e1, ab_bd_s, if_neg h1, if_pos h2]
      obtain rfl := Option.some.inj (e.symm.trans hv)
      exact ab_iret ckG_slotOf rfl rfl ⟨rfl, rfl⟩
    · refine ab_go 7 [] (pc' := 38) (lo' := [some (.int x1), some (.int ((x1).toUInt32 >>> (((16 : Int32)).toUInt32 &&& Int32.toUInt32 31)).toInt32), some (.int p1)]) (st' := [.int p1, .int (8 : Int32), .int (x1 &&& (255 : Int32))]) (h' := hp) ckG_slotOf rfl ?_
      rcases e2 : fC_bytes p1 with _ | p2
      · exact ab_no hv (by simp only [fG_slotOf, e1, ab_bd_s, if_neg h1, if_neg h2, e2, ab_bd_n])
      refine ab_callS (bc2 := 0) (bs2 := 0) (as := [_]) (rest := [_, _]) ckG_slotOf rfl (by decide +kernel) wC_bytes (tC_bytes (d := d) (x1 := p1) hX (v := p2) e2) (by omega) ⟨Nat.le_refl _, Nat.le_refl _⟩ (Nat.le_of_ble_eq_true rfl) ?_
      rintro _ h9 ⟨rfl, q9⟩
      rw [q9]
      clear q9 h9
      refine ab_go 3 [] (pc' := 42) (lo' := [some (.int x1), some (.int ((x1).toUInt32 >>> (((16 : Int32)).toUInt32 &&& Int32.toUInt32 31)).toInt32), some (.int p1)]) (st' := [.int ((8 : Int32) * p2), .int (x1 &&& (255 : Int32))]) (h' := hp) ckG_slotOf rfl ?_
      refine ab_icmp_eq ckG_slotOf rfl (fun (h3 : (x1 &&& (255 : Int32)) = ((8 : Int32) * p2)) => ?_) (fun (h3 : ¬ ((x1 &&& (255 : Int32)) = ((8 : Int32) * p2))) => ?_)
      · refine ab_go 3 [] (pc' := 48) (lo' := [some (.int x1), some (.int ((x1).toUInt32 >>> (((16 : Int32)).toUInt32 &&& Int32.toUInt32 31)).toInt32), some (.int p1)]) (st' := [.int p1]) (h' := hp) ckG_slotOf rfl ?_
        have e : fG_slotOf x1 = some p1 := by simp only [fG_slotOf, e1, ab_bd_s, if_neg h1, if_neg h2, e2, ab_bd_s, if_pos h3]
        obtain rfl := Option.some.inj (e.symm.trans hv)
        exact ab_iret ckG_slotOf rfl rfl ⟨rfl, rfl⟩
      · refine ab_go 3 [] (pc' := 46) (lo' := [some (.int x1), some (.int ((x1).toUInt32 >>> (((16 : Int32)).toUInt32 &&& Int32.toUInt32 31)).toInt32), some (.int p1)]) (st' := [.int (-1 : Int32)]) (h' := hp) ckG_slotOf rfl ?_
        have e : fG_slotOf x1 = some (-1 : Int32) := by simp only [fG_slotOf, e1, ab_bd_s, if_neg h1, if_neg h2, e2, ab_bd_s, if_neg h3]
        obtain rfl := Option.some.inj (e.symm.trans hv)
        exact ab_iret ckG_slotOf rfl rfl ⟨rfl, rfl⟩
def fG_isMappable (x1 : Int32) (x2 : Int32) : Option (Int32) := (ab_bd (fC_kind x1) (fun p1 => (if x2 = (5 : Int32) then (if p1 = (2 : Int32) then (some (1 : Int32)) else (some (0 : Int32))) else (if p1 = 0 then (some (1 : Int32)) else (if p1 = (2 : Int32) then (some (1 : Int32)) else (if p1 = (3 : Int32) then (some (1 : Int32)) else (some (0 : Int32))))))))
theorem tG_isMappable {x1 : Int32} {x2 : Int32} (hX : cs_X X) {v : Int32} (hv : fG_isMappable x1 x2 = some v) : ab_M X mG_isMappable (d + 1) 0 0 [.int x1, .int x2] (hp) (fun r9 h9 => r9 = some (Value.int v) ∧ h9 = hp) := by
  refine ab_entry (by decide) (Nat.le_of_ble_eq_true rfl) ?_
  refine ab_go 3 [] (pc' := 1) (lo' := [some (.int x1), some (.int x2), none]) (st' := [.int x1]) (h' := hp) ckG_isMappable rfl ?_
  rcases e1 : fC_kind x1 with _ | p1
  · exact ab_no hv (by simp only [fG_isMappable, e1, ab_bd_n])
  refine ab_callS (bc2 := 0) (bs2 := 0) (as := [_]) (rest := []) ckG_isMappable rfl (by decide +kernel) wC_kind (tC_kind (d := d) (x1 := x1) hX (v := p1) e1) (by omega) ⟨Nat.le_refl _, Nat.le_refl _⟩ (Nat.le_of_ble_eq_true rfl) ?_
  rintro _ h9 ⟨rfl, q9⟩
  rw [q9]
  clear q9 h9
  refine ab_go 5 [] (pc' := 7) (lo' := [some (.int x1), some (.int x2), some (.int p1)]) (st' := [.int (5 : Int32), .int x2]) (h' := hp) ckG_isMappable rfl ?_
  refine ab_icmp_ne ckG_isMappable rfl (fun (h1 : ¬ (x2 = (5 : Int32))) => ?_) (fun (h1 : x2 = (5 : Int32)) => ?_)
  · refine ab_go 3 [] (pc' := 22) (lo' := [some (.int x1), some (.int x2), some (.int p1)]) (st' := [.int p1]) (h' := hp) ckG_isMappable rfl ?_
    refine ab_if_eq ckG_isMappable rfl (fun (h2 : p1 = 0) => ?_) (fun (h2 : ¬ (p1 = 0)) => ?_)
    · refine ab_go 4 [] (pc' := 40) (lo' := [some (.int x1), some (.int x2), some (.int p1)]) (st' := [.int (1 : Int32)]) (h' := hp) ckG_isMappable rfl ?_
      have e : fG_isMappable x1 x2 = some (1 : Int32) := by simp only [fG_isMappable, e1, ab_bd_s, if_neg h1, if_pos h2]
      obtain rfl := Option.some.inj (e.symm.trans hv)
      exact ab_zret ckG_isMappable rfl rfl (Or.inr rfl) ⟨rfl, rfl⟩
    · refine ab_go 4 [] (pc' := 27) (lo' := [some (.int x1), some (.int x2), some (.int p1)]) (st' := [.int (2 : Int32), .int p1]) (h' := hp) ckG_isMappable rfl ?_
      refine ab_icmp_eq ckG_isMappable rfl (fun (h3 : p1 = (2 : Int32)) => ?_) (fun (h3 : ¬ (p1 = (2 : Int32))) => ?_)
      · refine ab_go 4 [] (pc' := 40) (lo' := [some (.int x1), some (.int x2), some (.int p1)]) (st' := [.int (1 : Int32)]) (h' := hp) ckG_isMappable rfl ?_
        have e : fG_isMappable x1 x2 = some (1 : Int32) := by simp only [fG_isMappable, e1, ab_bd_s, if_neg h1, if_neg h2, if_pos h3]
        obtain rfl := Option.some.inj (e.symm.trans hv)
        exact ab_zret ckG_isMappable rfl rfl (Or.inr rfl) ⟨rfl, rfl⟩
      · refine ab_go 4 [] (pc' := 32) (lo' := [some (.int x1), some (.int x2), some (.int p1)]) (st' := [.int (3 : Int32), .int p1]) (h' := hp) ckG_isMappable rfl ?_
        refine ab_icmp_ne ckG_isMappable rfl (fun (h4 : ¬ (p1 = (3 : Int32))) => ?_) (fun (h4 : p1 = (3 : Int32)) => ?_)
        · refine ab_go 3 [] (pc' := 40) (lo' := [some (.int x1), some (.int x2), some (.int p1)]) (st' := [.int (0 : Int32)]) (h' := hp) ckG_isMappable rfl ?_
          have e : fG_isMappable x1 x2 = some (0 : Int32) := by simp only [fG_isMappable, e1, ab_bd_s, if_neg h1, if_neg h2, if_neg h3, if_neg h4]
          obtain rfl := Option.some.inj (e.symm.trans hv)
          exact ab_zret ckG_isMappable rfl rfl (Or.inl rfl) ⟨rfl, rfl⟩
        · refine ab_go 4 [] (pc' := 40) (lo' := [some (.int x1), some (.int x2), some (.int p1)]) (st' := [.int (1 : Int32)]) (h' := hp) ckG_isMappable rfl ?_
          have e : fG_isMappable x1 x2 = some (1 : Int32) := by simp only [fG_isMappable, e1, ab_bd_s, if_neg h1, if_neg h2, if_neg h3, if_pos h4]
          obtain rfl := Option.some.inj (e.symm.trans hv)
          exact ab_zret ckG_isMappable rfl rfl (Or.inr rfl) ⟨rfl, rfl⟩
  · refine ab_go 4 [] (pc' := 12) (lo' := [some (.int x1), some (.int x2), some (.int p1)]) (st' := [.int (2 : Int32), .int p1]) (h' := hp) ckG_isMappable rfl ?_
    refine ab_icmp_ne ckG_isMappable rfl (fun (h5 : ¬ (p1 = (2 : Int32))) => ?_) (fun (h5 : p1 = (2 : Int32)) => ?_)
    · refine ab_go 3 [] (pc' := 20) (lo' := [some (.int x1), some (.int x2), some (.int p1)]) (st' := [.int (0 : Int32)]) (h' := hp) ckG_isMappable rfl ?_
      have e : fG_isMappable x1 x2 = some (0 : Int32) := by simp only [fG_isMappable, e1, ab_bd_s, if_pos h1, if_neg h5]
      obtain rfl := Option.some.inj (e.symm.trans hv)
      exact ab_zret ckG_isMappable rfl rfl (Or.inl rfl) ⟨rfl, rfl⟩
    · refine ab_go 4 [] (pc' := 20) (lo' := [some (.int x1), some (.int x2), some (.int p1)]) (st' := [.int (1 : Int32)]) (h' := hp) ckG_isMappable rfl ?_
      have e : fG_isMappable x1 x2 = some (1 : Int32) := by simp only [fG_isMappable, e1, ab_bd_s, if_pos h1, if_pos h5]
      obtain rfl := Option.some.inj (e.symm.trans hv)
      exact ab_zret ckG_isMappable rfl rfl (Or.inr rfl) ⟨rfl, rfl⟩
def fG_refusalOfCount_5 : Nat → cs_S → Int32 → Int32 → Int32 → Int32 → Option (Int32)
  | 0, _, _, _, _, _ => none
  | n + 1, c, y1, y2, y3, y4 => (if y2 < y4 then (some (0 : Int32)) else (if ab_inb (y1 + y4) 30 = true then (ab_bd (fG_slotOf (c.1 1 ((y1 + y4)).toNatClampNeg)) (fun p1 => (if p1 = (-1 : Int32) then (some (100925505 : Int32)) else (ab_bd (fG_isMappable p1 y1) (fun p2 => (if p2 = 0 then (some (100925505 : Int32)) else (ab_bd (fC_bytes p1) (fun p3 => (if (y3 + p3) ≤ (8 : Int32) then fG_refusalOfCount_5 n c y1 y2 (y3 + p3) (y4 + (1 : Int32)) else (some (100925506 : Int32))))))))))) else none))
def fG_refusalOfCount (c : cs_S) (x2 : Int32) (x3 : Int32) : Option (Int32) := fG_refusalOfCount_5 40 c x2 x3 (0 : Int32) (1 : Int32)
theorem tG_refusalOfCount_5 (hX : cs_X X) (n : Nat)   : ∀ (c : cs_S) (y1 : Int32) (y2 : Int32) (y3 : Int32) (y4 : Int32)  (v : Int32) (hv : fG_refusalOfCount_5 n c y1 y2 y3 y4 = some v), ab_W X mG_refusalOfCount (d + 2) 0 0 5 [some (.ref 9), some (.int y1), some (.int y2), some (.int y3), some (.int y4), none, none] [] (cs_H c rest) (fun r9 h9 => r9 = some (Value.int v) ∧ h9 = cs_H c rest) := by
  induction n with
  | zero =>
    intro c y1 y2 y3 y4 v hv
    cases hv
  | succ n ih =>
    intro c y1 y2 y3 y4 v hv
    refine ab_go 4 [5] (pc' := 8) (lo' := [some (.ref 9), some (.int y1), some (.int y2), some (.int y3), some (.int y4), none, none]) (st' := [.int y2, .int y4]) (h' := cs_H c rest) ckG_refusalOfCount rfl ?_
    refine ab_icmp_gt ckG_refusalOfCount rfl (fun (h1 : y2 < y4) => ?_) (fun (h1 : ¬ (y2 < y4)) => ?_)
    · refine ab_go 3 [5] (pc' := 68) (lo' := [some (.ref 9), some (.int y1), some (.int y2), some (.int y3), some (.int y4), none, none]) (st' := [.int (0 : Int32)]) (h' := cs_H c rest) ckG_refusalOfCount rfl ?_
      have e : fG_refusalOfCount_5 (n + 1) c y1 y2 y3 y4 = some (0 : Int32) := by simp only [fG_refusalOfCount_5, if_pos h1]
      obtain rfl := Option.some.inj (e.symm.trans hv)
      exact ab_iret ckG_refusalOfCount rfl rfl ⟨rfl, rfl⟩
    · refine ab_go 6 [5] (pc' := 16) (lo' := [some (.ref 9), some (.int y1), some (.int y2), some (.int y3), some (.int y4), none, none]) (st' := [.int (y1 + y4), .ref 9]) (h' := cs_H c rest) ckG_refusalOfCount rfl ?_
      by_cases h2 : ab_inb (y1 + y4) 30 = true
      case neg => exact ab_no hv (by simp only [fG_refusalOfCount_5, if_neg h1, if_neg h2])
      refine ab_iald ckG_refusalOfCount rfl rfl (ab_inb_ok h2) ?_
      refine ab_go 4 [5] (pc' := 21) (lo' := [some (.ref 9), some (.int y1), some (.int y2), some (.int y3), some (.int y4), some (.int (c.1 1 ((y1 + y4)).toNatClampNeg)), none]) (st' := [.int (c.1 1 ((y1 + y4)).toNatClampNeg)]) (h' := cs_H c rest) ckG_refusalOfCount rfl ?_
      rcases e1 : fG_slotOf (c.1 1 ((y1 + y4)).toNatClampNeg) with _ | p1
      · exact ab_no hv (by simp only [fG_refusalOfCount_5, if_neg h1, if_pos h2, e1, ab_bd_n])
      refine ab_callS (bc2 := 0) (bs2 := 0) (as := [_]) (rest := []) ckG_refusalOfCount rfl (by decide +kernel) wG_slotOf (tG_slotOf (d := d) (x1 := (c.1 1 ((y1 + y4)).toNatClampNeg)) hX (v := p1) e1) (by omega) ⟨Nat.le_refl _, Nat.le_refl _⟩ (Nat.le_of_ble_eq_true rfl) ?_
      rintro _ _ ⟨rfl, rfl⟩
      refine ab_go 5 [5] (pc' := 29) (lo' := [some (.ref 9), some (.int y1), some (.int y2), some (.int y3), some (.int y4), some (.int (c.1 1 ((y1 + y4)).toNatClampNeg)), some (.int p1)]) (st' := [.int (-1 : Int32), .int p1]) (h' := cs_H c rest) ckG_refusalOfCount rfl ?_
      refine ab_icmp_eq ckG_refusalOfCount rfl (fun (h3 : p1 = (-1 : Int32)) => ?_) (fun (h3 : ¬ (p1 = (-1 : Int32))) => ?_)
      · refine ab_go 3 [5] (pc' := 43) (lo' := [some (.ref 9), some (.int y1), some (.int y2), some (.int y3), some (.int y4), some (.int (c.1 1 ((y1 + y4)).toNatClampNeg)), some (.int p1)]) (st' := [.int (100925505 : Int32)]) (h' := cs_H c rest) ckG_refusalOfCount rfl ?_
        have e : fG_refusalOfCount_5 (n + 1) c y1 y2 y3 y4 = some (100925505 : Int32) := by simp only [fG_refusalOfCount_5, if_neg h1, if_pos h2, e1, ab_bd_s, if_pos h3]
        obtain rfl := Option.some.inj (e.symm.trans hv)
        exact ab_iret ckG_refusalOfCount rfl rfl ⟨rfl, rfl⟩
      · refine ab_go 4 [5] (pc' := 35) (lo' := [some (.ref 9), some (.int y1), some (.int y2), some (.int y3), some (.int y4), some (.int (c.1 1 ((y1 + y4)).toNatClampNeg)), some (.int p1)]) (st' := [.int y1, .int p1]) (h' := cs_H c rest) ckG_refusalOfCount rfl ?_
        rcases e2 : fG_isMappable p1 y1 with _ | p2
        · exact ab_no hv (by simp only [fG_refusalOfCount_5, if_neg h1, if_pos h2, e1, ab_bd_s, if_neg h3, e2, ab_bd_n])
        refine ab_callS (bc2 := 0) (bs2 := 0) (as := [_, _]) (rest := []) ckG_refusalOfCount rfl (by decide +kernel) wG_isMappable (tG_isMappable (d := d) (x1 := p1) (x2 := y1) hX (v := p2) e2) (by omega) ⟨Nat.le_refl _, Nat.le_refl _⟩ (Nat.le_of_ble_eq_true rfl) ?_
        rintro _ _ ⟨rfl, rfl⟩
        refine ab_if_ne ckG_refusalOfCount rfl (fun (h4 : ¬ (p2 = 0)) => ?_) (fun (h4 : p2 = 0) => ?_)
        · refine ab_go 4 [5] (pc' := 47) (lo' := [some (.ref 9), some (.int y1), some (.int y2), some (.int y3), some (.int y4), some (.int (c.1 1 ((y1 + y4)).toNatClampNeg)), some (.int p1)]) (st' := [.int p1, .int y3]) (h' := cs_H c rest) ckG_refusalOfCount rfl ?_
          rcases e3 : fC_bytes p1 with _ | p3
          · exact ab_no hv (by simp only [fG_refusalOfCount_5, if_neg h1, if_pos h2, e1, ab_bd_s, if_neg h3, e2, ab_bd_s, if_neg h4, e3, ab_bd_n])
          refine ab_callS (bc2 := 0) (bs2 := 0) (as := [_]) (rest := [_]) ckG_refusalOfCount rfl (by decide +kernel) wC_bytes (tC_bytes (d := d + 1) (x1 := p1) hX (v := p3) e3) (by omega) ⟨Nat.le_refl _, Nat.le_refl _⟩ (Nat.le_of_ble_eq_true rfl) ?_
          rintro _ _ ⟨rfl, rfl⟩
          refine ab_go 6 [5] (pc' := 55) (lo' := [some (.ref 9), some (.int y1), some (.int y2), some (.int (y3 + p3)), some (.int y4), some (.int (c.1 1 ((y1 + y4)).toNatClampNeg)), some (.int p1)]) (st' := [.int (8 : Int32), .int (y3 + p3)]) (h' := cs_H c rest) ckG_refusalOfCount rfl ?_
          refine ab_icmp_le ckG_refusalOfCount rfl (fun (h5 : (y3 + p3) ≤ (8 : Int32)) => ?_) (fun (h5 : ¬ ((y3 + p3) ≤ (8 : Int32))) => ?_)
          · refine ab_go 4 [5] (pc' := 5) (lo' := [some (.ref 9), some (.int y1), some (.int y2), some (.int (y3 + p3)), some (.int (y4 + (1 : Int32))), some (.int (c.1 1 ((y1 + y4)).toNatClampNeg)), some (.int p1)]) (st' := []) (h' := cs_H c rest) ckG_refusalOfCount rfl ?_
            have e : fG_refusalOfCount_5 (n + 1) c y1 y2 y3 y4 = fG_refusalOfCount_5 n c y1 y2 (y3 + p3) (y4 + (1 : Int32)) := by simp only [fG_refusalOfCount_5, if_neg h1, if_pos h2, e1, ab_bd_s, if_neg h3, e2, ab_bd_s, if_neg h4, e3, ab_bd_s, if_pos h5]
            exact ab_W.weak (ih c y1 y2 (y3 + p3) (y4 + (1 : Int32)) v (e.symm.trans hv)) ⟨rfl, rfl, rfl, rfl, rfl, trivial⟩
          · refine ab_go 3 [5] (pc' := 60) (lo' := [some (.ref 9), some (.int y1), some (.int y2), some (.int (y3 + p3)), some (.int y4), some (.int (c.1 1 ((y1 + y4)).toNatClampNeg)), some (.int p1)]) (st' := [.int (100925506 : Int32)]) (h' := cs_H c rest) ckG_refusalOfCount rfl ?_
            have e : fG_refusalOfCount_5 (n + 1) c y1 y2 y3 y4 = some (100925506 : Int32) := by simp only [fG_refusalOfCount_5, if_neg h1, if_pos h2, e1, ab_bd_s, if_neg h3, e2, ab_bd_s, if_neg h4, e3, ab_bd_s, if_neg h5]
            obtain rfl := Option.some.inj (e.symm.trans hv)
            exact ab_iret ckG_refusalOfCount rfl rfl ⟨rfl, rfl⟩
        · refine ab_go 3 [5] (pc' := 43) (lo' := [some (.ref 9), some (.int y1), some (.int y2), some (.int y3), some (.int y4), some (.int (c.1 1 ((y1 + y4)).toNatClampNeg)), some (.int p1)]) (st' := [.int (100925505 : Int32)]) (h' := cs_H c rest) ckG_refusalOfCount rfl ?_
          have e : fG_refusalOfCount_5 (n + 1) c y1 y2 y3 y4 = some (100925505 : Int32) := by simp only [fG_refusalOfCount_5, if_neg h1, if_pos h2, e1, ab_bd_s, if_neg h3, e2, ab_bd_s, if_pos h4]
          obtain rfl := Option.some.inj (e.symm.trans hv)
          exact ab_iret ckG_refusalOfCount rfl rfl ⟨rfl, rfl⟩
theorem tG_refusalOfCount {x2 : Int32} {x3 : Int32} (hX : cs_X X) {v : Int32} (hv : fG_refusalOfCount c x2 x3 = some v) : ab_M X mG_refusalOfCount (d + 2) 0 0 [.ref 9, .int x2, .int x3] (cs_H c rest) (fun r9 h9 => r9 = some (Value.int v) ∧ h9 = cs_H c rest) := by
  refine ab_entry (by decide) (Nat.le_of_ble_eq_true rfl) ?_
  refine ab_go 6 [5] (pc' := 5) (lo' := [some (.ref 9), some (.int x2), some (.int x3), some (.int (0 : Int32)), some (.int (1 : Int32)), none, none]) (st' := []) (h' := cs_H c rest) ckG_refusalOfCount rfl ?_
  have e : fG_refusalOfCount c x2 x3 = fG_refusalOfCount_5 40 c x2 x3 (0 : Int32) (1 : Int32) := by simp only [fG_refusalOfCount]
  exact ab_W.weak (tG_refusalOfCount_5 hX 40 c x2 x3 (0 : Int32) (1 : Int32) v (e.symm.trans hv)) ⟨rfl, rfl, rfl, rfl, rfl, trivial⟩
def fG_totalBytes_9 : Nat → cs_S → Int32 → Int32 → Int32 → Int32 → Option (Int32)
  | 0, _, _, _, _, _ => none
  | n + 1, c, y1, y2, y3, y4 => (if y3 < y4 then (some y2) else (if ab_inb (y1 + y4) 30 = true then fG_totalBytes_9 n c y1 (y2 + (((c.1 1 ((y1 + y4)).toNatClampNeg) &&& (255 : Int32)) / (8 : Int32))) y3 (y4 + (1 : Int32)) else none))
def fG_totalBytes (c : cs_S) (x2 : Int32) : Option (Int32) := (if ab_inb x2 30 = true then fG_totalBytes_9 40 c x2 (0 : Int32) (c.1 1 (x2).toNatClampNeg) (1 : Int32) else none)
theorem tG_totalBytes_9 (n : Nat)   : ∀ (c : cs_S) (y1 : Int32) (y2 : Int32) (y3 : Int32) (y4 : Int32)  (v : Int32) (hv : fG_totalBytes_9 n c y1 y2 y3 y4 = some v), ab_W X mG_totalBytes (d) 0 0 9 [some (.ref 9), some (.int y1), some (.int y2), some (.int y3), some (.int y4)] [] (cs_H c rest) (fun r9 h9 => r9 = some (Value.int v) ∧ h9 = cs_H c rest) := by
  induction n with
  | zero =>
    intro c y1 y2 y3 y4 v hv
    cases hv
  | succ n ih =>
    intro c y1 y2 y3 y4 v hv
    refine ab_go 4 [9] (pc' := 12) (lo' := [some (.ref 9), some (.int y1), some (.int y2), some (.int y3), some (.int y4)]) (st' := [.int y3, .int y4]) (h' := cs_H c rest) ckG_totalBytes rfl ?_
    refine ab_icmp_gt ckG_totalBytes rfl (fun (h1 : y3 < y4) => ?_) (fun (h1 : ¬ (y3 < y4)) => ?_)
    · refine ab_go 3 [9] (pc' := 38) (lo' := [some (.ref 9), some (.int y1), some (.int y2), some (.int y3), some (.int y4)]) (st' := [.int y2]) (h' := cs_H c rest) ckG_totalBytes rfl ?_
      have e : fG_totalBytes_9 (n + 1) c y1 y2 y3 y4 = some y2 := by simp only [fG_totalBytes_9, if_pos h1]
      obtain rfl := Option.some.inj (e.symm.trans hv)
      exact ab_iret ckG_totalBytes rfl rfl ⟨rfl, rfl⟩
    · refine ab_go 7 [9] (pc' := 21) (lo' := [some (.ref 9), some (.int y1), some (.int y2), some (.int y3), some (.int y4)]) (st' := [.int (y1 + y4), .ref 9, .int y2]) (h' := cs_H c rest) ckG_totalBytes rfl ?_
      by_cases h2 : ab_inb (y1 + y4) 30 = true
      case neg => exact ab_no hv (by simp only [fG_totalBytes_9, if_neg h1, if_neg h2])
      refine ab_iald ckG_totalBytes rfl rfl (ab_inb_ok h2) ?_
      refine ab_go 10 [9] (pc' := 9) (lo' := [some (.ref 9), some (.int y1), some (.int (y2 + (((c.1 1 ((y1 + y4)).toNatClampNeg) &&& (255 : Int32)) / (8 : Int32)))), some (.int y3), some (.int (y4 + (1 : Int32)))]) (st' := []) (h' := cs_H c rest) ckG_totalBytes rfl ?_
      have e : fG_totalBytes_9 (n + 1) c y1 y2 y3 y4 = fG_totalBytes_9 n c y1 (y2 + (((c.1 1 ((y1 + y4)).toNatClampNeg) &&& (255 : Int32)) / (8 : Int32))) y3 (y4 + (1 : Int32)) := by simp only [fG_totalBytes_9, if_neg h1, if_pos h2]
      exact ab_W.weak (ih c y1 (y2 + (((c.1 1 ((y1 + y4)).toNatClampNeg) &&& (255 : Int32)) / (8 : Int32))) y3 (y4 + (1 : Int32)) v (e.symm.trans hv)) ⟨rfl, rfl, rfl, rfl, rfl, trivial⟩
theorem tG_totalBytes {x2 : Int32} {v : Int32} (hv : fG_totalBytes c x2 = some v) : ab_M X mG_totalBytes (d) 0 0 [.ref 9, .int x2] (cs_H c rest) (fun r9 h9 => r9 = some (Value.int v) ∧ h9 = cs_H c rest) := by
  refine ab_entry (by decide) (Nat.le_of_ble_eq_true rfl) ?_
  refine ab_go 6 [9] (pc' := 4) (lo' := [some (.ref 9), some (.int x2), some (.int (0 : Int32)), none, none]) (st' := [.int x2, .ref 9]) (h' := cs_H c rest) ckG_totalBytes rfl ?_
  by_cases h1 : ab_inb x2 30 = true
  case neg => exact ab_no hv (by simp only [fG_totalBytes, if_neg h1])
  refine ab_iald ckG_totalBytes rfl rfl (ab_inb_ok h1) ?_
  refine ab_go 5 [9] (pc' := 9) (lo' := [some (.ref 9), some (.int x2), some (.int (0 : Int32)), some (.int (c.1 1 (x2).toNatClampNeg)), some (.int (1 : Int32))]) (st' := []) (h' := cs_H c rest) ckG_totalBytes rfl ?_
  have e : fG_totalBytes c x2 = fG_totalBytes_9 40 c x2 (0 : Int32) (c.1 1 (x2).toNatClampNeg) (1 : Int32) := by simp only [fG_totalBytes, if_pos h1]
  exact ab_W.weak (tG_totalBytes_9 40 c x2 (0 : Int32) (c.1 1 (x2).toNatClampNeg) (1 : Int32) v (e.symm.trans hv)) ⟨rfl, rfl, rfl, rfl, rfl, trivial⟩
def fG_pack_13 : Nat → cs_S → Int64 → Int32 → Int32 → Int32 → Option (Int64)
  | 0, _, _, _, _, _ => none
  | n + 1, c, y1, y3, y4, y5 => (if y4 < y5 then (some y1) else (if ab_inb ((12 : Int32) + y5) 30 = true then (ab_bd (fG_slotOf (c.1 1 (((12 : Int32) + y5)).toNatClampNeg)) (fun p1 => (if p1 = (-1 : Int32) then fG_pack_13 n c y1 y3 y4 (y5 + (1 : Int32)) else (if ab_inb p1 30 = true then (ab_bd (fC_bytes p1) (fun p2 => fG_pack_13 n c (y1 ||| ((((c.1 1 (p1).toNatClampNeg)).toInt64 &&& (4294967295 : Int64)) <<< ((y3).toInt64 &&& 63))) (y3 + ((8 : Int32) * p2)) y4 (y5 + (1 : Int32)))) else none)))) else none))
def fG_pack (c : cs_S)  : Option (Int64) := fG_pack_13 40 c (0 : Int64) (0 : Int32) (c.1 1 12) (1 : Int32)
theorem tG_pack_13 (hX : cs_X X) (n : Nat)   : ∀ (c : cs_S) (y1 : Int64) (y3 : Int32) (y4 : Int32) (y5 : Int32)  (v : Int64) (hv : fG_pack_13 n c y1 y3 y4 y5 = some v), ab_W X mG_pack (d + 2) 0 0 13 [some (.ref 9), some (.long y1), none, some (.int y3), some (.int y4), some (.int y5), none] [] (cs_H c rest) (fun r9 h9 => r9 = some (Value.long v) ∧ h9 = cs_H c rest) := by
  induction n with
  | zero =>
    intro c y1 y3 y4 y5 v hv
    cases hv
  | succ n ih =>
    intro c y1 y3 y4 y5 v hv
    refine ab_go 4 [13] (pc' := 17) (lo' := [some (.ref 9), some (.long y1), none, some (.int y3), some (.int y4), some (.int y5), none]) (st' := [.int y4, .int y5]) (h' := cs_H c rest) ckG_pack rfl ?_
    refine ab_icmp_gt ckG_pack rfl (fun (h1 : y4 < y5) => ?_) (fun (h1 : ¬ (y4 < y5)) => ?_)
    · refine ab_go 3 [13] (pc' := 70) (lo' := [some (.ref 9), some (.long y1), none, some (.int y3), some (.int y4), some (.int y5), none]) (st' := [.long y1]) (h' := cs_H c rest) ckG_pack rfl ?_
      have e : fG_pack_13 (n + 1) c y1 y3 y4 y5 = some y1 := by simp only [fG_pack_13, if_pos h1]
      obtain rfl := Option.some.inj (e.symm.trans hv)
      exact ab_lret ckG_pack rfl rfl ⟨rfl, rfl⟩
    · refine ab_go 6 [13] (pc' := 26) (lo' := [some (.ref 9), some (.long y1), none, some (.int y3), some (.int y4), some (.int y5), none]) (st' := [.int ((12 : Int32) + y5), .ref 9]) (h' := cs_H c rest) ckG_pack rfl ?_
      by_cases h2 : ab_inb ((12 : Int32) + y5) 30 = true
      case neg => exact ab_no hv (by simp only [fG_pack_13, if_neg h1, if_neg h2])
      refine ab_iald ckG_pack rfl rfl (ab_inb_ok h2) ?_
      rcases e1 : fG_slotOf (c.1 1 (((12 : Int32) + y5)).toNatClampNeg) with _ | p1
      · exact ab_no hv (by simp only [fG_pack_13, if_neg h1, if_pos h2, e1, ab_bd_n])
      refine ab_callS (bc2 := 0) (bs2 := 0) (as := [_]) (rest := []) ckG_pack rfl (by decide +kernel) wG_slotOf (tG_slotOf (d := d) (x1 := (c.1 1 (((12 : Int32) + y5)).toNatClampNeg)) hX (v := p1) e1) (by omega) ⟨Nat.le_refl _, Nat.le_refl _⟩ (Nat.le_of_ble_eq_true rfl) ?_
      rintro _ _ ⟨rfl, rfl⟩
      refine ab_go 5 [13] (pc' := 35) (lo' := [some (.ref 9), some (.long y1), none, some (.int y3), some (.int y4), some (.int y5), some (.int p1)]) (st' := [.int (-1 : Int32), .int p1]) (h' := cs_H c rest) ckG_pack rfl ?_
      refine ab_icmp_eq ckG_pack rfl (fun (h3 : p1 = (-1 : Int32)) => ?_) (fun (h3 : ¬ (p1 = (-1 : Int32))) => ?_)
      · refine ab_go 4 [13] (pc' := 13) (lo' := [some (.ref 9), some (.long y1), none, some (.int y3), some (.int y4), some (.int (y5 + (1 : Int32))), some (.int p1)]) (st' := []) (h' := cs_H c rest) ckG_pack rfl ?_
        have e : fG_pack_13 (n + 1) c y1 y3 y4 y5 = fG_pack_13 n c y1 y3 y4 (y5 + (1 : Int32)) := by simp only [fG_pack_13, if_neg h1, if_pos h2, e1, ab_bd_s, if_pos h3]
        exact ab_W.weak (ih c y1 y3 y4 (y5 + (1 : Int32)) v (e.symm.trans hv)) ⟨rfl, rfl, rfl, rfl, rfl, trivial⟩
      · refine ab_go 5 [13] (pc' := 42) (lo' := [some (.ref 9), some (.long y1), none, some (.int y3), some (.int y4), some (.int y5), some (.int p1)]) (st' := [.int p1, .ref 9, .long y1]) (h' := cs_H c rest) ckG_pack rfl ?_
        by_cases h4 : ab_inb p1 30 = true
        case neg => exact ab_no hv (by simp only [fG_pack_13, if_neg h1, if_pos h2, e1, ab_bd_s, if_neg h3, if_neg h4])
        refine ab_iald ckG_pack rfl rfl (ab_inb_ok h4) ?_
        refine ab_go 12 [13] (pc' := 57) (lo' := [some (.ref 9), some (.long (y1 ||| ((((c.1 1 (p1).toNatClampNeg)).toInt64 &&& (4294967295 : Int64)) <<< ((y3).toInt64 &&& 63)))), none, some (.int y3), some (.int y4), some (.int y5), some (.int p1)]) (st' := [.int p1, .int (8 : Int32), .int y3]) (h' := cs_H c rest) ckG_pack rfl ?_
        rcases e2 : fC_bytes p1 with _ | p2
        · exact ab_no hv (by simp only [fG_pack_13, if_neg h1, if_pos h2, e1, ab_bd_s, if_neg h3, if_pos h4, e2, ab_bd_n])
        refine ab_callS (bc2 := 0) (bs2 := 0) (as := [_]) (rest := [_, _]) ckG_pack rfl (by decide +kernel) wC_bytes (tC_bytes (d := d + 1) (x1 := p1) hX (v := p2) e2) (by omega) ⟨Nat.le_refl _, Nat.le_refl _⟩ (Nat.le_of_ble_eq_true rfl) ?_
        rintro _ _ ⟨rfl, rfl⟩
        refine ab_go 7 [13] (pc' := 13) (lo' := [some (.ref 9), some (.long (y1 ||| ((((c.1 1 (p1).toNatClampNeg)).toInt64 &&& (4294967295 : Int64)) <<< ((y3).toInt64 &&& 63)))), none, some (.int (y3 + ((8 : Int32) * p2))), some (.int y4), some (.int (y5 + (1 : Int32))), some (.int p1)]) (st' := []) (h' := cs_H c rest) ckG_pack rfl ?_
        have e : fG_pack_13 (n + 1) c y1 y3 y4 y5 = fG_pack_13 n c (y1 ||| ((((c.1 1 (p1).toNatClampNeg)).toInt64 &&& (4294967295 : Int64)) <<< ((y3).toInt64 &&& 63))) (y3 + ((8 : Int32) * p2)) y4 (y5 + (1 : Int32)) := by simp only [fG_pack_13, if_neg h1, if_pos h2, e1, ab_bd_s, if_neg h3, if_pos h4, e2, ab_bd_s]
        exact ab_W.weak (ih c (y1 ||| ((((c.1 1 (p1).toNatClampNeg)).toInt64 &&& (4294967295 : Int64)) <<< ((y3).toInt64 &&& 63))) (y3 + ((8 : Int32) * p2)) y4 (y5 + (1 : Int32)) v (e.symm.trans hv)) ⟨rfl, rfl, rfl, rfl, rfl, trivial⟩
theorem tG_pack (hX : cs_X X) {v : Int64} (hv : fG_pack c = some v) : ab_M X mG_pack (d + 2) 0 0 [.ref 9] (cs_H c rest) (fun r9 h9 => r9 = some (Value.long v) ∧ h9 = cs_H c rest) := by
  refine ab_entry (by decide) (Nat.le_of_ble_eq_true rfl) ?_
  refine ab_go 12 [13] (pc' := 13) (lo' := [some (.ref 9), some (.long (0 : Int64)), none, some (.int (0 : Int32)), some (.int (c.1 1 12)), some (.int (1 : Int32)), none]) (st' := []) (h' := cs_H c rest) ckG_pack rfl ?_
  have e : fG_pack c = fG_pack_13 40 c (0 : Int64) (0 : Int32) (c.1 1 12) (1 : Int32) := by simp only [fG_pack]
  exact ab_W.weak (tG_pack_13 hX 40 c (0 : Int64) (0 : Int32) (c.1 1 12) (1 : Int32) v (e.symm.trans hv)) ⟨rfl, rfl, rfl, rfl, rfl, trivial⟩
def fG_unpack_10 : Nat → cs_S → Int64 → Int32 → Int32 → Option (cs_S)
  | 0, _, _, _, _ => none
  | n + 1, c, y3, y5, y6 => (if y5 < y6 then (some c) else (if ab_inb ((5 : Int32) + y6) 30 = true then (ab_bd (fG_slotOf (c.1 1 (((5 : Int32) + y6)).toNatClampNeg)) (fun p1 => (if p1 = (-1 : Int32) then fG_unpack_10 n c y3 y5 (y6 + (1 : Int32)) else (ab_bd (fC_bytes p1) (fun p2 => (ab_bd (fN_refusalOfValue p1 (fG_number y3 p2)) (fun p3 => (if p3 = 0 then (if ab_inb p1 30 = true then fG_unpack_10 n (cs_u c 1 (p1).toNatClampNeg (fG_number y3 p2)) ((y3).toUInt64 >>> ((((8 : Int32) * p2)).toInt64.toUInt64 &&& Int64.toUInt64 63)).toInt64 y5 (y6 + (1 : Int32)) else none) else fG_unpack_10 n c ((y3).toUInt64 >>> ((((8 : Int32) * p2)).toInt64.toUInt64 &&& Int64.toUInt64 63)).toInt64 y5 (y6 + (1 : Int32)))))))))) else none))
def fG_unpack (c : cs_S) (x2 : Int64) : Option (cs_S) := fG_unpack_10 40 c x2 (c.1 1 5) (1 : Int32)
theorem tG_unpack_10 (hX : cs_X X) (n : Nat)   : ∀ (c : cs_S) (y3 : Int64) (y5 : Int32) (y6 : Int32)  (v : cs_S) (hv : fG_unpack_10 n c y3 y5 y6 = some v), ab_W X mG_unpack (d + 2) 0 0 10 [some (.ref 9), none, none, some (.long y3), none, some (.int y5), some (.int y6), none, none] [] (cs_H c rest) (fun r9 h9 => r9 = none ∧ h9 = cs_H v rest) := by
  induction n with
  | zero =>
    intro c y3 y5 y6 v hv
    cases hv
  | succ n ih =>
    intro c y3 y5 y6 v hv
    refine ab_go 4 [10] (pc' := 14) (lo' := [some (.ref 9), none, none, some (.long y3), none, some (.int y5), some (.int y6), none, none]) (st' := [.int y5, .int y6]) (h' := cs_H c rest) ckG_unpack rfl ?_
    refine ab_icmp_gt ckG_unpack rfl (fun (h1 : y5 < y6) => ?_) (fun (h1 : ¬ (y5 < y6)) => ?_)
    · have e : fG_unpack_10 (n + 1) c y3 y5 y6 = some c := by simp only [fG_unpack_10, if_pos h1]
      obtain rfl := Option.some.inj (e.symm.trans hv)
      exact ab_vret ckG_unpack rfl rfl ⟨rfl, rfl⟩
    · refine ab_go 6 [10] (pc' := 22) (lo' := [some (.ref 9), none, none, some (.long y3), none, some (.int y5), some (.int y6), none, none]) (st' := [.int ((5 : Int32) + y6), .ref 9]) (h' := cs_H c rest) ckG_unpack rfl ?_
      by_cases h2 : ab_inb ((5 : Int32) + y6) 30 = true
      case neg => exact ab_no hv (by simp only [fG_unpack_10, if_neg h1, if_neg h2])
      refine ab_iald ckG_unpack rfl rfl (ab_inb_ok h2) ?_
      rcases e1 : fG_slotOf (c.1 1 (((5 : Int32) + y6)).toNatClampNeg) with _ | p1
      · exact ab_no hv (by simp only [fG_unpack_10, if_neg h1, if_pos h2, e1, ab_bd_n])
      refine ab_callS (bc2 := 0) (bs2 := 0) (as := [_]) (rest := []) ckG_unpack rfl (by decide +kernel) wG_slotOf (tG_slotOf (d := d) (x1 := (c.1 1 (((5 : Int32) + y6)).toNatClampNeg)) hX (v := p1) e1) (by omega) ⟨Nat.le_refl _, Nat.le_refl _⟩ (Nat.le_of_ble_eq_true rfl) ?_
      rintro _ _ ⟨rfl, rfl⟩
      refine ab_go 5 [10] (pc' := 31) (lo' := [some (.ref 9), none, none, some (.long y3), none, some (.int y5), some (.int y6), some (.int p1), none]) (st' := [.int (-1 : Int32), .int p1]) (h' := cs_H c rest) ckG_unpack rfl ?_
      refine ab_icmp_eq ckG_unpack rfl (fun (h3 : p1 = (-1 : Int32)) => ?_) (fun (h3 : ¬ (p1 = (-1 : Int32))) => ?_)
      · refine ab_go 4 [10] (pc' := 10) (lo' := [some (.ref 9), none, none, some (.long y3), none, some (.int y5), some (.int (y6 + (1 : Int32))), some (.int p1), none]) (st' := []) (h' := cs_H c rest) ckG_unpack rfl ?_
        have e : fG_unpack_10 (n + 1) c y3 y5 y6 = fG_unpack_10 n c y3 y5 (y6 + (1 : Int32)) := by simp only [fG_unpack_10, if_neg h1, if_pos h2, e1, ab_bd_s, if_pos h3]
        exact ab_W.weak (ih c y3 y5 (y6 + (1 : Int32)) v (e.symm.trans hv)) ⟨rfl, rfl, rfl, rfl, trivial⟩
      · refine ab_go 4 [10] (pc' := 37) (lo' := [some (.ref 9), none, none, some (.long y3), none, some (.int y5), some (.int y6), some (.int p1), none]) (st' := [.int p1, .long y3]) (h' := cs_H c rest) ckG_unpack rfl ?_
        rcases e2 : fC_bytes p1 with _ | p2
        · exact ab_no hv (by simp only [fG_unpack_10, if_neg h1, if_pos h2, e1, ab_bd_s, if_neg h3, e2, ab_bd_n])
        refine ab_callS (bc2 := 0) (bs2 := 0) (as := [_]) (rest := [_]) ckG_unpack rfl (by decide +kernel) wC_bytes (tC_bytes (d := d + 1) (x1 := p1) hX (v := p2) e2) (by omega) ⟨Nat.le_refl _, Nat.le_refl _⟩ (Nat.le_of_ble_eq_true rfl) ?_
        rintro _ _ ⟨rfl, rfl⟩
        refine ab_callS (bc2 := 0) (bs2 := 0) (as := [_, _]) (rest := []) ckG_unpack rfl (by decide +kernel) wG_number (tG_number (d := d + 1) (x1 := y3) (x2 := p2)) (by omega) ⟨Nat.le_refl _, Nat.le_refl _⟩ (Nat.le_of_ble_eq_true rfl) ?_
        rintro _ _ ⟨rfl, rfl⟩
        refine ab_go 5 [10] (pc' := 49) (lo' := [some (.ref 9), none, none, some (.long y3), none, some (.int y5), some (.int y6), some (.int p1), some (.int (fG_number y3 p2))]) (st' := [.int (fG_number y3 p2), .int p1]) (h' := cs_H c rest) ckG_unpack rfl ?_
        rcases e3 : fN_refusalOfValue p1 (fG_number y3 p2) with _ | p3
        · exact ab_no hv (by simp only [fG_unpack_10, if_neg h1, if_pos h2, e1, ab_bd_s, if_neg h3, e2, ab_bd_s, e3, ab_bd_n])
        refine ab_callS (bc2 := 0) (bs2 := 0) (as := [_, _]) (rest := []) ckG_unpack rfl (by decide +kernel) wN_refusalOfValue (tN_refusalOfValue (d := d) (x1 := p1) (x2 := (fG_number y3 p2)) hX (v := p3) e3) (by omega) ⟨Nat.le_refl _, Nat.le_refl _⟩ (Nat.le_of_ble_eq_true rfl) ?_
        rintro _ _ ⟨rfl, rfl⟩
        refine ab_if_ne ckG_unpack rfl (fun (h4 : ¬ (p3 = 0)) => ?_) (fun (h4 : p3 = 0) => ?_)
        · refine ab_go 5 [10] (pc' := 66) (lo' := [some (.ref 9), none, none, some (.long y3), none, some (.int y5), some (.int y6), some (.int p1), some (.int (fG_number y3 p2))]) (st' := [.int p1, .int (8 : Int32), .long y3]) (h' := cs_H c rest) ckG_unpack rfl ?_
          refine ab_callS (bc2 := 0) (bs2 := 0) (as := [_]) (rest := [_, _]) ckG_unpack rfl (by decide +kernel) wC_bytes (tC_bytes (d := d + 1) (x1 := p1) hX (v := p2) e2) (by omega) ⟨Nat.le_refl _, Nat.le_refl _⟩ (Nat.le_of_ble_eq_true rfl) ?_
          rintro _ _ ⟨rfl, rfl⟩
          refine ab_go 7 [10] (pc' := 10) (lo' := [some (.ref 9), none, none, some (.long ((y3).toUInt64 >>> ((((8 : Int32) * p2)).toInt64.toUInt64 &&& Int64.toUInt64 63)).toInt64), none, some (.int y5), some (.int (y6 + (1 : Int32))), some (.int p1), some (.int (fG_number y3 p2))]) (st' := []) (h' := cs_H c rest) ckG_unpack rfl ?_
          have e : fG_unpack_10 (n + 1) c y3 y5 y6 = fG_unpack_10 n c ((y3).toUInt64 >>> ((((8 : Int32) * p2)).toInt64.toUInt64 &&& Int64.toUInt64 63)).toInt64 y5 (y6 + (1 : Int32)) := by simp only [fG_unpack_10, if_neg h1, if_pos h2, e1, ab_bd_s, if_neg h3, e2, ab_bd_s, e3, ab_bd_s, if_neg h4]
          exact ab_W.weak (ih c ((y3).toUInt64 >>> ((((8 : Int32) * p2)).toInt64.toUInt64 &&& Int64.toUInt64 63)).toInt64 y5 (y6 + (1 : Int32)) v (e.symm.trans hv)) ⟨rfl, rfl, rfl, rfl, trivial⟩
        · refine ab_go 5 [10] (pc' := 60) (lo' := [some (.ref 9), none, none, some (.long y3), none, some (.int y5), some (.int y6), some (.int p1), some (.int (fG_number y3 p2))]) (st' := [.int (fG_number y3 p2), .int p1, .ref 9]) (h' := cs_H c rest) ckG_unpack rfl ?_
          by_cases h5 : ab_inb p1 30 = true
          case neg => exact ab_no hv (by simp only [fG_unpack_10, if_neg h1, if_pos h2, e1, ab_bd_s, if_neg h3, e2, ab_bd_s, e3, ab_bd_s, if_pos h4, if_neg h5])
          refine ab_iast ckG_unpack rfl rfl (ab_inb_ok h5) ?_
          refine ab_go 5 [10] (pc' := 66) (lo' := [some (.ref 9), none, none, some (.long y3), none, some (.int y5), some (.int y6), some (.int p1), some (.int (fG_number y3 p2))]) (st' := [.int p1, .int (8 : Int32), .long y3]) (h' := cs_H (cs_u c 1 (p1).toNatClampNeg (fG_number y3 p2)) rest) ckG_unpack rfl ?_
          refine ab_callS (bc2 := 0) (bs2 := 0) (as := [_]) (rest := [_, _]) ckG_unpack rfl (by decide +kernel) wC_bytes (tC_bytes (d := d + 1) (x1 := p1) hX (v := p2) e2) (by omega) ⟨Nat.le_refl _, Nat.le_refl _⟩ (Nat.le_of_ble_eq_true rfl) ?_
          rintro _ _ ⟨rfl, rfl⟩
          refine ab_go 7 [10] (pc' := 10) (lo' := [some (.ref 9), none, none, some (.long ((y3).toUInt64 >>> ((((8 : Int32) * p2)).toInt64.toUInt64 &&& Int64.toUInt64 63)).toInt64), none, some (.int y5), some (.int (y6 + (1 : Int32))), some (.int p1), some (.int (fG_number y3 p2))]) (st' := []) (h' := cs_H (cs_u c 1 (p1).toNatClampNeg (fG_number y3 p2)) rest) ckG_unpack rfl ?_
          have e : fG_unpack_10 (n + 1) c y3 y5 y6 = fG_unpack_10 n (cs_u c 1 (p1).toNatClampNeg (fG_number y3 p2)) ((y3).toUInt64 >>> ((((8 : Int32) * p2)).toInt64.toUInt64 &&& Int64.toUInt64 63)).toInt64 y5 (y6 + (1 : Int32)) := by simp only [fG_unpack_10, if_neg h1, if_pos h2, e1, ab_bd_s, if_neg h3, e2, ab_bd_s, e3, ab_bd_s, if_pos h4, if_pos h5]
          exact ab_W.weak (ih (cs_u c 1 (p1).toNatClampNeg (fG_number y3 p2)) ((y3).toUInt64 >>> ((((8 : Int32) * p2)).toInt64.toUInt64 &&& Int64.toUInt64 63)).toInt64 y5 (y6 + (1 : Int32)) v (e.symm.trans hv)) ⟨rfl, rfl, rfl, rfl, trivial⟩
theorem tG_unpack {x2 : Int64} (hX : cs_X X) {v : cs_S} (hv : fG_unpack c x2 = some v) : ab_M X mG_unpack (d + 2) 0 0 [.ref 9, .long x2] (cs_H c rest) (fun r9 h9 => r9 = none ∧ h9 = cs_H v rest) := by
  refine ab_entry (by decide) (Nat.le_of_ble_eq_true rfl) ?_
  refine ab_go 10 [10] (pc' := 10) (lo' := [some (.ref 9), some (.long x2), none, some (.long x2), none, some (.int (c.1 1 5)), some (.int (1 : Int32)), none, none]) (st' := []) (h' := cs_H c rest) ckG_unpack rfl ?_
  have e : fG_unpack c x2 = fG_unpack_10 40 c x2 (c.1 1 5) (1 : Int32) := by simp only [fG_unpack]
  exact ab_W.weak (tG_unpack_10 hX 40 c x2 (c.1 1 5) (1 : Int32) v (e.symm.trans hv)) ⟨rfl, rfl, rfl, rfl, trivial⟩
def fT_wordAt (c : cs_S) (x1 : Int32) (x2 : Int32) : Option (Int32) := (if x1 < 0 then (some (0 : Int32)) else (if (1 : Int32) < x1 then (some (0 : Int32)) else (if x2 < 0 then (some (0 : Int32)) else (if x2 < (22 : Int32) then (if x1 = (0 : Int32) then (if ab_inb x2 22 = true then (some (c.1 4 (x2).toNatClampNeg)) else none) else (if x1 = (1 : Int32) then (if ab_inb x2 22 = true then (some (c.1 5 (x2).toNatClampNeg)) else none) else none)) else (some (0 : Int32))))))
theorem tT_wordAt {x1 : Int32} {x2 : Int32} {v : Int32} (hv : fT_wordAt c x1 x2 = some v) : ab_M X mT_wordAt (d) 0 0 [.ref 14, .int x1, .int x2] (cs_H c rest) (fun r9 h9 => r9 = some (Value.int v) ∧ h9 = cs_H c rest) := by
  refine ab_entry (by decide) (Nat.le_of_ble_eq_true rfl) ?_
  refine ab_go 3 [] (pc' := 1) (lo' := [some (.ref 14), some (.int x1), some (.int x2)]) (st' := [.int x1]) (h' := cs_H c rest) ckT_wordAt rfl ?_
  refine ab_if_lt ckT_wordAt rfl (fun (h1 : x1 < 0) => ?_) (fun (h1 : ¬ (x1 < 0)) => ?_)
  · refine ab_go 3 [] (pc' := 20) (lo' := [some (.ref 14), some (.int x1), some (.int x2)]) (st' := [.int (0 : Int32)]) (h' := cs_H c rest) ckT_wordAt rfl ?_
    have e : fT_wordAt c x1 x2 = some (0 : Int32) := by simp only [fT_wordAt, if_pos h1]
    obtain rfl := Option.some.inj (e.symm.trans hv)
    exact ab_iret ckT_wordAt rfl rfl ⟨rfl, rfl⟩
  · refine ab_go 4 [] (pc' := 6) (lo' := [some (.ref 14), some (.int x1), some (.int x2)]) (st' := [.int (1 : Int32), .int x1]) (h' := cs_H c rest) ckT_wordAt rfl ?_
    refine ab_icmp_gt ckT_wordAt rfl (fun (h2 : (1 : Int32) < x1) => ?_) (fun (h2 : ¬ ((1 : Int32) < x1)) => ?_)
    · refine ab_go 3 [] (pc' := 20) (lo' := [some (.ref 14), some (.int x1), some (.int x2)]) (st' := [.int (0 : Int32)]) (h' := cs_H c rest) ckT_wordAt rfl ?_
      have e : fT_wordAt c x1 x2 = some (0 : Int32) := by simp only [fT_wordAt, if_neg h1, if_pos h2]
      obtain rfl := Option.some.inj (e.symm.trans hv)
      exact ab_iret ckT_wordAt rfl rfl ⟨rfl, rfl⟩
    · refine ab_go 3 [] (pc' := 10) (lo' := [some (.ref 14), some (.int x1), some (.int x2)]) (st' := [.int x2]) (h' := cs_H c rest) ckT_wordAt rfl ?_
      refine ab_if_lt ckT_wordAt rfl (fun (h3 : x2 < 0) => ?_) (fun (h3 : ¬ (x2 < 0)) => ?_)
      · refine ab_go 3 [] (pc' := 20) (lo' := [some (.ref 14), some (.int x1), some (.int x2)]) (st' := [.int (0 : Int32)]) (h' := cs_H c rest) ckT_wordAt rfl ?_
        have e : fT_wordAt c x1 x2 = some (0 : Int32) := by simp only [fT_wordAt, if_neg h1, if_neg h2, if_pos h3]
        obtain rfl := Option.some.inj (e.symm.trans hv)
        exact ab_iret ckT_wordAt rfl rfl ⟨rfl, rfl⟩
      · refine ab_go 4 [] (pc' := 16) (lo' := [some (.ref 14), some (.int x1), some (.int x2)]) (st' := [.int (22 : Int32), .int x2]) (h' := cs_H c rest) ckT_wordAt rfl ?_
        refine ab_icmp_lt ckT_wordAt rfl (fun (h4 : x2 < (22 : Int32)) => ?_) (fun (h4 : ¬ (x2 < (22 : Int32))) => ?_)
        · refine ab_go 5 [] (pc' := 26) (lo' := [some (.ref 14), some (.int x1), some (.int x2)]) (st' := [.int x1, .ref 15]) (h' := cs_H c rest) ckT_wordAt rfl ?_
          by_cases h5 : x1 = (0 : Int32)
          · refine ab_aald (q := 16) ckT_wordAt rfl rfl (by rw [h5]; exact ab_inb_ok (by decide)) (by rw [h5]; rfl) ?_
            refine ab_go 3 [] (pc' := 28) (lo' := [some (.ref 14), some (.int x1), some (.int x2)]) (st' := [.int x2, .ref 16]) (h' := cs_H c rest) ckT_wordAt rfl ?_
            by_cases h7 : ab_inb x2 22 = true
            case neg => exact ab_no hv (by simp only [fT_wordAt, if_neg h1, if_neg h2, if_neg h3, if_pos h4, if_pos h5, if_neg h7])
            refine ab_iald ckT_wordAt rfl rfl (ab_inb_ok h7) ?_
            have e : fT_wordAt c x1 x2 = some (c.1 4 (x2).toNatClampNeg) := by simp only [fT_wordAt, if_neg h1, if_neg h2, if_neg h3, if_pos h4, if_pos h5, if_pos h7]
            obtain rfl := Option.some.inj (e.symm.trans hv)
            exact ab_iret ckT_wordAt rfl rfl ⟨rfl, rfl⟩
          by_cases h6 : x1 = (1 : Int32)
          case neg => exact ab_no hv (by simp only [fT_wordAt, if_neg h1, if_neg h2, if_neg h3, if_pos h4, if_neg h5, if_neg h6])
          refine ab_aald (q := 17) ckT_wordAt rfl rfl (by rw [h6]; exact ab_inb_ok (by decide)) (by rw [h6]; rfl) ?_
          refine ab_go 3 [] (pc' := 28) (lo' := [some (.ref 14), some (.int x1), some (.int x2)]) (st' := [.int x2, .ref 17]) (h' := cs_H c rest) ckT_wordAt rfl ?_
          by_cases h8 : ab_inb x2 22 = true
          case neg => exact ab_no hv (by simp only [fT_wordAt, if_neg h1, if_neg h2, if_neg h3, if_pos h4, if_neg h5, if_pos h6, if_neg h8])
          refine ab_iald ckT_wordAt rfl rfl (ab_inb_ok h8) ?_
          have e : fT_wordAt c x1 x2 = some (c.1 5 (x2).toNatClampNeg) := by simp only [fT_wordAt, if_neg h1, if_neg h2, if_neg h3, if_pos h4, if_neg h5, if_pos h6, if_pos h8]
          obtain rfl := Option.some.inj (e.symm.trans hv)
          exact ab_iret ckT_wordAt rfl rfl ⟨rfl, rfl⟩
        · refine ab_go 3 [] (pc' := 20) (lo' := [some (.ref 14), some (.int x1), some (.int x2)]) (st' := [.int (0 : Int32)]) (h' := cs_H c rest) ckT_wordAt rfl ?_
          have e : fT_wordAt c x1 x2 = some (0 : Int32) := by simp only [fT_wordAt, if_neg h1, if_neg h2, if_neg h3, if_neg h4]
          obtain rfl := Option.some.inj (e.symm.trans hv)
          exact ab_iret ckT_wordAt rfl rfl ⟨rfl, rfl⟩
def fT_isBusy (c : cs_S)  : Int32 := (if (c.1 0 7) = (-1 : Int32) then (0 : Int32) else (1 : Int32))
theorem tT_isBusy : ab_M X mT_isBusy (d) 0 0 [.ref 14] (cs_H c rest) (fun r9 h9 => r9 = some (Value.int (fT_isBusy c)) ∧ h9 = cs_H c rest) := by
  refine ab_entry (by decide) (Nat.le_of_ble_eq_true rfl) ?_
  refine ab_go 5 [] (pc' := 5) (lo' := [some (.ref 14)]) (st' := [.int (-1 : Int32), .int (c.1 0 7)]) (h' := cs_H c rest) ckT_isBusy rfl ?_
  refine ab_icmp_eq ckT_isBusy rfl (fun (h1 : (c.1 0 7) = (-1 : Int32)) => ?_) (fun (h1 : ¬ ((c.1 0 7) = (-1 : Int32))) => ?_)
  · refine ab_go 3 [] (pc' := 13) (lo' := [some (.ref 14)]) (st' := [.int (0 : Int32)]) (h' := cs_H c rest) ckT_isBusy rfl ?_
    have e : fT_isBusy c = (0 : Int32) := by simp only [fT_isBusy, if_pos h1]
    exact ab_zret ckT_isBusy rfl rfl (Or.inl rfl) ⟨(congrArg (fun q : Int32 => some (Value.int q)) e).symm, rfl⟩
  · refine ab_go 4 [] (pc' := 13) (lo' := [some (.ref 14)]) (st' := [.int (1 : Int32)]) (h' := cs_H c rest) ckT_isBusy rfl ?_
    have e : fT_isBusy c = (1 : Int32) := by simp only [fT_isBusy, if_neg h1]
    exact ab_zret ckT_isBusy rfl rfl (Or.inr rfl) ⟨(congrArg (fun q : Int32 => some (Value.int q)) e).symm, rfl⟩
def fT_giveUp (c : cs_S)  : cs_S := (cs_u c 0 7 (-1 : Int32))
theorem tT_giveUp : ab_M X mT_giveUp (d) 0 0 [.ref 14] (cs_H c rest) (fun r9 h9 => r9 = none ∧ h9 = cs_H (fT_giveUp c) rest) := by
  refine ab_entry (by decide) (Nat.le_of_ble_eq_true rfl) ?_
  refine ab_go 5 [] (pc' := 5) (lo' := [some (.ref 14)]) (st' := []) (h' := cs_H (cs_u c 0 7 (-1 : Int32)) rest) ckT_giveUp rfl ?_
  have e : fT_giveUp c = (cs_u c 0 7 (-1 : Int32)) := by simp only [fT_giveUp]
  exact ab_vret ckT_giveUp rfl rfl ⟨rfl, (congrArg (fun q : cs_S => cs_H q rest) e).symm⟩
def fT_begin (c : cs_S)  : cs_S := (if (c.1 4 0) ≤ (c.1 5 0) then (cs_u (cs_u c 0 6 (0 : Int32)) 0 7 (0 : Int32)) else (cs_u (cs_u c 0 6 (1 : Int32)) 0 7 (0 : Int32)))
theorem tT_begin : ab_M X mT_begin (d) 0 0 [.ref 14] (cs_H c rest) (fun r9 h9 => r9 = none ∧ h9 = cs_H (fT_begin c) rest) := by
  refine ab_entry (by decide) (Nat.le_of_ble_eq_true rfl) ?_
  refine ab_go 15 [] (pc' := 17) (lo' := [some (.ref 14)]) (st' := [.int (c.1 4 0), .int (c.1 5 0), .ref 14]) (h' := cs_H c rest) ckT_begin rfl ?_
  refine ab_icmp_ge ckT_begin rfl (fun (h1 : (c.1 4 0) ≤ (c.1 5 0)) => ?_) (fun (h1 : ¬ ((c.1 4 0) ≤ (c.1 5 0))) => ?_)
  · refine ab_go 7 [] (pc' := 33) (lo' := [some (.ref 14)]) (st' := []) (h' := cs_H (cs_u (cs_u c 0 6 (0 : Int32)) 0 7 (0 : Int32)) rest) ckT_begin rfl ?_
    have e : fT_begin c = (cs_u (cs_u c 0 6 (0 : Int32)) 0 7 (0 : Int32)) := by simp only [fT_begin, if_pos h1]
    exact ab_vret ckT_begin rfl rfl ⟨rfl, (congrArg (fun q : cs_S => cs_H q rest) e).symm⟩
  · refine ab_go 8 [] (pc' := 33) (lo' := [some (.ref 14)]) (st' := []) (h' := cs_H (cs_u (cs_u c 0 6 (1 : Int32)) 0 7 (0 : Int32)) rest) ckT_begin rfl ?_
    have e : fT_begin c = (cs_u (cs_u c 0 6 (1 : Int32)) 0 7 (0 : Int32)) := by simp only [fT_begin, if_neg h1]
    exact ab_vret ckT_begin rfl rfl ⟨rfl, (congrArg (fun q : cs_S => cs_H q rest) e).symm⟩
def fT_beginSave_2 : Nat → cs_S → Int32 → Option (cs_S)
  | 0, _, _ => none
  | n + 1, c, y2 => (if (22 : Int32) ≤ y2 then (let p1 := fT_begin c; (some p1)) else (ab_bd (fC_kept (y2 - (1 : Int32))) (fun p2 => (if ab_inb p2 30 = true then (if ab_inb y2 22 = true then fT_beginSave_2 n (cs_u c 6 (y2).toNatClampNeg (c.1 1 (p2).toNatClampNeg)) (y2 + (1 : Int32)) else none) else none))))
def fT_beginSave (c : cs_S)  : Option (cs_S) := fT_beginSave_2 40 c (1 : Int32)
theorem tT_beginSave_2 (hX : cs_X X) (n : Nat)   : ∀ (c : cs_S) (y2 : Int32)  (v : cs_S) (hv : fT_beginSave_2 n c y2 = some v), ab_W X mT_beginSave (d + 1) 0 0 2 [some (.ref 14), some (.ref 9), some (.int y2)] [] (cs_H c rest) (fun r9 h9 => r9 = none ∧ h9 = cs_H v rest) := by
  induction n with
  | zero =>
    intro c y2 v hv
    cases hv
  | succ n ih =>
    intro c y2 v hv
    refine ab_go 4 [2] (pc' := 5) (lo' := [some (.ref 14), some (.ref 9), some (.int y2)]) (st' := [.int (22 : Int32), .int y2]) (h' := cs_H c rest) ckT_beginSave rfl ?_
    refine ab_icmp_ge ckT_beginSave rfl (fun (h1 : (22 : Int32) ≤ y2) => ?_) (fun (h1 : ¬ ((22 : Int32) ≤ y2)) => ?_)
    · refine ab_go 3 [2] (pc' := 29) (lo' := [some (.ref 14), some (.ref 9), some (.int y2)]) (st' := [.ref 14]) (h' := cs_H c rest) ckT_beginSave rfl ?_
      refine ab_callV (bc2 := 0) (bs2 := 0) (as := []) (rest := []) ckT_beginSave rfl (by decide +kernel) wT_begin (tT_begin (d := d) (c := c)) rfl rfl (by omega) ⟨Nat.le_refl _, Nat.le_refl _⟩ (Nat.le_of_ble_eq_true rfl) ?_
      rintro _ _ ⟨rfl, rfl⟩
      generalize e1 : fT_begin c = p1
      have e : fT_beginSave_2 (n + 1) c y2 = some p1 := by simp only [fT_beginSave_2, if_pos h1, e1]
      obtain rfl := Option.some.inj (e.symm.trans hv)
      exact ab_vret ckT_beginSave rfl rfl ⟨rfl, rfl⟩
    · refine ab_go 9 [2] (pc' := 17) (lo' := [some (.ref 14), some (.ref 9), some (.int y2)]) (st' := [.int (y2 - (1 : Int32)), .ref 9, .int y2, .ref 18]) (h' := cs_H c rest) ckT_beginSave rfl ?_
      rcases e2 : fC_kept (y2 - (1 : Int32)) with _ | p2
      · exact ab_no hv (by simp only [fT_beginSave_2, if_neg h1, e2, ab_bd_n])
      refine ab_callS (bc2 := 0) (bs2 := 0) (as := [_]) (rest := [_, _, _]) ckT_beginSave rfl (by decide +kernel) wC_kept (tC_kept (d := d) (x1 := (y2 - (1 : Int32))) hX (v := p2) e2) (by omega) ⟨Nat.le_refl _, Nat.le_refl _⟩ (Nat.le_of_ble_eq_true rfl) ?_
      rintro _ _ ⟨rfl, rfl⟩
      by_cases h2 : ab_inb p2 30 = true
      case neg => exact ab_no hv (by simp only [fT_beginSave_2, if_neg h1, e2, ab_bd_s, if_neg h2])
      refine ab_iald ckT_beginSave rfl rfl (ab_inb_ok h2) ?_
      by_cases h3 : ab_inb y2 22 = true
      case neg => exact ab_no hv (by simp only [fT_beginSave_2, if_neg h1, e2, ab_bd_s, if_pos h2, if_neg h3])
      refine ab_iast ckT_beginSave rfl rfl (ab_inb_ok h3) ?_
      refine ab_go 4 [2] (pc' := 2) (lo' := [some (.ref 14), some (.ref 9), some (.int (y2 + (1 : Int32)))]) (st' := []) (h' := cs_H (cs_u c 6 (y2).toNatClampNeg (c.1 1 (p2).toNatClampNeg)) rest) ckT_beginSave rfl ?_
      have e : fT_beginSave_2 (n + 1) c y2 = fT_beginSave_2 n (cs_u c 6 (y2).toNatClampNeg (c.1 1 (p2).toNatClampNeg)) (y2 + (1 : Int32)) := by simp only [fT_beginSave_2, if_neg h1, e2, ab_bd_s, if_pos h2, if_pos h3]
      exact ab_W.weak (ih (cs_u c 6 (y2).toNatClampNeg (c.1 1 (p2).toNatClampNeg)) (y2 + (1 : Int32)) v (e.symm.trans hv)) ⟨rfl, rfl, rfl, trivial⟩
theorem tT_beginSave (hX : cs_X X) {v : cs_S} (hv : fT_beginSave c = some v) : ab_M X mT_beginSave (d + 1) 0 0 [.ref 14, .ref 9] (cs_H c rest) (fun r9 h9 => r9 = none ∧ h9 = cs_H v rest) := by
  refine ab_entry (by decide) (Nat.le_of_ble_eq_true rfl) ?_
  refine ab_go 4 [2] (pc' := 2) (lo' := [some (.ref 14), some (.ref 9), some (.int (1 : Int32))]) (st' := []) (h' := cs_H c rest) ckT_beginSave rfl ?_
  have e : fT_beginSave c = fT_beginSave_2 40 c (1 : Int32) := by simp only [fT_beginSave]
  exact ab_W.weak (tT_beginSave_2 hX 40 c (1 : Int32) v (e.symm.trans hv)) ⟨rfl, rfl, rfl, trivial⟩
def fT_beginRestore_2 : Nat → cs_S → Int32 → Option (cs_S)
  | 0, _, _ => none
  | n + 1, c, y1 => (if (22 : Int32) ≤ y1 then (let p1 := fT_begin c; (some p1)) else (ab_bd (fC_kept (y1 - (1 : Int32))) (fun p2 => (ab_bd (fC_start p2) (fun p3 => (if ab_inb y1 22 = true then fT_beginRestore_2 n (cs_u c 6 (y1).toNatClampNeg p3) (y1 + (1 : Int32)) else none))))))
def fT_beginRestore (c : cs_S)  : Option (cs_S) := fT_beginRestore_2 40 c (1 : Int32)
theorem tT_beginRestore_2 (hX : cs_X X) (n : Nat)   : ∀ (c : cs_S) (y1 : Int32)  (v : cs_S) (hv : fT_beginRestore_2 n c y1 = some v), ab_W X mT_beginRestore (d + 1) 0 0 2 [some (.ref 14), some (.int y1)] [] (cs_H c rest) (fun r9 h9 => r9 = none ∧ h9 = cs_H v rest) := by
  induction n with
  | zero =>
    intro c y1 v hv
    cases hv
  | succ n ih =>
    intro c y1 v hv
    refine ab_go 4 [2] (pc' := 5) (lo' := [some (.ref 14), some (.int y1)]) (st' := [.int (22 : Int32), .int y1]) (h' := cs_H c rest) ckT_beginRestore rfl ?_
    refine ab_icmp_ge ckT_beginRestore rfl (fun (h1 : (22 : Int32) ≤ y1) => ?_) (fun (h1 : ¬ ((22 : Int32) ≤ y1)) => ?_)
    · refine ab_go 3 [2] (pc' := 30) (lo' := [some (.ref 14), some (.int y1)]) (st' := [.ref 14]) (h' := cs_H c rest) ckT_beginRestore rfl ?_
      refine ab_callV (bc2 := 0) (bs2 := 0) (as := []) (rest := []) ckT_beginRestore rfl (by decide +kernel) wT_begin (tT_begin (d := d) (c := c)) rfl rfl (by omega) ⟨Nat.le_refl _, Nat.le_refl _⟩ (Nat.le_of_ble_eq_true rfl) ?_
      rintro _ _ ⟨rfl, rfl⟩
      generalize e1 : fT_begin c = p1
      have e : fT_beginRestore_2 (n + 1) c y1 = some p1 := by simp only [fT_beginRestore_2, if_pos h1, e1]
      obtain rfl := Option.some.inj (e.symm.trans hv)
      exact ab_vret ckT_beginRestore rfl rfl ⟨rfl, rfl⟩
    · refine ab_go 8 [2] (pc' := 16) (lo' := [some (.ref 14), some (.int y1)]) (st' := [.int (y1 - (1 : Int32)), .int y1, .ref 18]) (h' := cs_H c rest) ckT_beginRestore rfl ?_
      rcases e2 : fC_kept (y1 - (1 : Int32)) with _ | p2
      · exact ab_no hv (by simp only [fT_beginRestore_2, if_neg h1, e2, ab_bd_n])
      refine ab_callS (bc2 := 0) (bs2 := 0) (as := [_]) (rest := [_, _]) ckT_beginRestore rfl (by decide +kernel) wC_kept (tC_kept (d := d) (x1 := (y1 - (1 : Int32))) hX (v := p2) e2) (by omega) ⟨Nat.le_refl _, Nat.le_refl _⟩ (Nat.le_of_ble_eq_true rfl) ?_
      rintro _ _ ⟨rfl, rfl⟩
      rcases e3 : fC_start p2 with _ | p3
      · exact ab_no hv (by simp only [fT_beginRestore_2, if_neg h1, e2, ab_bd_s, e3, ab_bd_n])
      refine ab_callS (bc2 := 0) (bs2 := 0) (as := [_]) (rest := [_, _]) ckT_beginRestore rfl (by decide +kernel) wC_start (tC_start (d := d) (x1 := p2) hX (v := p3) e3) (by omega) ⟨Nat.le_refl _, Nat.le_refl _⟩ (Nat.le_of_ble_eq_true rfl) ?_
      rintro _ _ ⟨rfl, rfl⟩
      by_cases h2 : ab_inb y1 22 = true
      case neg => exact ab_no hv (by simp only [fT_beginRestore_2, if_neg h1, e2, ab_bd_s, e3, ab_bd_s, if_neg h2])
      refine ab_iast ckT_beginRestore rfl rfl (ab_inb_ok h2) ?_
      refine ab_go 4 [2] (pc' := 2) (lo' := [some (.ref 14), some (.int (y1 + (1 : Int32)))]) (st' := []) (h' := cs_H (cs_u c 6 (y1).toNatClampNeg p3) rest) ckT_beginRestore rfl ?_
      have e : fT_beginRestore_2 (n + 1) c y1 = fT_beginRestore_2 n (cs_u c 6 (y1).toNatClampNeg p3) (y1 + (1 : Int32)) := by simp only [fT_beginRestore_2, if_neg h1, e2, ab_bd_s, e3, ab_bd_s, if_pos h2]
      exact ab_W.weak (ih (cs_u c 6 (y1).toNatClampNeg p3) (y1 + (1 : Int32)) v (e.symm.trans hv)) ⟨rfl, rfl, trivial⟩
theorem tT_beginRestore (hX : cs_X X) {v : cs_S} (hv : fT_beginRestore c = some v) : ab_M X mT_beginRestore (d + 1) 0 0 [.ref 14] (cs_H c rest) (fun r9 h9 => r9 = none ∧ h9 = cs_H v rest) := by
  refine ab_entry (by decide) (Nat.le_of_ble_eq_true rfl) ?_
  refine ab_go 4 [2] (pc' := 2) (lo' := [some (.ref 14), some (.int (1 : Int32))]) (st' := []) (h' := cs_H c rest) ckT_beginRestore rfl ?_
  have e : fT_beginRestore c = fT_beginRestore_2 40 c (1 : Int32) := by simp only [fT_beginRestore]
  exact ab_W.weak (tT_beginRestore_2 hX 40 c (1 : Int32) v (e.symm.trans hv)) ⟨rfl, rfl, trivial⟩
def fT_goOn (c : cs_S)  : Option (cs_S) := (if (c.1 0 7) = (-1 : Int32) then (some c) else (if (c.1 0 7) = (22 : Int32) then (if (c.1 0 6) = (0 : Int32) then (if ((1 : Int32) - (c.1 0 6)) = (0 : Int32) then (some (cs_u (cs_u c 4 0 ((c.1 4 0) + (1 : Int32))) 0 7 (-1 : Int32))) else (if ((1 : Int32) - (c.1 0 6)) = (1 : Int32) then (some (cs_u (cs_u c 4 0 ((c.1 5 0) + (1 : Int32))) 0 7 (-1 : Int32))) else none)) else (if (c.1 0 6) = (1 : Int32) then (if ((1 : Int32) - (c.1 0 6)) = (0 : Int32) then (some (cs_u (cs_u c 5 0 ((c.1 4 0) + (1 : Int32))) 0 7 (-1 : Int32))) else (if ((1 : Int32) - (c.1 0 6)) = (1 : Int32) then (some (cs_u (cs_u c 5 0 ((c.1 5 0) + (1 : Int32))) 0 7 (-1 : Int32))) else none)) else none)) else (if (c.1 0 6) = (0 : Int32) then (if (c.1 0 7) = 0 then (if ab_inb (c.1 0 7) 22 = true then (some (cs_u (cs_u c 4 ((c.1 0 7)).toNatClampNeg (0 : Int32)) 0 7 ((c.1 0 7) + (1 : Int32)))) else none) else (if ab_inb (c.1 0 7) 22 = true then (some (cs_u (cs_u c 4 ((c.1 0 7)).toNatClampNeg (c.1 6 ((c.1 0 7)).toNatClampNeg)) 0 7 ((c.1 0 7) + (1 : Int32)))) else none)) else (if (c.1 0 6) = (1 : Int32) then (if (c.1 0 7) = 0 then (if ab_inb (c.1 0 7) 22 = true then (some (cs_u (cs_u c 5 ((c.1 0 7)).toNatClampNeg (0 : Int32)) 0 7 ((c.1 0 7) + (1 : Int32)))) else none) else (if ab_inb (c.1 0 7) 22 = true then (some (cs_u (cs_u c 5 ((c.1 0 7)).toNatClampNeg (c.1 6 ((c.1 0 7)).toNatClampNeg)) 0 7 ((c.1 0 7) + (1 : Int32)))) else none)) else none))))
theorem tT_goOn {v : cs_S} (hv : fT_goOn c = some v) : ab_M X mT_goOn (d) 0 0 [.ref 14] (cs_H c rest) (fun r9 h9 => r9 = none ∧ h9 = cs_H v rest) := by
  refine ab_entry (by decide) (Nat.le_of_ble_eq_true rfl) ?_
  refine ab_go 5 [] (pc' := 5) (lo' := [some (.ref 14)]) (st' := [.int (-1 : Int32), .int (c.1 0 7)]) (h' := cs_H c rest) ckT_goOn rfl ?_
  refine ab_icmp_ne ckT_goOn rfl (fun (h1 : ¬ ((c.1 0 7) = (-1 : Int32))) => ?_) (fun (h1 : (c.1 0 7) = (-1 : Int32)) => ?_)
  · refine ab_go 5 [] (pc' := 15) (lo' := [some (.ref 14)]) (st' := [.int (22 : Int32), .int (c.1 0 7)]) (h' := cs_H c rest) ckT_goOn rfl ?_
    refine ab_icmp_ne ckT_goOn rfl (fun (h2 : ¬ ((c.1 0 7) = (22 : Int32))) => ?_) (fun (h2 : (c.1 0 7) = (22 : Int32)) => ?_)
    · refine ab_go 6 [] (pc' := 58) (lo' := [some (.ref 14)]) (st' := [.int (c.1 0 6), .ref 15]) (h' := cs_H c rest) ckT_goOn rfl ?_
      by_cases h3 : (c.1 0 6) = (0 : Int32)
      · refine ab_aald (q := 16) ckT_goOn rfl rfl (by rw [h3]; exact ab_inb_ok (by decide)) (by rw [h3]; rfl) ?_
        refine ab_go 6 [] (pc' := 67) (lo' := [some (.ref 14)]) (st' := [.int (c.1 0 7), .int (c.1 0 7), .ref 16]) (h' := cs_H c rest) ckT_goOn rfl ?_
        refine ab_if_ne ckT_goOn rfl (fun (h5 : ¬ ((c.1 0 7) = 0)) => ?_) (fun (h5 : (c.1 0 7) = 0) => ?_)
        · refine ab_go 6 [] (pc' := 82) (lo' := [some (.ref 14)]) (st' := [.int (c.1 0 7), .ref 18, .int (c.1 0 7), .ref 16]) (h' := cs_H c rest) ckT_goOn rfl ?_
          by_cases h6 : ab_inb (c.1 0 7) 22 = true
          case neg => exact ab_no hv (by simp only [fT_goOn, if_neg h1, if_neg h2, if_pos h3, if_neg h5, if_neg h6])
          refine ab_iald ckT_goOn rfl rfl (ab_inb_ok h6) ?_
          refine ab_iast ckT_goOn rfl rfl (ab_inb_ok h6) ?_
          refine ab_go 8 [] (pc' := 94) (lo' := [some (.ref 14)]) (st' := []) (h' := cs_H (cs_u (cs_u c 4 ((c.1 0 7)).toNatClampNeg (c.1 6 ((c.1 0 7)).toNatClampNeg)) 0 7 ((c.1 0 7) + (1 : Int32))) rest) ckT_goOn rfl ?_
          have e : fT_goOn c = some (cs_u (cs_u c 4 ((c.1 0 7)).toNatClampNeg (c.1 6 ((c.1 0 7)).toNatClampNeg)) 0 7 ((c.1 0 7) + (1 : Int32))) := by simp only [fT_goOn, if_neg h1, if_neg h2, if_pos h3, if_neg h5, if_pos h6]
          obtain rfl := Option.some.inj (e.symm.trans hv)
          exact ab_vret ckT_goOn rfl rfl ⟨rfl, rfl⟩
        · refine ab_go 4 [] (pc' := 83) (lo' := [some (.ref 14)]) (st' := [.int (0 : Int32), .int (c.1 0 7), .ref 16]) (h' := cs_H c rest) ckT_goOn rfl ?_
          by_cases h7 : ab_inb (c.1 0 7) 22 = true
          case neg => exact ab_no hv (by simp only [fT_goOn, if_neg h1, if_neg h2, if_pos h3, if_pos h5, if_neg h7])
          refine ab_iast ckT_goOn rfl rfl (ab_inb_ok h7) ?_
          refine ab_go 8 [] (pc' := 94) (lo' := [some (.ref 14)]) (st' := []) (h' := cs_H (cs_u (cs_u c 4 ((c.1 0 7)).toNatClampNeg (0 : Int32)) 0 7 ((c.1 0 7) + (1 : Int32))) rest) ckT_goOn rfl ?_
          have e : fT_goOn c = some (cs_u (cs_u c 4 ((c.1 0 7)).toNatClampNeg (0 : Int32)) 0 7 ((c.1 0 7) + (1 : Int32))) := by simp only [fT_goOn, if_neg h1, if_neg h2, if_pos h3, if_pos h5, if_pos h7]
          obtain rfl := Option.some.inj (e.symm.trans hv)
          exact ab_vret ckT_goOn rfl rfl ⟨rfl, rfl⟩
      by_cases h4 : (c.1 0 6) = (1 : Int32)
      case neg => exact ab_no hv (by simp only [fT_goOn, if_neg h1, if_neg h2, if_neg h3, if_neg h4])
      refine ab_aald (q := 17) ckT_goOn rfl rfl (by rw [h4]; exact ab_inb_ok (by decide)) (by rw [h4]; rfl) ?_
      refine ab_go 6 [] (pc' := 67) (lo' := [some (.ref 14)]) (st' := [.int (c.1 0 7), .int (c.1 0 7), .ref 17]) (h' := cs_H c rest) ckT_goOn rfl ?_
      refine ab_if_ne ckT_goOn rfl (fun (h8 : ¬ ((c.1 0 7) = 0)) => ?_) (fun (h8 : (c.1 0 7) = 0) => ?_)
      · refine ab_go 6 [] (pc' := 82) (lo' := [some (.ref 14)]) (st' := [.int (c.1 0 7), .ref 18, .int (c.1 0 7), .ref 17]) (h' := cs_H c rest) ckT_goOn rfl ?_
        by_cases h9 : ab_inb (c.1 0 7) 22 = true
        case neg => exact ab_no hv (by simp only [fT_goOn, if_neg h1, if_neg h2, if_neg h3, if_pos h4, if_neg h8, if_neg h9])
        refine ab_iald ckT_goOn rfl rfl (ab_inb_ok h9) ?_
        refine ab_iast ckT_goOn rfl rfl (ab_inb_ok h9) ?_
        refine ab_go 8 [] (pc' := 94) (lo' := [some (.ref 14)]) (st' := []) (h' := cs_H (cs_u (cs_u c 5 ((c.1 0 7)).toNatClampNeg (c.1 6 ((c.1 0 7)).toNatClampNeg)) 0 7 ((c.1 0 7) + (1 : Int32))) rest) ckT_goOn rfl ?_
        have e : fT_goOn c = some (cs_u (cs_u c 5 ((c.1 0 7)).toNatClampNeg (c.1 6 ((c.1 0 7)).toNatClampNeg)) 0 7 ((c.1 0 7) + (1 : Int32))) := by simp only [fT_goOn, if_neg h1, if_neg h2, if_neg h3, if_pos h4, if_neg h8, if_pos h9]
        obtain rfl := Option.some.inj (e.symm.trans hv)
        exact ab_vret ckT_goOn rfl rfl ⟨rfl, rfl⟩
      · refine ab_go 4 [] (pc' := 83) (lo' := [some (.ref 14)]) (st' := [.int (0 : Int32), .int (c.1 0 7), .ref 17]) (h' := cs_H c rest) ckT_goOn rfl ?_
        by_cases h10 : ab_inb (c.1 0 7) 22 = true
        case neg => exact ab_no hv (by simp only [fT_goOn, if_neg h1, if_neg h2, if_neg h3, if_pos h4, if_pos h8, if_neg h10])
        refine ab_iast ckT_goOn rfl rfl (ab_inb_ok h10) ?_
        refine ab_go 8 [] (pc' := 94) (lo' := [some (.ref 14)]) (st' := []) (h' := cs_H (cs_u (cs_u c 5 ((c.1 0 7)).toNatClampNeg (0 : Int32)) 0 7 ((c.1 0 7) + (1 : Int32))) rest) ckT_goOn rfl ?_
        have e : fT_goOn c = some (cs_u (cs_u c 5 ((c.1 0 7)).toNatClampNeg (0 : Int32)) 0 7 ((c.1 0 7) + (1 : Int32))) := by simp only [fT_goOn, if_neg h1, if_neg h2, if_neg h3, if_pos h4, if_pos h8, if_pos h10]
        obtain rfl := Option.some.inj (e.symm.trans hv)
        exact ab_vret ckT_goOn rfl rfl ⟨rfl, rfl⟩
    · refine ab_go 6 [] (pc' := 26) (lo' := [some (.ref 14)]) (st' := [.int (c.1 0 6), .ref 15]) (h' := cs_H c rest) ckT_goOn rfl ?_
      by_cases h11 : (c.1 0 6) = (0 : Int32)
      · refine ab_aald (q := 16) ckT_goOn rfl rfl (by rw [h11]; exact ab_inb_ok (by decide)) (by rw [h11]; rfl) ?_
        refine ab_go 9 [] (pc' := 38) (lo' := [some (.ref 14)]) (st' := [.int ((1 : Int32) - (c.1 0 6)), .ref 15, .int (0 : Int32), .ref 16]) (h' := cs_H c rest) ckT_goOn rfl ?_
        by_cases h13 : ((1 : Int32) - (c.1 0 6)) = (0 : Int32)
        · refine ab_aald (q := 16) ckT_goOn rfl rfl (by rw [h13]; exact ab_inb_ok (by decide)) (by rw [h13]; rfl) ?_
          refine ab_go 10 [] (pc' := 49) (lo' := [some (.ref 14)]) (st' := []) (h' := cs_H (cs_u (cs_u c 4 0 ((c.1 4 0) + (1 : Int32))) 0 7 (-1 : Int32)) rest) ckT_goOn rfl ?_
          have e : fT_goOn c = some (cs_u (cs_u c 4 0 ((c.1 4 0) + (1 : Int32))) 0 7 (-1 : Int32)) := by simp only [fT_goOn, if_neg h1, if_pos h2, if_pos h11, if_pos h13]
          obtain rfl := Option.some.inj (e.symm.trans hv)
          exact ab_vret ckT_goOn rfl rfl ⟨rfl, rfl⟩
        by_cases h14 : ((1 : Int32) - (c.1 0 6)) = (1 : Int32)
        case neg => exact ab_no hv (by simp only [fT_goOn, if_neg h1, if_pos h2, if_pos h11, if_neg h13, if_neg h14])
        refine ab_aald (q := 17) ckT_goOn rfl rfl (by rw [h14]; exact ab_inb_ok (by decide)) (by rw [h14]; rfl) ?_
        refine ab_go 10 [] (pc' := 49) (lo' := [some (.ref 14)]) (st' := []) (h' := cs_H (cs_u (cs_u c 4 0 ((c.1 5 0) + (1 : Int32))) 0 7 (-1 : Int32)) rest) ckT_goOn rfl ?_
        have e : fT_goOn c = some (cs_u (cs_u c 4 0 ((c.1 5 0) + (1 : Int32))) 0 7 (-1 : Int32)) := by simp only [fT_goOn, if_neg h1, if_pos h2, if_pos h11, if_neg h13, if_pos h14]
        obtain rfl := Option.some.inj (e.symm.trans hv)
        exact ab_vret ckT_goOn rfl rfl ⟨rfl, rfl⟩
      by_cases h12 : (c.1 0 6) = (1 : Int32)
      case neg => exact ab_no hv (by simp only [fT_goOn, if_neg h1, if_pos h2, if_neg h11, if_neg h12])
      refine ab_aald (q := 17) ckT_goOn rfl rfl (by rw [h12]; exact ab_inb_ok (by decide)) (by rw [h12]; rfl) ?_
      refine ab_go 9 [] (pc' := 38) (lo' := [some (.ref 14)]) (st' := [.int ((1 : Int32) - (c.1 0 6)), .ref 15, .int (0 : Int32), .ref 17]) (h' := cs_H c rest) ckT_goOn rfl ?_
      by_cases h15 : ((1 : Int32) - (c.1 0 6)) = (0 : Int32)
      · refine ab_aald (q := 16) ckT_goOn rfl rfl (by rw [h15]; exact ab_inb_ok (by decide)) (by rw [h15]; rfl) ?_
        refine ab_go 10 [] (pc' := 49) (lo' := [some (.ref 14)]) (st' := []) (h' := cs_H (cs_u (cs_u c 5 0 ((c.1 4 0) + (1 : Int32))) 0 7 (-1 : Int32)) rest) ckT_goOn rfl ?_
        have e : fT_goOn c = some (cs_u (cs_u c 5 0 ((c.1 4 0) + (1 : Int32))) 0 7 (-1 : Int32)) := by simp only [fT_goOn, if_neg h1, if_pos h2, if_neg h11, if_pos h12, if_pos h15]
        obtain rfl := Option.some.inj (e.symm.trans hv)
        exact ab_vret ckT_goOn rfl rfl ⟨rfl, rfl⟩
      by_cases h16 : ((1 : Int32) - (c.1 0 6)) = (1 : Int32)
      case neg => exact ab_no hv (by simp only [fT_goOn, if_neg h1, if_pos h2, if_neg h11, if_pos h12, if_neg h15, if_neg h16])
      refine ab_aald (q := 17) ckT_goOn rfl rfl (by rw [h16]; exact ab_inb_ok (by decide)) (by rw [h16]; rfl) ?_
      refine ab_go 10 [] (pc' := 49) (lo' := [some (.ref 14)]) (st' := []) (h' := cs_H (cs_u (cs_u c 5 0 ((c.1 5 0) + (1 : Int32))) 0 7 (-1 : Int32)) rest) ckT_goOn rfl ?_
      have e : fT_goOn c = some (cs_u (cs_u c 5 0 ((c.1 5 0) + (1 : Int32))) 0 7 (-1 : Int32)) := by simp only [fT_goOn, if_neg h1, if_pos h2, if_neg h11, if_pos h12, if_neg h15, if_pos h16]
      obtain rfl := Option.some.inj (e.symm.trans hv)
      exact ab_vret ckT_goOn rfl rfl ⟨rfl, rfl⟩
  · have e : fT_goOn c = some c := by simp only [fT_goOn, if_pos h1]
    obtain rfl := Option.some.inj (e.symm.trans hv)
    exact ab_vret ckT_goOn rfl rfl ⟨rfl, rfl⟩
def fT_load_60 : Nat → cs_S → Int32 → Int32 → Option (cs_S)
  | 0, _, _, _ => none
  | n + 1, c, y2, y3 => (if (22 : Int32) ≤ y3 then (some c) else (ab_bd (fC_kept (y3 - (1 : Int32))) (fun p1 => (if y2 = (0 : Int32) then (if ab_inb y3 22 = true then (if ab_inb p1 30 = true then fT_load_60 n (cs_u c 1 (p1).toNatClampNeg (c.1 4 (y3).toNatClampNeg)) y2 (y3 + (1 : Int32)) else none) else none) else (if y2 = (1 : Int32) then (if ab_inb y3 22 = true then (if ab_inb p1 30 = true then fT_load_60 n (cs_u c 1 (p1).toNatClampNeg (c.1 5 (y3).toNatClampNeg)) y2 (y3 + (1 : Int32)) else none) else none) else none)))))
def fT_load_2 : Nat → cs_S → Int32 → Option (cs_S)
  | 0, _, _ => none
  | n + 1, c, y2 => (if (30 : Int32) ≤ y2 then (if (c.1 5 0) ≤ (c.1 4 0) then (if (c.1 4 0) = 0 then (some c) else fT_load_60 40 c (0 : Int32) (1 : Int32)) else (if (c.1 5 0) = 0 then (some c) else fT_load_60 40 c (1 : Int32) (1 : Int32))) else (ab_bd (fC_start y2) (fun p1 => (if ab_inb y2 30 = true then fT_load_2 n (cs_u c 1 (y2).toNatClampNeg p1) (y2 + (1 : Int32)) else none))))
def fT_load (c : cs_S)  : Option (cs_S) := fT_load_2 40 c (0 : Int32)
theorem tT_load_60 (hX : cs_X X) (n : Nat)   : ∀ (c : cs_S) (y2 : Int32) (y3 : Int32)  (v : cs_S) (hv : fT_load_60 n c y2 y3 = some v), ab_W X mT_load (d + 1) 0 0 60 [some (.ref 14), some (.ref 9), some (.int y2), some (.int y3)] [] (cs_H c rest) (fun r9 h9 => r9 = none ∧ h9 = cs_H v rest) := by
  induction n with
  | zero =>
    intro c y2 y3 v hv
    cases hv
  | succ n ih =>
    intro c y2 y3 v hv
    refine ab_go 4 [2, 60] (pc' := 63) (lo' := [some (.ref 14), some (.ref 9), some (.int y2), some (.int y3)]) (st' := [.int (22 : Int32), .int y3]) (h' := cs_H c rest) ckT_load rfl ?_
    refine ab_icmp_ge ckT_load rfl (fun (h1 : (22 : Int32) ≤ y3) => ?_) (fun (h1 : ¬ ((22 : Int32) ≤ y3)) => ?_)
    · have e : fT_load_60 (n + 1) c y2 y3 = some c := by simp only [fT_load_60, if_pos h1]
      obtain rfl := Option.some.inj (e.symm.trans hv)
      exact ab_vret ckT_load rfl rfl ⟨rfl, rfl⟩
    · refine ab_go 6 [2, 60] (pc' := 70) (lo' := [some (.ref 14), some (.ref 9), some (.int y2), some (.int y3)]) (st' := [.int (y3 - (1 : Int32)), .ref 9]) (h' := cs_H c rest) ckT_load rfl ?_
      rcases e1 : fC_kept (y3 - (1 : Int32)) with _ | p1
      · exact ab_no hv (by simp only [fT_load_60, if_neg h1, e1, ab_bd_n])
      refine ab_callS (bc2 := 0) (bs2 := 0) (as := [_]) (rest := [_]) ckT_load rfl (by decide +kernel) wC_kept (tC_kept (d := d) (x1 := (y3 - (1 : Int32))) hX (v := p1) e1) (by omega) ⟨Nat.le_refl _, Nat.le_refl _⟩ (Nat.le_of_ble_eq_true rfl) ?_
      rintro _ _ ⟨rfl, rfl⟩
      refine ab_go 5 [2, 60] (pc' := 78) (lo' := [some (.ref 14), some (.ref 9), some (.int y2), some (.int y3)]) (st' := [.int y2, .ref 15, .int p1, .ref 9]) (h' := cs_H c rest) ckT_load rfl ?_
      by_cases h2 : y2 = (0 : Int32)
      · refine ab_aald (q := 16) ckT_load rfl rfl (by rw [h2]; exact ab_inb_ok (by decide)) (by rw [h2]; rfl) ?_
        refine ab_go 3 [2, 60] (pc' := 80) (lo' := [some (.ref 14), some (.ref 9), some (.int y2), some (.int y3)]) (st' := [.int y3, .ref 16, .int p1, .ref 9]) (h' := cs_H c rest) ckT_load rfl ?_
        by_cases h4 : ab_inb y3 22 = true
        case neg => exact ab_no hv (by simp only [fT_load_60, if_neg h1, e1, ab_bd_s, if_pos h2, if_neg h4])
        refine ab_iald ckT_load rfl rfl (ab_inb_ok h4) ?_
        by_cases h5 : ab_inb p1 30 = true
        case neg => exact ab_no hv (by simp only [fT_load_60, if_neg h1, e1, ab_bd_s, if_pos h2, if_pos h4, if_neg h5])
        refine ab_iast ckT_load rfl rfl (ab_inb_ok h5) ?_
        refine ab_go 4 [2, 60] (pc' := 60) (lo' := [some (.ref 14), some (.ref 9), some (.int y2), some (.int (y3 + (1 : Int32)))]) (st' := []) (h' := cs_H (cs_u c 1 (p1).toNatClampNeg (c.1 4 (y3).toNatClampNeg)) rest) ckT_load rfl ?_
        have e : fT_load_60 (n + 1) c y2 y3 = fT_load_60 n (cs_u c 1 (p1).toNatClampNeg (c.1 4 (y3).toNatClampNeg)) y2 (y3 + (1 : Int32)) := by simp only [fT_load_60, if_neg h1, e1, ab_bd_s, if_pos h2, if_pos h4, if_pos h5]
        exact ab_W.weak (ih (cs_u c 1 (p1).toNatClampNeg (c.1 4 (y3).toNatClampNeg)) y2 (y3 + (1 : Int32)) v (e.symm.trans hv)) ⟨rfl, rfl, rfl, rfl, trivial⟩
      by_cases h3 : y2 = (1 : Int32)
      case neg => exact ab_no hv (by simp only [fT_load_60, if_neg h1, e1, ab_bd_s, if_neg h2, if_neg h3])
      refine ab_aald (q := 17) ckT_load rfl rfl (by rw [h3]; exact ab_inb_ok (by decide)) (by rw [h3]; rfl) ?_
      refine ab_go 3 [2, 60] (pc' := 80) (lo' := [some (.ref 14), some (.ref 9), some (.int y2), some (.int y3)]) (st' := [.int y3, .ref 17, .int p1, .ref 9]) (h' := cs_H c rest) ckT_load rfl ?_
      by_cases h6 : ab_inb y3 22 = true
      case neg => exact ab_no hv (by simp only [fT_load_60, if_neg h1, e1, ab_bd_s, if_neg h2, if_pos h3, if_neg h6])
      refine ab_iald ckT_load rfl rfl (ab_inb_ok h6) ?_
      by_cases h7 : ab_inb p1 30 = true
      case neg => exact ab_no hv (by simp only [fT_load_60, if_neg h1, e1, ab_bd_s, if_neg h2, if_pos h3, if_pos h6, if_neg h7])
      refine ab_iast ckT_load rfl rfl (ab_inb_ok h7) ?_
      refine ab_go 4 [2, 60] (pc' := 60) (lo' := [some (.ref 14), some (.ref 9), some (.int y2), some (.int (y3 + (1 : Int32)))]) (st' := []) (h' := cs_H (cs_u c 1 (p1).toNatClampNeg (c.1 5 (y3).toNatClampNeg)) rest) ckT_load rfl ?_
      have e : fT_load_60 (n + 1) c y2 y3 = fT_load_60 n (cs_u c 1 (p1).toNatClampNeg (c.1 5 (y3).toNatClampNeg)) y2 (y3 + (1 : Int32)) := by simp only [fT_load_60, if_neg h1, e1, ab_bd_s, if_neg h2, if_pos h3, if_pos h6, if_pos h7]
      exact ab_W.weak (ih (cs_u c 1 (p1).toNatClampNeg (c.1 5 (y3).toNatClampNeg)) y2 (y3 + (1 : Int32)) v (e.symm.trans hv)) ⟨rfl, rfl, rfl, rfl, trivial⟩
theorem tT_load_2 (hX : cs_X X) (n : Nat)   : ∀ (c : cs_S) (y2 : Int32)  (v : cs_S) (hv : fT_load_2 n c y2 = some v), ab_W X mT_load (d + 1) 0 0 2 [some (.ref 14), some (.ref 9), some (.int y2), none] [] (cs_H c rest) (fun r9 h9 => r9 = none ∧ h9 = cs_H v rest) := by
  induction n with
  | zero =>
    intro c y2 v hv
    cases hv
  | succ n ih =>
    intro c y2 v hv
    refine ab_go 4 [2, 60] (pc' := 5) (lo' := [some (.ref 14), some (.ref 9), some (.int y2), none]) (st' := [.int (30 : Int32), .int y2]) (h' := cs_H c rest) ckT_load rfl ?_
    refine ab_icmp_ge ckT_load rfl (fun (h1 : (30 : Int32) ≤ y2) => ?_) (fun (h1 : ¬ ((30 : Int32) ≤ y2)) => ?_)
    · refine ab_go 14 [2, 60] (pc' := 37) (lo' := [some (.ref 14), some (.ref 9), some (.int y2), none]) (st' := [.int (c.1 4 0), .int (c.1 5 0)]) (h' := cs_H c rest) ckT_load rfl ?_
      refine ab_icmp_le ckT_load rfl (fun (h2 : (c.1 5 0) ≤ (c.1 4 0)) => ?_) (fun (h2 : ¬ ((c.1 5 0) ≤ (c.1 4 0))) => ?_)
      · refine ab_go 7 [2, 60] (pc' := 51) (lo' := [some (.ref 14), some (.ref 9), some (.int (0 : Int32)), none]) (st' := [.int (0 : Int32), .ref 15]) (h' := cs_H c rest) ckT_load rfl ?_
        refine ab_aald (q := 16) ckT_load rfl rfl (ab_inb_ok (by decide)) rfl ?_
        refine ab_go 4 [2, 60] (pc' := 54) (lo' := [some (.ref 14), some (.ref 9), some (.int (0 : Int32)), none]) (st' := [.int (c.1 4 0)]) (h' := cs_H c rest) ckT_load rfl ?_
        refine ab_if_ne ckT_load rfl (fun (h3 : ¬ ((c.1 4 0) = 0)) => ?_) (fun (h3 : (c.1 4 0) = 0) => ?_)
        · refine ab_go 4 [2, 60] (pc' := 60) (lo' := [some (.ref 14), some (.ref 9), some (.int (0 : Int32)), some (.int (1 : Int32))]) (st' := []) (h' := cs_H c rest) ckT_load rfl ?_
          have e : fT_load_2 (n + 1) c y2 = fT_load_60 40 c (0 : Int32) (1 : Int32) := by simp only [fT_load_2, if_pos h1, if_pos h2, if_neg h3]
          exact ab_W.weak (tT_load_60 hX 40 c (0 : Int32) (1 : Int32) v (e.symm.trans hv)) ⟨rfl, rfl, rfl, rfl, trivial⟩
        · have e : fT_load_2 (n + 1) c y2 = some c := by simp only [fT_load_2, if_pos h1, if_pos h2, if_pos h3]
          obtain rfl := Option.some.inj (e.symm.trans hv)
          exact ab_vret ckT_load rfl rfl ⟨rfl, rfl⟩
      · refine ab_go 8 [2, 60] (pc' := 51) (lo' := [some (.ref 14), some (.ref 9), some (.int (1 : Int32)), none]) (st' := [.int (1 : Int32), .ref 15]) (h' := cs_H c rest) ckT_load rfl ?_
        refine ab_aald (q := 17) ckT_load rfl rfl (ab_inb_ok (by decide)) rfl ?_
        refine ab_go 4 [2, 60] (pc' := 54) (lo' := [some (.ref 14), some (.ref 9), some (.int (1 : Int32)), none]) (st' := [.int (c.1 5 0)]) (h' := cs_H c rest) ckT_load rfl ?_
        refine ab_if_ne ckT_load rfl (fun (h4 : ¬ ((c.1 5 0) = 0)) => ?_) (fun (h4 : (c.1 5 0) = 0) => ?_)
        · refine ab_go 4 [2, 60] (pc' := 60) (lo' := [some (.ref 14), some (.ref 9), some (.int (1 : Int32)), some (.int (1 : Int32))]) (st' := []) (h' := cs_H c rest) ckT_load rfl ?_
          have e : fT_load_2 (n + 1) c y2 = fT_load_60 40 c (1 : Int32) (1 : Int32) := by simp only [fT_load_2, if_pos h1, if_neg h2, if_neg h4]
          exact ab_W.weak (tT_load_60 hX 40 c (1 : Int32) (1 : Int32) v (e.symm.trans hv)) ⟨rfl, rfl, rfl, rfl, trivial⟩
        · have e : fT_load_2 (n + 1) c y2 = some c := by simp only [fT_load_2, if_pos h1, if_neg h2, if_pos h4]
          obtain rfl := Option.some.inj (e.symm.trans hv)
          exact ab_vret ckT_load rfl rfl ⟨rfl, rfl⟩
    · refine ab_go 5 [2, 60] (pc' := 11) (lo' := [some (.ref 14), some (.ref 9), some (.int y2), none]) (st' := [.int y2, .int y2, .ref 9]) (h' := cs_H c rest) ckT_load rfl ?_
      rcases e1 : fC_start y2 with _ | p1
      · exact ab_no hv (by simp only [fT_load_2, if_neg h1, e1, ab_bd_n])
      refine ab_callS (bc2 := 0) (bs2 := 0) (as := [_]) (rest := [_, _]) ckT_load rfl (by decide +kernel) wC_start (tC_start (d := d) (x1 := y2) hX (v := p1) e1) (by omega) ⟨Nat.le_refl _, Nat.le_refl _⟩ (Nat.le_of_ble_eq_true rfl) ?_
      rintro _ _ ⟨rfl, rfl⟩
      by_cases h5 : ab_inb y2 30 = true
      case neg => exact ab_no hv (by simp only [fT_load_2, if_neg h1, e1, ab_bd_s, if_neg h5])
      refine ab_iast ckT_load rfl rfl (ab_inb_ok h5) ?_
      refine ab_go 4 [2, 60] (pc' := 2) (lo' := [some (.ref 14), some (.ref 9), some (.int (y2 + (1 : Int32))), none]) (st' := []) (h' := cs_H (cs_u c 1 (y2).toNatClampNeg p1) rest) ckT_load rfl ?_
      have e : fT_load_2 (n + 1) c y2 = fT_load_2 n (cs_u c 1 (y2).toNatClampNeg p1) (y2 + (1 : Int32)) := by simp only [fT_load_2, if_neg h1, e1, ab_bd_s, if_pos h5]
      exact ab_W.weak (ih (cs_u c 1 (y2).toNatClampNeg p1) (y2 + (1 : Int32)) v (e.symm.trans hv)) ⟨rfl, rfl, rfl, trivial⟩
theorem tT_load (hX : cs_X X) {v : cs_S} (hv : fT_load c = some v) : ab_M X mT_load (d + 1) 0 0 [.ref 14, .ref 9] (cs_H c rest) (fun r9 h9 => r9 = none ∧ h9 = cs_H v rest) := by
  refine ab_entry (by decide) (Nat.le_of_ble_eq_true rfl) ?_
  refine ab_go 4 [2, 60] (pc' := 2) (lo' := [some (.ref 14), some (.ref 9), some (.int (0 : Int32)), none]) (st' := []) (h' := cs_H c rest) ckT_load rfl ?_
  have e : fT_load c = fT_load_2 40 c (0 : Int32) := by simp only [fT_load]
  exact ab_W.weak (tT_load_2 hX 40 c (0 : Int32) v (e.symm.trans hv)) ⟨rfl, rfl, rfl, trivial⟩
end LEAF
end
section
/-! contracts, by program (wip/gen/walk.py, gen_cls.py) -/
section LEAF
variable {X : ab_C} {d : Nat} {c : cs_S} {rest hp : ab_H}
def fS_refreshStatus (c : cs_S)  : Option (cs_S) := (ab_bd (fP_statusBits c) (fun p1 => (if (c.1 0 1) = (5 : Int32) then (if (fP_isEnabled c) = 0 then (some (cs_u c 1 17 (p1 ||| (512 : Int32)))) else (if (fV_isArrived c) = 0 then (some (cs_u c 1 17 (p1 ||| (512 : Int32)))) else (some (cs_u c 1 17 ((p1 ||| (512 : Int32)) ||| (1024 : Int32)))))) else (if (fP_isEnabled c) = 0 then (some (cs_u c 1 17 p1)) else (if (fV_isArrived c) = 0 then (some (cs_u c 1 17 p1)) else (some (cs_u c 1 17 (p1 ||| (1024 : Int32)))))))))
theorem tS_refreshStatus (hX : cs_X X) {v : cs_S} (hv : fS_refreshStatus c = some v) : ab_M X mS_refreshStatus (d + 3) 0 0 [.ref 8] (cs_H c rest) (fun r9 h9 => r9 = none ∧ h9 = cs_H v rest) := by
  refine ab_entry (by decide) (Nat.le_of_ble_eq_true rfl) ?_
  refine ab_go 4 [] (pc' := 4) (lo' := [some (.ref 8), none]) (st' := [.ref 19]) (h' := cs_H c rest) ckS_refreshStatus rfl ?_
  rcases e1 : fP_statusBits c with _ | p1
  · exact ab_no hv (by simp only [fS_refreshStatus, e1, ab_bd_n])
  refine ab_callV (bc2 := 0) (bs2 := 0) (as := []) (rest := []) ckS_refreshStatus rfl (by decide +kernel) wP_statusBits (tP_statusBits (d := d + 2) (c := c) hX (v := p1) e1) rfl rfl (by omega) ⟨Nat.le_refl _, Nat.le_refl _⟩ (Nat.le_of_ble_eq_true rfl) ?_
  rintro _ _ ⟨rfl, rfl⟩
  refine ab_go 6 [] (pc' := 13) (lo' := [some (.ref 8), some (.int p1)]) (st' := [.int (5 : Int32), .int (c.1 0 1)]) (h' := cs_H c rest) ckS_refreshStatus rfl ?_
  refine ab_icmp_ne ckS_refreshStatus rfl (fun (h1 : ¬ ((c.1 0 1) = (5 : Int32))) => ?_) (fun (h1 : (c.1 0 1) = (5 : Int32)) => ?_)
  · refine ab_go 4 [] (pc' := 26) (lo' := [some (.ref 8), some (.int p1)]) (st' := [.ref 19]) (h' := cs_H c rest) ckS_refreshStatus rfl ?_
    refine ab_callV (bc2 := 0) (bs2 := 0) (as := []) (rest := []) ckS_refreshStatus rfl (by decide +kernel) wP_isEnabled (tP_isEnabled (d := d + 2) (c := c)) rfl rfl (by omega) ⟨Nat.le_refl _, Nat.le_refl _⟩ (Nat.le_of_ble_eq_true rfl) ?_
    rintro _ _ ⟨rfl, rfl⟩
    refine ab_if_eq ckS_refreshStatus rfl (fun (h2 : (fP_isEnabled c) = 0) => ?_) (fun (h2 : ¬ ((fP_isEnabled c) = 0)) => ?_)
    · refine ab_go 7 [] (pc' := 56) (lo' := [some (.ref 8), some (.int p1)]) (st' := []) (h' := cs_H (cs_u c 1 17 p1) rest) ckS_refreshStatus rfl ?_
      have e : fS_refreshStatus c = some (cs_u c 1 17 p1) := by simp only [fS_refreshStatus, e1, ab_bd_s, if_neg h1, if_pos h2]
      obtain rfl := Option.some.inj (e.symm.trans hv)
      exact ab_vret ckS_refreshStatus rfl rfl ⟨rfl, rfl⟩
    · refine ab_go 4 [] (pc' := 36) (lo' := [some (.ref 8), some (.int p1)]) (st' := [.ref 20]) (h' := cs_H c rest) ckS_refreshStatus rfl ?_
      refine ab_callV (bc2 := 0) (bs2 := 0) (as := []) (rest := []) ckS_refreshStatus rfl (by decide +kernel) wV_isArrived (tV_isArrived (d := d) (c := c)) rfl rfl (by omega) ⟨Nat.le_refl _, Nat.le_refl _⟩ (Nat.le_of_ble_eq_true rfl) ?_
      rintro _ _ ⟨rfl, rfl⟩
      refine ab_if_eq ckS_refreshStatus rfl (fun (h3 : (fV_isArrived c) = 0) => ?_) (fun (h3 : ¬ ((fV_isArrived c) = 0)) => ?_)
      · refine ab_go 7 [] (pc' := 56) (lo' := [some (.ref 8), some (.int p1)]) (st' := []) (h' := cs_H (cs_u c 1 17 p1) rest) ckS_refreshStatus rfl ?_
        have e : fS_refreshStatus c = some (cs_u c 1 17 p1) := by simp only [fS_refreshStatus, e1, ab_bd_s, if_neg h1, if_neg h2, if_pos h3]
        obtain rfl := Option.some.inj (e.symm.trans hv)
        exact ab_vret ckS_refreshStatus rfl rfl ⟨rfl, rfl⟩
      · refine ab_go 11 [] (pc' := 56) (lo' := [some (.ref 8), some (.int (p1 ||| (1024 : Int32)))]) (st' := []) (h' := cs_H (cs_u c 1 17 (p1 ||| (1024 : Int32))) rest) ckS_refreshStatus rfl ?_
        have e : fS_refreshStatus c = some (cs_u c 1 17 (p1 ||| (1024 : Int32))) := by simp only [fS_refreshStatus, e1, ab_bd_s, if_neg h1, if_neg h2, if_neg h3]
        obtain rfl := Option.some.inj (e.symm.trans hv)
        exact ab_vret ckS_refreshStatus rfl rfl ⟨rfl, rfl⟩
  · refine ab_go 8 [] (pc' := 26) (lo' := [some (.ref 8), some (.int (p1 ||| (512 : Int32)))]) (st' := [.ref 19]) (h' := cs_H c rest) ckS_refreshStatus rfl ?_
    refine ab_callV (bc2 := 0) (bs2 := 0) (as := []) (rest := []) ckS_refreshStatus rfl (by decide +kernel) wP_isEnabled (tP_isEnabled (d := d + 2) (c := c)) rfl rfl (by omega) ⟨Nat.le_refl _, Nat.le_refl _⟩ (Nat.le_of_ble_eq_true rfl) ?_
    rintro _ _ ⟨rfl, rfl⟩
    refine ab_if_eq ckS_refreshStatus rfl (fun (h4 : (fP_isEnabled c) = 0) => ?_) (fun (h4 : ¬ ((fP_isEnabled c) = 0)) => ?_)
    · refine ab_go 7 [] (pc' := 56) (lo' := [some (.ref 8), some (.int (p1 ||| (512 : Int32)))]) (st' := []) (h' := cs_H (cs_u c 1 17 (p1 ||| (512 : Int32))) rest) ckS_refreshStatus rfl ?_
      have e : fS_refreshStatus c = some (cs_u c 1 17 (p1 ||| (512 : Int32))) := by simp only [fS_refreshStatus, e1, ab_bd_s, if_pos h1, if_pos h4]
      obtain rfl := Option.some.inj (e.symm.trans hv)
      exact ab_vret ckS_refreshStatus rfl rfl ⟨rfl, rfl⟩
    · refine ab_go 4 [] (pc' := 36) (lo' := [some (.ref 8), some (.int (p1 ||| (512 : Int32)))]) (st' := [.ref 20]) (h' := cs_H c rest) ckS_refreshStatus rfl ?_
      refine ab_callV (bc2 := 0) (bs2 := 0) (as := []) (rest := []) ckS_refreshStatus rfl (by decide +kernel) wV_isArrived (tV_isArrived (d := d) (c := c)) rfl rfl (by omega) ⟨Nat.le_refl _, Nat.le_refl _⟩ (Nat.le_of_ble_eq_true rfl) ?_
      rintro _ _ ⟨rfl, rfl⟩
      refine ab_if_eq ckS_refreshStatus rfl (fun (h5 : (fV_isArrived c) = 0) => ?_) (fun (h5 : ¬ ((fV_isArrived c) = 0)) => ?_)
      · refine ab_go 7 [] (pc' := 56) (lo' := [some (.ref 8), some (.int (p1 ||| (512 : Int32)))]) (st' := []) (h' := cs_H (cs_u c 1 17 (p1 ||| (512 : Int32))) rest) ckS_refreshStatus rfl ?_
        have e : fS_refreshStatus c = some (cs_u c 1 17 (p1 ||| (512 : Int32))) := by simp only [fS_refreshStatus, e1, ab_bd_s, if_pos h1, if_neg h4, if_pos h5]
        obtain rfl := Option.some.inj (e.symm.trans hv)
        exact ab_vret ckS_refreshStatus rfl rfl ⟨rfl, rfl⟩
      · refine ab_go 11 [] (pc' := 56) (lo' := [some (.ref 8), some (.int ((p1 ||| (512 : Int32)) ||| (1024 : Int32)))]) (st' := []) (h' := cs_H (cs_u c 1 17 ((p1 ||| (512 : Int32)) ||| (1024 : Int32))) rest) ckS_refreshStatus rfl ?_
        have e : fS_refreshStatus c = some (cs_u c 1 17 ((p1 ||| (512 : Int32)) ||| (1024 : Int32))) := by simp only [fS_refreshStatus, e1, ab_bd_s, if_pos h1, if_neg h4, if_neg h5]
        obtain rfl := Option.some.inj (e.symm.trans hv)
        exact ab_vret ckS_refreshStatus rfl rfl ⟨rfl, rfl⟩
def fS_sendEmergency (c : cs_S) (x1 : Int32) : Option (cs_S) := (if (c.1 0 1) = (4 : Int32) then (some c) else (ab_bd (fB_send c ((128 : Int32) + (c.1 0 0)) (8 : Int32) ((x1).toInt64 ||| (((c.1 1 0)).toInt64 <<< (((16 : Int32)).toInt64 &&& 63)))) (fun p1 => (some p1))))
theorem tS_sendEmergency {x1 : Int32} {v : cs_S} (hv : fS_sendEmergency c x1 = some v) : ab_M X mS_sendEmergency (d + 1) 0 0 [.ref 8, .int x1] (cs_H c rest) (fun r9 h9 => r9 = none ∧ h9 = cs_H v rest) := by
  refine ab_entry (by decide) (Nat.le_of_ble_eq_true rfl) ?_
  refine ab_go 5 [] (pc' := 5) (lo' := [some (.ref 8), some (.int x1)]) (st' := [.int (4 : Int32), .int (c.1 0 1)]) (h' := cs_H c rest) ckS_sendEmergency rfl ?_
  refine ab_icmp_eq ckS_sendEmergency rfl (fun (h1 : (c.1 0 1) = (4 : Int32)) => ?_) (fun (h1 : ¬ ((c.1 0 1) = (4 : Int32))) => ?_)
  · have e : fS_sendEmergency c x1 = some c := by simp only [fS_sendEmergency, if_pos h1]
    obtain rfl := Option.some.inj (e.symm.trans hv)
    exact ab_vret ckS_sendEmergency rfl rfl ⟨rfl, rfl⟩
  · refine ab_go 19 [] (pc' := 35) (lo' := [some (.ref 8), some (.int x1)]) (st' := [.long ((x1).toInt64 ||| (((c.1 1 0)).toInt64 <<< (((16 : Int32)).toInt64 &&& 63))), .int (8 : Int32), .int ((128 : Int32) + (c.1 0 0)), .ref 10]) (h' := cs_H c rest) ckS_sendEmergency rfl ?_
    rcases e1 : fB_send c ((128 : Int32) + (c.1 0 0)) (8 : Int32) ((x1).toInt64 ||| (((c.1 1 0)).toInt64 <<< (((16 : Int32)).toInt64 &&& 63))) with _ | p1
    · exact ab_no hv (by simp only [fS_sendEmergency, if_neg h1, e1, ab_bd_n])
    refine ab_callV (bc2 := 0) (bs2 := 0) (as := [_, _, _]) (rest := []) ckS_sendEmergency rfl (by decide +kernel) wB_send (tB_send (d := d) (x1 := ((128 : Int32) + (c.1 0 0))) (x2 := (8 : Int32)) (x3 := ((x1).toInt64 ||| (((c.1 1 0)).toInt64 <<< (((16 : Int32)).toInt64 &&& 63)))) (c := c) (v := p1) e1) rfl rfl (by omega) ⟨Nat.le_refl _, Nat.le_refl _⟩ (Nat.le_of_ble_eq_true rfl) ?_
    rintro _ _ ⟨rfl, rfl⟩
    have e : fS_sendEmergency c x1 = some p1 := by simp only [fS_sendEmergency, if_neg h1, e1, ab_bd_s]
    obtain rfl := Option.some.inj (e.symm.trans hv)
    exact ab_vret ckS_sendEmergency rfl rfl ⟨rfl, rfl⟩
def fS_fault (c : cs_S) (x1 : Int32) : Option (cs_S) := (let p1 := fP_fail c; (if p1.1 = 0 then (some p1.2) else (if x1 = (34321 : Int32) then (ab_bd (fS_sendEmergency (cs_u p1.2 1 0 (33 : Int32)) x1) (fun p3 => (some p3))) else (ab_bd (fS_sendEmergency (cs_u p1.2 1 0 (17 : Int32)) x1) (fun p2 => (some p2))))))
theorem tS_fault {x1 : Int32} {v : cs_S} (hv : fS_fault c x1 = some v) : ab_M X mS_fault (d + 2) 0 0 [.ref 8, .int x1] (cs_H c rest) (fun r9 h9 => r9 = none ∧ h9 = cs_H v rest) := by
  refine ab_entry (by decide) (Nat.le_of_ble_eq_true rfl) ?_
  refine ab_go 4 [] (pc' := 4) (lo' := [some (.ref 8), some (.int x1)]) (st' := [.ref 19]) (h' := cs_H c rest) ckS_fault rfl ?_
  refine ab_callV (bc2 := 0) (bs2 := 0) (as := []) (rest := []) ckS_fault rfl (by decide +kernel) wP_fail (tP_fail (d := d) (c := c)) rfl rfl (by omega) ⟨Nat.le_refl _, Nat.le_refl _⟩ (Nat.le_of_ble_eq_true rfl) ?_
  rintro _ _ ⟨rfl, rfl⟩
  generalize e1 : fP_fail c = p1
  refine ab_if_ne ckS_fault rfl (fun (h1 : ¬ (p1.1 = 0)) => ?_) (fun (h1 : p1.1 = 0) => ?_)
  · refine ab_go 7 [] (pc' := 20) (lo' := [some (.ref 8), some (.int x1)]) (st' := [.int (34321 : Int32), .int x1, .int (0 : Int32), .ref 9]) (h' := cs_H p1.2 rest) ckS_fault rfl ?_
    refine ab_icmp_ne ckS_fault rfl (fun (h2 : ¬ (x1 = (34321 : Int32))) => ?_) (fun (h2 : x1 = (34321 : Int32)) => ?_)
    · refine ab_go 3 [] (pc' := 30) (lo' := [some (.ref 8), some (.int x1)]) (st' := [.int (17 : Int32), .int (0 : Int32), .ref 9]) (h' := cs_H p1.2 rest) ckS_fault rfl ?_
      refine ab_iast ckS_fault rfl rfl (ab_inb_ok (by decide)) ?_
      refine ab_go 4 [] (pc' := 33) (lo' := [some (.ref 8), some (.int x1)]) (st' := [.int x1, .ref 8]) (h' := cs_H (cs_u p1.2 1 0 (17 : Int32)) rest) ckS_fault rfl ?_
      rcases e2 : fS_sendEmergency (cs_u p1.2 1 0 (17 : Int32)) x1 with _ | p2
      · exact ab_no hv (by simp only [fS_fault, e1, if_neg h1, if_neg h2, e2, ab_bd_n])
      refine ab_callV (bc2 := 0) (bs2 := 0) (as := [_]) (rest := []) ckS_fault rfl (by decide +kernel) wS_sendEmergency (tS_sendEmergency (d := d) (x1 := x1) (c := (cs_u p1.2 1 0 (17 : Int32))) (v := p2) e2) rfl rfl (by omega) ⟨Nat.le_refl _, Nat.le_refl _⟩ (Nat.le_of_ble_eq_true rfl) ?_
      rintro _ _ ⟨rfl, rfl⟩
      have e : fS_fault c x1 = some p2 := by simp only [fS_fault, e1, if_neg h1, if_neg h2, e2, ab_bd_s]
      obtain rfl := Option.some.inj (e.symm.trans hv)
      exact ab_vret ckS_fault rfl rfl ⟨rfl, rfl⟩
    · refine ab_go 4 [] (pc' := 30) (lo' := [some (.ref 8), some (.int x1)]) (st' := [.int (33 : Int32), .int (0 : Int32), .ref 9]) (h' := cs_H p1.2 rest) ckS_fault rfl ?_
      refine ab_iast ckS_fault rfl rfl (ab_inb_ok (by decide)) ?_
      refine ab_go 4 [] (pc' := 33) (lo' := [some (.ref 8), some (.int x1)]) (st' := [.int x1, .ref 8]) (h' := cs_H (cs_u p1.2 1 0 (33 : Int32)) rest) ckS_fault rfl ?_
      rcases e3 : fS_sendEmergency (cs_u p1.2 1 0 (33 : Int32)) x1 with _ | p3
      · exact ab_no hv (by simp only [fS_fault, e1, if_neg h1, if_pos h2, e3, ab_bd_n])
      refine ab_callV (bc2 := 0) (bs2 := 0) (as := [_]) (rest := []) ckS_fault rfl (by decide +kernel) wS_sendEmergency (tS_sendEmergency (d := d) (x1 := x1) (c := (cs_u p1.2 1 0 (33 : Int32))) (v := p3) e3) rfl rfl (by omega) ⟨Nat.le_refl _, Nat.le_refl _⟩ (Nat.le_of_ble_eq_true rfl) ?_
      rintro _ _ ⟨rfl, rfl⟩
      have e : fS_fault c x1 = some p3 := by simp only [fS_fault, e1, if_neg h1, if_pos h2, e3, ab_bd_s]
      obtain rfl := Option.some.inj (e.symm.trans hv)
      exact ab_vret ckS_fault rfl rfl ⟨rfl, rfl⟩
  · have e : fS_fault c x1 = some p1.2 := by simp only [fS_fault, e1, if_pos h1]
    obtain rfl := Option.some.inj (e.symm.trans hv)
    exact ab_vret ckS_fault rfl rfl ⟨rfl, rfl⟩
def fS_sendOut (c : cs_S) (x1 : Int64) (x2 : Int32) : Option (cs_S) := (let p1 := fO_noteSent c x1 x2; (ab_bd (fB_send p1 ((384 : Int32) + (p1.1 0 0)) x2 x1) (fun p2 => (some p2))))
theorem tS_sendOut {x1 : Int64} {x2 : Int32} {v : cs_S} (hv : fS_sendOut c x1 x2 = some v) : ab_M X mS_sendOut (d + 1) 0 0 [.ref 8, .long x1, .int x2] (cs_H c rest) (fun r9 h9 => r9 = none ∧ h9 = cs_H v rest) := by
  refine ab_entry (by decide) (Nat.le_of_ble_eq_true rfl) ?_
  refine ab_go 6 [] (pc' := 6) (lo' := [some (.ref 8), some (.long x1), none, some (.int x2)]) (st' := [.int x2, .long x1, .ref 22]) (h' := cs_H c rest) ckS_sendOut rfl ?_
  refine ab_callV (bc2 := 0) (bs2 := 0) (as := [_, _]) (rest := []) ckS_sendOut rfl (by decide +kernel) wO_noteSent (tO_noteSent (d := d) (x1 := x1) (x2 := x2) (c := c)) rfl rfl (by omega) ⟨Nat.le_refl _, Nat.le_refl _⟩ (Nat.le_of_ble_eq_true rfl) ?_
  rintro _ _ ⟨rfl, rfl⟩
  generalize e1 : fO_noteSent c x1 x2 = p1
  refine ab_go 10 [] (pc' := 23) (lo' := [some (.ref 8), some (.long x1), none, some (.int x2)]) (st' := [.long x1, .int x2, .int ((384 : Int32) + (p1.1 0 0)), .ref 10]) (h' := cs_H p1 rest) ckS_sendOut rfl ?_
  rcases e2 : fB_send p1 ((384 : Int32) + (p1.1 0 0)) x2 x1 with _ | p2
  · exact ab_no hv (by simp only [fS_sendOut, e1, e2, ab_bd_n])
  refine ab_callV (bc2 := 0) (bs2 := 0) (as := [_, _, _]) (rest := []) ckS_sendOut rfl (by decide +kernel) wB_send (tB_send (d := d) (x1 := ((384 : Int32) + (p1.1 0 0))) (x2 := x2) (x3 := x1) (c := p1) (v := p2) e2) rfl rfl (by omega) ⟨Nat.le_refl _, Nat.le_refl _⟩ (Nat.le_of_ble_eq_true rfl) ?_
  rintro _ _ ⟨rfl, rfl⟩
  have e : fS_sendOut c x1 x2 = some p2 := by simp only [fS_sendOut, e1, e2, ab_bd_s]
  obtain rfl := Option.some.inj (e.symm.trans hv)
  exact ab_vret ckS_sendOut rfl rfl ⟨rfl, rfl⟩
def fS_sendOutWhenDue (c : cs_S)  : Option (cs_S) := (if (c.1 0 1) = (5 : Int32) then (if (c.1 1 9) ≤ (240 : Int32) then (some c) else (if (c.1 1 12) = 0 then (some c) else (if (fO_isHeld c (c.1 1 10)) = 0 then (ab_bd (fS_refreshStatus c) (fun p1 => (ab_bd (fG_pack p1) (fun p2 => (ab_bd (fG_totalBytes p1 (12 : Int32)) (fun p3 => (if (fO_isDue p1 p2 p3 (p1.1 1 11)) = 0 then (some p1) else (ab_bd (fS_sendOut p1 p2 p3) (fun p4 => (some p4)))))))))) else (some c)))) else (some c))
theorem tS_sendOutWhenDue (hX : cs_X X) {v : cs_S} (hv : fS_sendOutWhenDue c = some v) : ab_M X mS_sendOutWhenDue (d + 4) 0 0 [.ref 8] (cs_H c rest) (fun r9 h9 => r9 = none ∧ h9 = cs_H v rest) := by
  refine ab_entry (by decide) (Nat.le_of_ble_eq_true rfl) ?_
  refine ab_go 5 [] (pc' := 5) (lo' := [some (.ref 8), none, none, none]) (st' := [.int (5 : Int32), .int (c.1 0 1)]) (h' := cs_H c rest) ckS_sendOutWhenDue rfl ?_
  refine ab_icmp_ne ckS_sendOutWhenDue rfl (fun (h1 : ¬ ((c.1 0 1) = (5 : Int32))) => ?_) (fun (h1 : (c.1 0 1) = (5 : Int32)) => ?_)
  · have e : fS_sendOutWhenDue c = some c := by simp only [fS_sendOutWhenDue, if_neg h1]
    obtain rfl := Option.some.inj (e.symm.trans hv)
    exact ab_vret ckS_sendOutWhenDue rfl rfl ⟨rfl, rfl⟩
  · refine ab_go 7 [] (pc' := 18) (lo' := [some (.ref 8), none, none, none]) (st' := [.int (240 : Int32), .int (c.1 1 9)]) (h' := cs_H c rest) ckS_sendOutWhenDue rfl ?_
    refine ab_icmp_le ckS_sendOutWhenDue rfl (fun (h2 : (c.1 1 9) ≤ (240 : Int32)) => ?_) (fun (h2 : ¬ ((c.1 1 9) ≤ (240 : Int32))) => ?_)
    · have e : fS_sendOutWhenDue c = some c := by simp only [fS_sendOutWhenDue, if_pos h1, if_pos h2]
      obtain rfl := Option.some.inj (e.symm.trans hv)
      exact ab_vret ckS_sendOutWhenDue rfl rfl ⟨rfl, rfl⟩
    · refine ab_go 6 [] (pc' := 28) (lo' := [some (.ref 8), none, none, none]) (st' := [.int (c.1 1 12)]) (h' := cs_H c rest) ckS_sendOutWhenDue rfl ?_
      refine ab_if_eq ckS_sendOutWhenDue rfl (fun (h3 : (c.1 1 12) = 0) => ?_) (fun (h3 : ¬ ((c.1 1 12) = 0)) => ?_)
      · have e : fS_sendOutWhenDue c = some c := by simp only [fS_sendOutWhenDue, if_pos h1, if_neg h2, if_pos h3]
        obtain rfl := Option.some.inj (e.symm.trans hv)
        exact ab_vret ckS_sendOutWhenDue rfl rfl ⟨rfl, rfl⟩
      · refine ab_go 8 [] (pc' := 42) (lo' := [some (.ref 8), none, none, none]) (st' := [.int (c.1 1 10), .ref 22]) (h' := cs_H c rest) ckS_sendOutWhenDue rfl ?_
        refine ab_callV (bc2 := 0) (bs2 := 0) (as := [_]) (rest := []) ckS_sendOutWhenDue rfl (by decide +kernel) wO_isHeld (tO_isHeld (d := d + 3) (x1 := (c.1 1 10)) (c := c)) rfl rfl (by omega) ⟨Nat.le_refl _, Nat.le_refl _⟩ (Nat.le_of_ble_eq_true rfl) ?_
        rintro _ _ ⟨rfl, rfl⟩
        refine ab_if_eq ckS_sendOutWhenDue rfl (fun (h4 : (fO_isHeld c (c.1 1 10)) = 0) => ?_) (fun (h4 : ¬ ((fO_isHeld c (c.1 1 10)) = 0)) => ?_)
        · refine ab_go 3 [] (pc' := 50) (lo' := [some (.ref 8), none, none, none]) (st' := [.ref 8]) (h' := cs_H c rest) ckS_sendOutWhenDue rfl ?_
          rcases e1 : fS_refreshStatus c with _ | p1
          · exact ab_no hv (by simp only [fS_sendOutWhenDue, if_pos h1, if_neg h2, if_neg h3, if_pos h4, e1, ab_bd_n])
          refine ab_callV (bc2 := 0) (bs2 := 0) (as := []) (rest := []) ckS_sendOutWhenDue rfl (by decide +kernel) wS_refreshStatus (tS_refreshStatus (d := d) (c := c) hX (v := p1) e1) rfl rfl (by omega) ⟨Nat.le_refl _, Nat.le_refl _⟩ (Nat.le_of_ble_eq_true rfl) ?_
          rintro _ _ ⟨rfl, rfl⟩
          refine ab_go 4 [] (pc' := 57) (lo' := [some (.ref 8), none, none, none]) (st' := [.ref 9]) (h' := cs_H p1 rest) ckS_sendOutWhenDue rfl ?_
          rcases e2 : fG_pack p1 with _ | p2
          · exact ab_no hv (by simp only [fS_sendOutWhenDue, if_pos h1, if_neg h2, if_neg h3, if_pos h4, e1, ab_bd_s, e2, ab_bd_n])
          refine ab_callS (bc2 := 0) (bs2 := 0) (as := [_]) (rest := []) ckS_sendOutWhenDue rfl (by decide +kernel) wG_pack (tG_pack (d := d + 1) (c := p1) hX (v := p2) e2) (by omega) ⟨Nat.le_refl _, Nat.le_refl _⟩ (Nat.le_of_ble_eq_true rfl) ?_
          rintro _ _ ⟨rfl, rfl⟩
          refine ab_go 6 [] (pc' := 67) (lo' := [some (.ref 8), some (.long p2), none, none]) (st' := [.int (12 : Int32), .ref 9]) (h' := cs_H p1 rest) ckS_sendOutWhenDue rfl ?_
          rcases e3 : fG_totalBytes p1 (12 : Int32) with _ | p3
          · exact ab_no hv (by simp only [fS_sendOutWhenDue, if_pos h1, if_neg h2, if_neg h3, if_pos h4, e1, ab_bd_s, e2, ab_bd_s, e3, ab_bd_n])
          refine ab_callS (bc2 := 0) (bs2 := 0) (as := [_, _]) (rest := []) ckS_sendOutWhenDue rfl (by decide +kernel) wG_totalBytes (tG_totalBytes (d := d + 3) (x2 := (12 : Int32)) (c := p1) (v := p3) e3) (by omega) ⟨Nat.le_refl _, Nat.le_refl _⟩ (Nat.le_of_ble_eq_true rfl) ?_
          rintro _ _ ⟨rfl, rfl⟩
          refine ab_go 11 [] (pc' := 84) (lo' := [some (.ref 8), some (.long p2), none, some (.int p3)]) (st' := [.int (p1.1 1 11), .int p3, .long p2, .ref 22]) (h' := cs_H p1 rest) ckS_sendOutWhenDue rfl ?_
          refine ab_callV (bc2 := 0) (bs2 := 0) (as := [_, _, _]) (rest := []) ckS_sendOutWhenDue rfl (by decide +kernel) wO_isDue (tO_isDue (d := d + 3) (x1 := p2) (x2 := p3) (x3 := (p1.1 1 11)) (c := p1)) rfl rfl (by omega) ⟨Nat.le_refl _, Nat.le_refl _⟩ (Nat.le_of_ble_eq_true rfl) ?_
          rintro _ _ ⟨rfl, rfl⟩
          refine ab_if_eq ckS_sendOutWhenDue rfl (fun (h5 : (fO_isDue p1 p2 p3 (p1.1 1 11)) = 0) => ?_) (fun (h5 : ¬ ((fO_isDue p1 p2 p3 (p1.1 1 11)) = 0)) => ?_)
          · have e : fS_sendOutWhenDue c = some p1 := by simp only [fS_sendOutWhenDue, if_pos h1, if_neg h2, if_neg h3, if_pos h4, e1, ab_bd_s, e2, ab_bd_s, e3, ab_bd_s, if_pos h5]
            obtain rfl := Option.some.inj (e.symm.trans hv)
            exact ab_vret ckS_sendOutWhenDue rfl rfl ⟨rfl, rfl⟩
          · refine ab_go 5 [] (pc' := 93) (lo' := [some (.ref 8), some (.long p2), none, some (.int p3)]) (st' := [.int p3, .long p2, .ref 8]) (h' := cs_H p1 rest) ckS_sendOutWhenDue rfl ?_
            rcases e4 : fS_sendOut p1 p2 p3 with _ | p4
            · exact ab_no hv (by simp only [fS_sendOutWhenDue, if_pos h1, if_neg h2, if_neg h3, if_pos h4, e1, ab_bd_s, e2, ab_bd_s, e3, ab_bd_s, if_neg h5, e4, ab_bd_n])
            refine ab_callV (bc2 := 0) (bs2 := 0) (as := [_, _]) (rest := []) ckS_sendOutWhenDue rfl (by decide +kernel) wS_sendOut (tS_sendOut (d := d + 2) (x1 := p2) (x2 := p3) (c := p1) (v := p4) e4) rfl rfl (by omega) ⟨Nat.le_refl _, Nat.le_refl _⟩ (Nat.le_of_ble_eq_true rfl) ?_
            rintro _ _ ⟨rfl, rfl⟩
            have e : fS_sendOutWhenDue c = some p4 := by simp only [fS_sendOutWhenDue, if_pos h1, if_neg h2, if_neg h3, if_pos h4, e1, ab_bd_s, e2, ab_bd_s, e3, ab_bd_s, if_neg h5, e4, ab_bd_s]
            obtain rfl := Option.some.inj (e.symm.trans hv)
            exact ab_vret ckS_sendOutWhenDue rfl rfl ⟨rfl, rfl⟩
        · have e : fS_sendOutWhenDue c = some c := by simp only [fS_sendOutWhenDue, if_pos h1, if_neg h2, if_neg h3, if_neg h4]
          obtain rfl := Option.some.inj (e.symm.trans hv)
          exact ab_vret ckS_sendOutWhenDue rfl rfl ⟨rfl, rfl⟩
def fS_move (c : cs_S) (x1 : Int32) : Option (cs_S) := (if (fP_isEnabled c) = 0 then (if (fP_isStageOn c) = 0 then (let p1 := fV_rest c x1; (some p1)) else (let p2 := fV_brake c; (some p2))) else (ab_bd (fV_follow c) (fun p3 => (some p3))))
theorem tS_move {x1 : Int32} {v : cs_S} (hv : fS_move c x1 = some v) : ab_M X mS_move (d + 4) 0 0 [.ref 8, .int x1] (cs_H c rest) (fun r9 h9 => r9 = none ∧ h9 = cs_H v rest) := by
  refine ab_entry (by decide) (Nat.le_of_ble_eq_true rfl) ?_
  refine ab_go 4 [] (pc' := 4) (lo' := [some (.ref 8), some (.int x1)]) (st' := [.ref 19]) (h' := cs_H c rest) ckS_move rfl ?_
  refine ab_callV (bc2 := 0) (bs2 := 0) (as := []) (rest := []) ckS_move rfl (by decide +kernel) wP_isEnabled (tP_isEnabled (d := d + 3) (c := c)) rfl rfl (by omega) ⟨Nat.le_refl _, Nat.le_refl _⟩ (Nat.le_of_ble_eq_true rfl) ?_
  rintro _ _ ⟨rfl, rfl⟩
  refine ab_if_eq ckS_move rfl (fun (h1 : (fP_isEnabled c) = 0) => ?_) (fun (h1 : ¬ ((fP_isEnabled c) = 0)) => ?_)
  · refine ab_go 4 [] (pc' := 24) (lo' := [some (.ref 8), some (.int x1)]) (st' := [.ref 19]) (h' := cs_H c rest) ckS_move rfl ?_
    refine ab_callV (bc2 := 0) (bs2 := 0) (as := []) (rest := []) ckS_move rfl (by decide +kernel) wP_isStageOn (tP_isStageOn (d := d + 3) (c := c)) rfl rfl (by omega) ⟨Nat.le_refl _, Nat.le_refl _⟩ (Nat.le_of_ble_eq_true rfl) ?_
    rintro _ _ ⟨rfl, rfl⟩
    refine ab_if_eq ckS_move rfl (fun (h2 : (fP_isStageOn c) = 0) => ?_) (fun (h2 : ¬ ((fP_isStageOn c) = 0)) => ?_)
    · refine ab_go 5 [] (pc' := 45) (lo' := [some (.ref 8), some (.int x1)]) (st' := [.int x1, .ref 20]) (h' := cs_H c rest) ckS_move rfl ?_
      refine ab_callV (bc2 := 0) (bs2 := 0) (as := [_]) (rest := []) ckS_move rfl (by decide +kernel) wV_rest (tV_rest (d := d + 3) (x1 := x1) (c := c)) rfl rfl (by omega) ⟨Nat.le_refl _, Nat.le_refl _⟩ (Nat.le_of_ble_eq_true rfl) ?_
      rintro _ _ ⟨rfl, rfl⟩
      generalize e1 : fV_rest c x1 = p1
      have e : fS_move c x1 = some p1 := by simp only [fS_move, if_pos h1, if_pos h2, e1]
      obtain rfl := Option.some.inj (e.symm.trans hv)
      exact ab_vret ckS_move rfl rfl ⟨rfl, rfl⟩
    · refine ab_go 4 [] (pc' := 34) (lo' := [some (.ref 8), some (.int x1)]) (st' := [.ref 20]) (h' := cs_H c rest) ckS_move rfl ?_
      refine ab_callV (bc2 := 0) (bs2 := 0) (as := []) (rest := []) ckS_move rfl (by decide +kernel) wV_brake (tV_brake (d := d + 1) (c := c)) rfl rfl (by omega) ⟨Nat.le_refl _, Nat.le_refl _⟩ (Nat.le_of_ble_eq_true rfl) ?_
      rintro _ _ ⟨rfl, rfl⟩
      generalize e2 : fV_brake c = p2
      refine ab_go 3 [] (pc' := 48) (lo' := [some (.ref 8), some (.int x1)]) (st' := []) (h' := cs_H p2 rest) ckS_move rfl ?_
      have e : fS_move c x1 = some p2 := by simp only [fS_move, if_pos h1, if_neg h2, e2]
      obtain rfl := Option.some.inj (e.symm.trans hv)
      exact ab_vret ckS_move rfl rfl ⟨rfl, rfl⟩
  · refine ab_go 4 [] (pc' := 14) (lo' := [some (.ref 8), some (.int x1)]) (st' := [.ref 20]) (h' := cs_H c rest) ckS_move rfl ?_
    rcases e3 : fV_follow c with _ | p3
    · exact ab_no hv (by simp only [fS_move, if_neg h1, e3, ab_bd_n])
    refine ab_callV (bc2 := 0) (bs2 := 0) (as := []) (rest := []) ckS_move rfl (by decide +kernel) wV_follow (tV_follow (d := d) (c := c) (v := p3) e3) rfl rfl (by omega) ⟨Nat.le_refl _, Nat.le_refl _⟩ (Nat.le_of_ble_eq_true rfl) ?_
    rintro _ _ ⟨rfl, rfl⟩
    refine ab_go 3 [] (pc' := 48) (lo' := [some (.ref 8), some (.int x1)]) (st' := []) (h' := cs_H p3 rest) ckS_move rfl ?_
    have e : fS_move c x1 = some p3 := by simp only [fS_move, if_neg h1, e3, ab_bd_s]
    obtain rfl := Option.some.inj (e.symm.trans hv)
    exact ab_vret ckS_move rfl rfl ⟨rfl, rfl⟩
def fS_obeyControl (c : cs_S)  : Option (cs_S) := (ab_bd (fP_orderOf c (c.1 1 16)) (fun p1 => (if (p1.2.1 1 21) = 0 then (let p4 := fP_obey p1.2 p1.1 (1 : Int32); (if p4.1 = 0 then (some p4.2) else (ab_bd (fS_sendEmergency (cs_u p4.2 1 0 (0 : Int32)) (0 : Int32)) (fun p5 => (some p5))))) else (let p2 := fP_obey p1.2 p1.1 (0 : Int32); (if p2.1 = 0 then (some p2.2) else (ab_bd (fS_sendEmergency (cs_u p2.2 1 0 (0 : Int32)) (0 : Int32)) (fun p3 => (some p3))))))))
theorem tS_obeyControl {v : cs_S} (hv : fS_obeyControl c = some v) : ab_M X mS_obeyControl (d + 3) 0 0 [.ref 8] (cs_H c rest) (fun r9 h9 => r9 = none ∧ h9 = cs_H v rest) := by
  refine ab_entry (by decide) (Nat.le_of_ble_eq_true rfl) ?_
  refine ab_go 8 [] (pc' := 11) (lo' := [some (.ref 8), none]) (st' := [.int (c.1 1 16), .ref 19]) (h' := cs_H c rest) ckS_obeyControl rfl ?_
  rcases e1 : fP_orderOf c (c.1 1 16) with _ | p1
  · exact ab_no hv (by simp only [fS_obeyControl, e1, ab_bd_n])
  refine ab_callV (bc2 := 0) (bs2 := 0) (as := [_]) (rest := []) ckS_obeyControl rfl (by decide +kernel) wP_orderOf (tP_orderOf (d := d + 2) (x1 := (c.1 1 16)) (c := c) (v := p1) e1) rfl rfl (by omega) ⟨Nat.le_refl _, Nat.le_refl _⟩ (Nat.le_of_ble_eq_true rfl) ?_
  rintro _ _ ⟨rfl, rfl⟩
  refine ab_go 10 [] (pc' := 27) (lo' := [some (.ref 8), some (.int p1.1)]) (st' := [.int (p1.2.1 1 21), .int p1.1, .ref 19]) (h' := cs_H p1.2 rest) ckS_obeyControl rfl ?_
  refine ab_if_ne ckS_obeyControl rfl (fun (h1 : ¬ ((p1.2.1 1 21) = 0)) => ?_) (fun (h1 : (p1.2.1 1 21) = 0) => ?_)
  · refine ab_go 3 [] (pc' := 35) (lo' := [some (.ref 8), some (.int p1.1)]) (st' := [.int (0 : Int32), .int p1.1, .ref 19]) (h' := cs_H p1.2 rest) ckS_obeyControl rfl ?_
    refine ab_callV (bc2 := 0) (bs2 := 0) (as := [_, _]) (rest := []) ckS_obeyControl rfl (by decide +kernel) wP_obey (tP_obey (d := d) (x1 := p1.1) (x2 := (0 : Int32)) (c := p1.2)) rfl rfl (by omega) ⟨Nat.le_refl _, Nat.le_refl _⟩ (Nat.le_of_ble_eq_true rfl) ?_
    rintro _ _ ⟨rfl, rfl⟩
    generalize e2 : fP_obey p1.2 p1.1 (0 : Int32) = p2
    refine ab_if_eq ckS_obeyControl rfl (fun (h2 : p2.1 = 0) => ?_) (fun (h2 : ¬ (p2.1 = 0)) => ?_)
    · have e : fS_obeyControl c = some p2.2 := by simp only [fS_obeyControl, e1, ab_bd_s, if_neg h1, e2, if_pos h2]
      obtain rfl := Option.some.inj (e.symm.trans hv)
      exact ab_vret ckS_obeyControl rfl rfl ⟨rfl, rfl⟩
    · refine ab_go 9 [] (pc' := 50) (lo' := [some (.ref 8), some (.int p1.1)]) (st' := [.int (0 : Int32), .ref 8]) (h' := cs_H (cs_u p2.2 1 0 (0 : Int32)) rest) ckS_obeyControl rfl ?_
      rcases e3 : fS_sendEmergency (cs_u p2.2 1 0 (0 : Int32)) (0 : Int32) with _ | p3
      · exact ab_no hv (by simp only [fS_obeyControl, e1, ab_bd_s, if_neg h1, e2, if_neg h2, e3, ab_bd_n])
      refine ab_callV (bc2 := 0) (bs2 := 0) (as := [_]) (rest := []) ckS_obeyControl rfl (by decide +kernel) wS_sendEmergency (tS_sendEmergency (d := d + 1) (x1 := (0 : Int32)) (c := (cs_u p2.2 1 0 (0 : Int32))) (v := p3) e3) rfl rfl (by omega) ⟨Nat.le_refl _, Nat.le_refl _⟩ (Nat.le_of_ble_eq_true rfl) ?_
      rintro _ _ ⟨rfl, rfl⟩
      have e : fS_obeyControl c = some p3 := by simp only [fS_obeyControl, e1, ab_bd_s, if_neg h1, e2, if_neg h2, e3, ab_bd_s]
      obtain rfl := Option.some.inj (e.symm.trans hv)
      exact ab_vret ckS_obeyControl rfl rfl ⟨rfl, rfl⟩
  · refine ab_go 4 [] (pc' := 35) (lo' := [some (.ref 8), some (.int p1.1)]) (st' := [.int (1 : Int32), .int p1.1, .ref 19]) (h' := cs_H p1.2 rest) ckS_obeyControl rfl ?_
    refine ab_callV (bc2 := 0) (bs2 := 0) (as := [_, _]) (rest := []) ckS_obeyControl rfl (by decide +kernel) wP_obey (tP_obey (d := d) (x1 := p1.1) (x2 := (1 : Int32)) (c := p1.2)) rfl rfl (by omega) ⟨Nat.le_refl _, Nat.le_refl _⟩ (Nat.le_of_ble_eq_true rfl) ?_
    rintro _ _ ⟨rfl, rfl⟩
    generalize e4 : fP_obey p1.2 p1.1 (1 : Int32) = p4
    refine ab_if_eq ckS_obeyControl rfl (fun (h3 : p4.1 = 0) => ?_) (fun (h3 : ¬ (p4.1 = 0)) => ?_)
    · have e : fS_obeyControl c = some p4.2 := by simp only [fS_obeyControl, e1, ab_bd_s, if_pos h1, e4, if_pos h3]
      obtain rfl := Option.some.inj (e.symm.trans hv)
      exact ab_vret ckS_obeyControl rfl rfl ⟨rfl, rfl⟩
    · refine ab_go 9 [] (pc' := 50) (lo' := [some (.ref 8), some (.int p1.1)]) (st' := [.int (0 : Int32), .ref 8]) (h' := cs_H (cs_u p4.2 1 0 (0 : Int32)) rest) ckS_obeyControl rfl ?_
      rcases e5 : fS_sendEmergency (cs_u p4.2 1 0 (0 : Int32)) (0 : Int32) with _ | p5
      · exact ab_no hv (by simp only [fS_obeyControl, e1, ab_bd_s, if_pos h1, e4, if_neg h3, e5, ab_bd_n])
      refine ab_callV (bc2 := 0) (bs2 := 0) (as := [_]) (rest := []) ckS_obeyControl rfl (by decide +kernel) wS_sendEmergency (tS_sendEmergency (d := d + 1) (x1 := (0 : Int32)) (c := (cs_u p4.2 1 0 (0 : Int32))) (v := p5) e5) rfl rfl (by omega) ⟨Nat.le_refl _, Nat.le_refl _⟩ (Nat.le_of_ble_eq_true rfl) ?_
      rintro _ _ ⟨rfl, rfl⟩
      have e : fS_obeyControl c = some p5 := by simp only [fS_obeyControl, e1, ab_bd_s, if_pos h1, e4, if_neg h3, e5, ab_bd_s]
      obtain rfl := Option.some.inj (e.symm.trans hv)
      exact ab_vret ckS_obeyControl rfl rfl ⟨rfl, rfl⟩
def fS_beat (c : cs_S)  : Option (cs_S) := (if (c.1 1 4) ≤ 0 then (some (cs_u c 0 2 ((c.1 0 2) + (1 : Int32)))) else (if ((c.1 0 2) + (1 : Int32)) < (c.1 1 4) then (some (cs_u c 0 2 ((c.1 0 2) + (1 : Int32)))) else (ab_bd (fB_send (cs_u (cs_u c 0 2 ((c.1 0 2) + (1 : Int32))) 0 2 (0 : Int32)) ((1792 : Int32) + (c.1 0 0)) (1 : Int32) ((c.1 0 1)).toInt64) (fun p1 => (some p1)))))
theorem tS_beat {v : cs_S} (hv : fS_beat c = some v) : ab_M X mS_beat (d + 1) 0 0 [.ref 8] (cs_H c rest) (fun r9 h9 => r9 = none ∧ h9 = cs_H v rest) := by
  refine ab_entry (by decide) (Nat.le_of_ble_eq_true rfl) ?_
  refine ab_go 14 [] (pc' := 18) (lo' := [some (.ref 8), some (.int (c.1 1 4))]) (st' := [.int (c.1 1 4)]) (h' := cs_H (cs_u c 0 2 ((c.1 0 2) + (1 : Int32))) rest) ckS_beat rfl ?_
  refine ab_if_le ckS_beat rfl (fun (h1 : (c.1 1 4) ≤ 0) => ?_) (fun (h1 : ¬ ((c.1 1 4) ≤ 0)) => ?_)
  · have e : fS_beat c = some (cs_u c 0 2 ((c.1 0 2) + (1 : Int32))) := by simp only [fS_beat, if_pos h1]
    obtain rfl := Option.some.inj (e.symm.trans hv)
    exact ab_vret ckS_beat rfl rfl ⟨rfl, rfl⟩
  · refine ab_go 5 [] (pc' := 26) (lo' := [some (.ref 8), some (.int (c.1 1 4))]) (st' := [.int (c.1 1 4), .int ((c.1 0 2) + (1 : Int32))]) (h' := cs_H (cs_u c 0 2 ((c.1 0 2) + (1 : Int32))) rest) ckS_beat rfl ?_
    refine ab_icmp_lt ckS_beat rfl (fun (h2 : ((c.1 0 2) + (1 : Int32)) < (c.1 1 4)) => ?_) (fun (h2 : ¬ (((c.1 0 2) + (1 : Int32)) < (c.1 1 4))) => ?_)
    · have e : fS_beat c = some (cs_u c 0 2 ((c.1 0 2) + (1 : Int32))) := by simp only [fS_beat, if_neg h1, if_pos h2]
      obtain rfl := Option.some.inj (e.symm.trans hv)
      exact ab_vret ckS_beat rfl rfl ⟨rfl, rfl⟩
    · refine ab_go 15 [] (pc' := 52) (lo' := [some (.ref 8), some (.int (c.1 1 4))]) (st' := [.long ((c.1 0 1)).toInt64, .int (1 : Int32), .int ((1792 : Int32) + (c.1 0 0)), .ref 10]) (h' := cs_H (cs_u (cs_u c 0 2 ((c.1 0 2) + (1 : Int32))) 0 2 (0 : Int32)) rest) ckS_beat rfl ?_
      rcases e1 : fB_send (cs_u (cs_u c 0 2 ((c.1 0 2) + (1 : Int32))) 0 2 (0 : Int32)) ((1792 : Int32) + (c.1 0 0)) (1 : Int32) ((c.1 0 1)).toInt64 with _ | p1
      · exact ab_no hv (by simp only [fS_beat, if_neg h1, if_neg h2, e1, ab_bd_n])
      refine ab_callV (bc2 := 0) (bs2 := 0) (as := [_, _, _]) (rest := []) ckS_beat rfl (by decide +kernel) wB_send (tB_send (d := d) (x1 := ((1792 : Int32) + (c.1 0 0))) (x2 := (1 : Int32)) (x3 := ((c.1 0 1)).toInt64) (c := (cs_u (cs_u c 0 2 ((c.1 0 2) + (1 : Int32))) 0 2 (0 : Int32))) (v := p1) e1) rfl rfl (by omega) ⟨Nat.le_refl _, Nat.le_refl _⟩ (Nat.le_of_ble_eq_true rfl) ?_
      rintro _ _ ⟨rfl, rfl⟩
      have e : fS_beat c = some p1 := by simp only [fS_beat, if_neg h1, if_neg h2, e1, ab_bd_s]
      obtain rfl := Option.some.inj (e.symm.trans hv)
      exact ab_vret ckS_beat rfl rfl ⟨rfl, rfl⟩
def fS_watchTime (c : cs_S)  : Int32 := ((c.1 1 3) &&& (65535 : Int32))
theorem tS_watchTime : ab_M X mS_watchTime (d) 0 0 [.ref 8] (cs_H c rest) (fun r9 h9 => r9 = some (Value.int (fS_watchTime c)) ∧ h9 = cs_H c rest) := by
  refine ab_entry (by decide) (Nat.le_of_ble_eq_true rfl) ?_
  refine ab_go 8 [] (pc' := 9) (lo' := [some (.ref 8)]) (st' := [.int ((c.1 1 3) &&& (65535 : Int32))]) (h' := cs_H c rest) ckS_watchTime rfl ?_
  have e : fS_watchTime c = ((c.1 1 3) &&& (65535 : Int32)) := by simp only [fS_watchTime]
  exact ab_iret ckS_watchTime rfl rfl ⟨(congrArg (fun q : Int32 => some (Value.int q)) e).symm, rfl⟩
def fS_makeTick (c : cs_S) (x1 : Int32) : Option (cs_S) := (if (fP_isStageOn (cs_u c 1 19 x1)) = 0 then (let p31 := fV_rest (cs_u c 1 19 x1) x1; (ab_bd (fT_goOn p31) (fun p32 => (ab_bd (fS_beat p32) (fun p33 => (let p34 := fH_runsOut p33 (fS_watchTime p33); (if p34.1 = 0 then (if (fP_isEnabled p34.2) = 0 then (ab_bd (fS_obeyControl p34.2) (fun p35 => (ab_bd (fS_move p35 x1) (fun p36 => (let p37 := fO_countTick p36; (ab_bd (fS_sendOutWhenDue p37) (fun p38 => (some p38)))))))) else (if (i_abs (x1 - (fV_demanded p34.2))) ≤ (p34.2.1 1 20) then (ab_bd (fS_obeyControl p34.2) (fun p39 => (ab_bd (fS_move p39 x1) (fun p40 => (let p41 := fO_countTick p40; (ab_bd (fS_sendOutWhenDue p41) (fun p42 => (some p42)))))))) else (ab_bd (fS_fault p34.2 (34321 : Int32)) (fun p43 => (ab_bd (fS_obeyControl p43) (fun p44 => (ab_bd (fS_move p44 x1) (fun p45 => (let p46 := fO_countTick p45; (ab_bd (fS_sendOutWhenDue p46) (fun p47 => (some p47)))))))))))) else (ab_bd (fS_fault p34.2 (33072 : Int32)) (fun p48 => (if (fP_isEnabled p48) = 0 then (ab_bd (fS_obeyControl p48) (fun p49 => (ab_bd (fS_move p49 x1) (fun p50 => (let p51 := fO_countTick p50; (ab_bd (fS_sendOutWhenDue p51) (fun p52 => (some p52)))))))) else (if (i_abs (x1 - (fV_demanded p48))) ≤ (p48.1 1 20) then (ab_bd (fS_obeyControl p48) (fun p53 => (ab_bd (fS_move p53 x1) (fun p54 => (let p55 := fO_countTick p54; (ab_bd (fS_sendOutWhenDue p55) (fun p56 => (some p56)))))))) else (ab_bd (fS_fault p48 (34321 : Int32)) (fun p57 => (ab_bd (fS_obeyControl p57) (fun p58 => (ab_bd (fS_move p58 x1) (fun p59 => (let p60 := fO_countTick p59; (ab_bd (fS_sendOutWhenDue p60) (fun p61 => (some p61))))))))))))))))))))) else (ab_bd (fT_goOn (cs_u c 1 19 x1)) (fun p1 => (ab_bd (fS_beat p1) (fun p2 => (let p3 := fH_runsOut p2 (fS_watchTime p2); (if p3.1 = 0 then (if (fP_isEnabled p3.2) = 0 then (ab_bd (fS_obeyControl p3.2) (fun p4 => (ab_bd (fS_move p4 x1) (fun p5 => (let p6 := fO_countTick p5; (ab_bd (fS_sendOutWhenDue p6) (fun p7 => (some p7)))))))) else (if (i_abs (x1 - (fV_demanded p3.2))) ≤ (p3.2.1 1 20) then (ab_bd (fS_obeyControl p3.2) (fun p8 => (ab_bd (fS_move p8 x1) (fun p9 => (let p10 := fO_countTick p9; (ab_bd (fS_sendOutWhenDue p10) (fun p11 => (some p11)))))))) else (ab_bd (fS_fault p3.2 (34321 : Int32)) (fun p12 => (ab_bd (fS_obeyControl p12) (fun p13 => (ab_bd (fS_move p13 x1) (fun p14 => (let p15 := fO_countTick p14; (ab_bd (fS_sendOutWhenDue p15) (fun p16 => (some p16)))))))))))) else (ab_bd (fS_fault p3.2 (33072 : Int32)) (fun p17 => (if (fP_isEnabled p17) = 0 then (ab_bd (fS_obeyControl p17) (fun p18 => (ab_bd (fS_move p18 x1) (fun p19 => (let p20 := fO_countTick p19; (ab_bd (fS_sendOutWhenDue p20) (fun p21 => (some p21)))))))) else (if (i_abs (x1 - (fV_demanded p17))) ≤ (p17.1 1 20) then (ab_bd (fS_obeyControl p17) (fun p22 => (ab_bd (fS_move p22 x1) (fun p23 => (let p24 := fO_countTick p23; (ab_bd (fS_sendOutWhenDue p24) (fun p25 => (some p25)))))))) else (ab_bd (fS_fault p17 (34321 : Int32)) (fun p26 => (ab_bd (fS_obeyControl p26) (fun p27 => (ab_bd (fS_move p27 x1) (fun p28 => (let p29 := fO_countTick p28; (ab_bd (fS_sendOutWhenDue p29) (fun p30 => (some p30)))))))))))))))))))))
theorem tS_makeTick {x1 : Int32} (hX : cs_X X) {v : cs_S} (hv : fS_makeTick c x1 = some v) : ab_M X mS_makeTick (d + 5) 0 0 [.ref 8, .int x1] (cs_H c rest) (fun r9 h9 => r9 = none ∧ h9 = cs_H v rest) := by
  refine ab_entry (by decide) (Nat.le_of_ble_eq_true rfl) ?_
  refine ab_go 9 [] (pc' := 12) (lo' := [some (.ref 8), some (.int x1)]) (st' := [.ref 19]) (h' := cs_H (cs_u c 1 19 x1) rest) ckS_makeTick rfl ?_
  refine ab_callV (bc2 := 0) (bs2 := 0) (as := []) (rest := []) ckS_makeTick rfl (by decide +kernel) wP_isStageOn (tP_isStageOn (d := d + 4) (c := (cs_u c 1 19 x1))) rfl rfl (by omega) ⟨Nat.le_refl _, Nat.le_refl _⟩ (Nat.le_of_ble_eq_true rfl) ?_
  rintro _ _ ⟨rfl, rfl⟩
  refine ab_if_ne ckS_makeTick rfl (fun (h1 : ¬ ((fP_isStageOn (cs_u c 1 19 x1)) = 0)) => ?_) (fun (h1 : (fP_isStageOn (cs_u c 1 19 x1)) = 0) => ?_)
  · refine ab_go 4 [] (pc' := 30) (lo' := [some (.ref 8), some (.int x1)]) (st' := [.ref 14]) (h' := cs_H (cs_u c 1 19 x1) rest) ckS_makeTick rfl ?_
    rcases e1 : fT_goOn (cs_u c 1 19 x1) with _ | p1
    · exact ab_no hv (by simp only [fS_makeTick, if_neg h1, e1, ab_bd_n])
    refine ab_callV (bc2 := 0) (bs2 := 0) (as := []) (rest := []) ckS_makeTick rfl (by decide +kernel) wT_goOn (tT_goOn (d := d + 4) (c := (cs_u c 1 19 x1)) (v := p1) e1) rfl rfl (by omega) ⟨Nat.le_refl _, Nat.le_refl _⟩ (Nat.le_of_ble_eq_true rfl) ?_
    rintro _ _ ⟨rfl, rfl⟩
    refine ab_go 3 [] (pc' := 34) (lo' := [some (.ref 8), some (.int x1)]) (st' := [.ref 8]) (h' := cs_H p1 rest) ckS_makeTick rfl ?_
    rcases e2 : fS_beat p1 with _ | p2
    · exact ab_no hv (by simp only [fS_makeTick, if_neg h1, e1, ab_bd_s, e2, ab_bd_n])
    refine ab_callV (bc2 := 0) (bs2 := 0) (as := []) (rest := []) ckS_makeTick rfl (by decide +kernel) wS_beat (tS_beat (d := d + 3) (c := p1) (v := p2) e2) rfl rfl (by omega) ⟨Nat.le_refl _, Nat.le_refl _⟩ (Nat.le_of_ble_eq_true rfl) ?_
    rintro _ _ ⟨rfl, rfl⟩
    refine ab_go 5 [] (pc' := 42) (lo' := [some (.ref 8), some (.int x1)]) (st' := [.ref 8, .ref 21]) (h' := cs_H p2 rest) ckS_makeTick rfl ?_
    refine ab_callV (bc2 := 0) (bs2 := 0) (as := []) (rest := [_]) ckS_makeTick rfl (by decide +kernel) wS_watchTime (tS_watchTime (d := d + 4) (c := p2)) rfl rfl (by omega) ⟨Nat.le_refl _, Nat.le_refl _⟩ (Nat.le_of_ble_eq_true rfl) ?_
    rintro _ _ ⟨rfl, rfl⟩
    refine ab_callV (bc2 := 0) (bs2 := 0) (as := [_]) (rest := []) ckS_makeTick rfl (by decide +kernel) wH_runsOut (tH_runsOut (d := d + 3) (x1 := (fS_watchTime p2)) (c := p2)) rfl rfl (by omega) ⟨Nat.le_refl _, Nat.le_refl _⟩ (Nat.le_of_ble_eq_true rfl) ?_
    rintro _ _ ⟨rfl, rfl⟩
    generalize e3 : fH_runsOut p2 (fS_watchTime p2) = p3
    refine ab_if_eq ckS_makeTick rfl (fun (h2 : p3.1 = 0) => ?_) (fun (h2 : ¬ (p3.1 = 0)) => ?_)
    · refine ab_go 4 [] (pc' := 62) (lo' := [some (.ref 8), some (.int x1)]) (st' := [.ref 19]) (h' := cs_H p3.2 rest) ckS_makeTick rfl ?_
      refine ab_callV (bc2 := 0) (bs2 := 0) (as := []) (rest := []) ckS_makeTick rfl (by decide +kernel) wP_isEnabled (tP_isEnabled (d := d + 4) (c := p3.2)) rfl rfl (by omega) ⟨Nat.le_refl _, Nat.le_refl _⟩ (Nat.le_of_ble_eq_true rfl) ?_
      rintro _ _ ⟨rfl, rfl⟩
      refine ab_if_eq ckS_makeTick rfl (fun (h3 : (fP_isEnabled p3.2) = 0) => ?_) (fun (h3 : ¬ ((fP_isEnabled p3.2) = 0)) => ?_)
      · refine ab_go 3 [] (pc' := 98) (lo' := [some (.ref 8), some (.int x1)]) (st' := [.ref 8]) (h' := cs_H p3.2 rest) ckS_makeTick rfl ?_
        rcases e4 : fS_obeyControl p3.2 with _ | p4
        · exact ab_no hv (by simp only [fS_makeTick, if_neg h1, e1, ab_bd_s, e2, ab_bd_s, e3, if_pos h2, if_pos h3, e4, ab_bd_n])
        refine ab_callV (bc2 := 0) (bs2 := 0) (as := []) (rest := []) ckS_makeTick rfl (by decide +kernel) wS_obeyControl (tS_obeyControl (d := d + 1) (c := p3.2) (v := p4) e4) rfl rfl (by omega) ⟨Nat.le_refl _, Nat.le_refl _⟩ (Nat.le_of_ble_eq_true rfl) ?_
        rintro _ _ ⟨rfl, rfl⟩
        refine ab_go 4 [] (pc' := 103) (lo' := [some (.ref 8), some (.int x1)]) (st' := [.int x1, .ref 8]) (h' := cs_H p4 rest) ckS_makeTick rfl ?_
        rcases e5 : fS_move p4 x1 with _ | p5
        · exact ab_no hv (by simp only [fS_makeTick, if_neg h1, e1, ab_bd_s, e2, ab_bd_s, e3, if_pos h2, if_pos h3, e4, ab_bd_s, e5, ab_bd_n])
        refine ab_callV (bc2 := 0) (bs2 := 0) (as := [_]) (rest := []) ckS_makeTick rfl (by decide +kernel) wS_move (tS_move (d := d) (x1 := x1) (c := p4) (v := p5) e5) rfl rfl (by omega) ⟨Nat.le_refl _, Nat.le_refl _⟩ (Nat.le_of_ble_eq_true rfl) ?_
        rintro _ _ ⟨rfl, rfl⟩
        refine ab_go 4 [] (pc' := 110) (lo' := [some (.ref 8), some (.int x1)]) (st' := [.ref 22]) (h' := cs_H p5 rest) ckS_makeTick rfl ?_
        refine ab_callV (bc2 := 0) (bs2 := 0) (as := []) (rest := []) ckS_makeTick rfl (by decide +kernel) wO_countTick (tO_countTick (d := d + 4) (c := p5)) rfl rfl (by omega) ⟨Nat.le_refl _, Nat.le_refl _⟩ (Nat.le_of_ble_eq_true rfl) ?_
        rintro _ _ ⟨rfl, rfl⟩
        generalize e6 : fO_countTick p5 = p6
        refine ab_go 3 [] (pc' := 114) (lo' := [some (.ref 8), some (.int x1)]) (st' := [.ref 8]) (h' := cs_H p6 rest) ckS_makeTick rfl ?_
        rcases e7 : fS_sendOutWhenDue p6 with _ | p7
        · exact ab_no hv (by simp only [fS_makeTick, if_neg h1, e1, ab_bd_s, e2, ab_bd_s, e3, if_pos h2, if_pos h3, e4, ab_bd_s, e5, ab_bd_s, e6, e7, ab_bd_n])
        refine ab_callV (bc2 := 0) (bs2 := 0) (as := []) (rest := []) ckS_makeTick rfl (by decide +kernel) wS_sendOutWhenDue (tS_sendOutWhenDue (d := d) (c := p6) hX (v := p7) e7) rfl rfl (by omega) ⟨Nat.le_refl _, Nat.le_refl _⟩ (Nat.le_of_ble_eq_true rfl) ?_
        rintro _ _ ⟨rfl, rfl⟩
        have e : fS_makeTick c x1 = some p7 := by simp only [fS_makeTick, if_neg h1, e1, ab_bd_s, e2, ab_bd_s, e3, if_pos h2, if_pos h3, e4, ab_bd_s, e5, ab_bd_s, e6, e7, ab_bd_s]
        obtain rfl := Option.some.inj (e.symm.trans hv)
        exact ab_vret ckS_makeTick rfl rfl ⟨rfl, rfl⟩
      · refine ab_go 5 [] (pc' := 73) (lo' := [some (.ref 8), some (.int x1)]) (st' := [.ref 20, .int x1]) (h' := cs_H p3.2 rest) ckS_makeTick rfl ?_
        refine ab_callV (bc2 := 0) (bs2 := 0) (as := []) (rest := [_]) ckS_makeTick rfl (by decide +kernel) wV_demanded (tV_demanded (d := d + 4) (c := p3.2)) rfl rfl (by omega) ⟨Nat.le_refl _, Nat.le_refl _⟩ (Nat.le_of_ble_eq_true rfl) ?_
        rintro _ _ ⟨rfl, rfl⟩
        refine ab_go 3 [] (pc' := 77) (lo' := [some (.ref 8), some (.int x1)]) (st' := [.int (x1 - (fV_demanded p3.2))]) (h' := cs_H p3.2 rest) ckS_makeTick rfl ?_
        refine ab_mabs ckS_makeTick rfl (by decide +kernel) (by omega) (Nat.le_of_ble_eq_true rfl) ?_
        refine ab_go 6 [] (pc' := 87) (lo' := [some (.ref 8), some (.int x1)]) (st' := [.int (p3.2.1 1 20), .int (i_abs (x1 - (fV_demanded p3.2)))]) (h' := cs_H p3.2 rest) ckS_makeTick rfl ?_
        refine ab_icmp_le ckS_makeTick rfl (fun (h4 : (i_abs (x1 - (fV_demanded p3.2))) ≤ (p3.2.1 1 20)) => ?_) (fun (h4 : ¬ ((i_abs (x1 - (fV_demanded p3.2))) ≤ (p3.2.1 1 20))) => ?_)
        · refine ab_go 3 [] (pc' := 98) (lo' := [some (.ref 8), some (.int x1)]) (st' := [.ref 8]) (h' := cs_H p3.2 rest) ckS_makeTick rfl ?_
          rcases e8 : fS_obeyControl p3.2 with _ | p8
          · exact ab_no hv (by simp only [fS_makeTick, if_neg h1, e1, ab_bd_s, e2, ab_bd_s, e3, if_pos h2, if_neg h3, if_pos h4, e8, ab_bd_n])
          refine ab_callV (bc2 := 0) (bs2 := 0) (as := []) (rest := []) ckS_makeTick rfl (by decide +kernel) wS_obeyControl (tS_obeyControl (d := d + 1) (c := p3.2) (v := p8) e8) rfl rfl (by omega) ⟨Nat.le_refl _, Nat.le_refl _⟩ (Nat.le_of_ble_eq_true rfl) ?_
          rintro _ _ ⟨rfl, rfl⟩
          refine ab_go 4 [] (pc' := 103) (lo' := [some (.ref 8), some (.int x1)]) (st' := [.int x1, .ref 8]) (h' := cs_H p8 rest) ckS_makeTick rfl ?_
          rcases e9 : fS_move p8 x1 with _ | p9
          · exact ab_no hv (by simp only [fS_makeTick, if_neg h1, e1, ab_bd_s, e2, ab_bd_s, e3, if_pos h2, if_neg h3, if_pos h4, e8, ab_bd_s, e9, ab_bd_n])
          refine ab_callV (bc2 := 0) (bs2 := 0) (as := [_]) (rest := []) ckS_makeTick rfl (by decide +kernel) wS_move (tS_move (d := d) (x1 := x1) (c := p8) (v := p9) e9) rfl rfl (by omega) ⟨Nat.le_refl _, Nat.le_refl _⟩ (Nat.le_of_ble_eq_true rfl) ?_
          rintro _ _ ⟨rfl, rfl⟩
          refine ab_go 4 [] (pc' := 110) (lo' := [some (.ref 8), some (.int x1)]) (st' := [.ref 22]) (h' := cs_H p9 rest) ckS_makeTick rfl ?_
          refine ab_callV (bc2 := 0) (bs2 := 0) (as := []) (rest := []) ckS_makeTick rfl (by decide +kernel) wO_countTick (tO_countTick (d := d + 4) (c := p9)) rfl rfl (by omega) ⟨Nat.le_refl _, Nat.le_refl _⟩ (Nat.le_of_ble_eq_true rfl) ?_
          rintro _ _ ⟨rfl, rfl⟩
          generalize e10 : fO_countTick p9 = p10
          refine ab_go 3 [] (pc' := 114) (lo' := [some (.ref 8), some (.int x1)]) (st' := [.ref 8]) (h' := cs_H p10 rest) ckS_makeTick rfl ?_
          rcases e11 : fS_sendOutWhenDue p10 with _ | p11
          · exact ab_no hv (by simp only [fS_makeTick, if_neg h1, e1, ab_bd_s, e2, ab_bd_s, e3, if_pos h2, if_neg h3, if_pos h4, e8, ab_bd_s, e9, ab_bd_s, e10, e11, ab_bd_n])
          refine ab_callV (bc2 := 0) (bs2 := 0) (as := []) (rest := []) ckS_makeTick rfl (by decide +kernel) wS_sendOutWhenDue (tS_sendOutWhenDue (d := d) (c := p10) hX (v := p11) e11) rfl rfl (by omega) ⟨Nat.le_refl _, Nat.le_refl _⟩ (Nat.le_of_ble_eq_true rfl) ?_
          rintro _ _ ⟨rfl, rfl⟩
          have e : fS_makeTick c x1 = some p11 := by simp only [fS_makeTick, if_neg h1, e1, ab_bd_s, e2, ab_bd_s, e3, if_pos h2, if_neg h3, if_pos h4, e8, ab_bd_s, e9, ab_bd_s, e10, e11, ab_bd_s]
          obtain rfl := Option.some.inj (e.symm.trans hv)
          exact ab_vret ckS_makeTick rfl rfl ⟨rfl, rfl⟩
        · refine ab_go 4 [] (pc' := 94) (lo' := [some (.ref 8), some (.int x1)]) (st' := [.int (34321 : Int32), .ref 8]) (h' := cs_H p3.2 rest) ckS_makeTick rfl ?_
          rcases e12 : fS_fault p3.2 (34321 : Int32) with _ | p12
          · exact ab_no hv (by simp only [fS_makeTick, if_neg h1, e1, ab_bd_s, e2, ab_bd_s, e3, if_pos h2, if_neg h3, if_neg h4, e12, ab_bd_n])
          refine ab_callV (bc2 := 0) (bs2 := 0) (as := [_]) (rest := []) ckS_makeTick rfl (by decide +kernel) wS_fault (tS_fault (d := d + 2) (x1 := (34321 : Int32)) (c := p3.2) (v := p12) e12) rfl rfl (by omega) ⟨Nat.le_refl _, Nat.le_refl _⟩ (Nat.le_of_ble_eq_true rfl) ?_
          rintro _ _ ⟨rfl, rfl⟩
          refine ab_go 3 [] (pc' := 98) (lo' := [some (.ref 8), some (.int x1)]) (st' := [.ref 8]) (h' := cs_H p12 rest) ckS_makeTick rfl ?_
          rcases e13 : fS_obeyControl p12 with _ | p13
          · exact ab_no hv (by simp only [fS_makeTick, if_neg h1, e1, ab_bd_s, e2, ab_bd_s, e3, if_pos h2, if_neg h3, if_neg h4, e12, ab_bd_s, e13, ab_bd_n])
          refine ab_callV (bc2 := 0) (bs2 := 0) (as := []) (rest := []) ckS_makeTick rfl (by decide +kernel) wS_obeyControl (tS_obeyControl (d := d + 1) (c := p12) (v := p13) e13) rfl rfl (by omega) ⟨Nat.le_refl _, Nat.le_refl _⟩ (Nat.le_of_ble_eq_true rfl) ?_
          rintro _ _ ⟨rfl, rfl⟩
          refine ab_go 4 [] (pc' := 103) (lo' := [some (.ref 8), some (.int x1)]) (st' := [.int x1, .ref 8]) (h' := cs_H p13 rest) ckS_makeTick rfl ?_
          rcases e14 : fS_move p13 x1 with _ | p14
          · exact ab_no hv (by simp only [fS_makeTick, if_neg h1, e1, ab_bd_s, e2, ab_bd_s, e3, if_pos h2, if_neg h3, if_neg h4, e12, ab_bd_s, e13, ab_bd_s, e14, ab_bd_n])
          refine ab_callV (bc2 := 0) (bs2 := 0) (as := [_]) (rest := []) ckS_makeTick rfl (by decide +kernel) wS_move (tS_move (d := d) (x1 := x1) (c := p13) (v := p14) e14) rfl rfl (by omega) ⟨Nat.le_refl _, Nat.le_refl _⟩ (Nat.le_of_ble_eq_true rfl) ?_
          rintro _ _ ⟨rfl, rfl⟩
          refine ab_go 4 [] (pc' := 110) (lo' := [some (.ref 8), some (.int x1)]) (st' := [.ref 22]) (h' := cs_H p14 rest) ckS_makeTick rfl ?_
          refine ab_callV (bc2 := 0) (bs2 := 0) (as := []) (rest := []) ckS_makeTick rfl (by decide +kernel) wO_countTick (tO_countTick (d := d + 4) (c := p14)) rfl rfl (by omega) ⟨Nat.le_refl _, Nat.le_refl _⟩ (Nat.le_of_ble_eq_true rfl) ?_
          rintro _ _ ⟨rfl, rfl⟩
          generalize e15 : fO_countTick p14 = p15
          refine ab_go 3 [] (pc' := 114) (lo' := [some (.ref 8), some (.int x1)]) (st' := [.ref 8]) (h' := cs_H p15 rest) ckS_makeTick rfl ?_
          rcases e16 : fS_sendOutWhenDue p15 with _ | p16
          · exact ab_no hv (by simp only [fS_makeTick, if_neg h1, e1, ab_bd_s, e2, ab_bd_s, e3, if_pos h2, if_neg h3, if_neg h4, e12, ab_bd_s, e13, ab_bd_s, e14, ab_bd_s, e15, e16, ab_bd_n])
          refine ab_callV (bc2 := 0) (bs2 := 0) (as := []) (rest := []) ckS_makeTick rfl (by decide +kernel) wS_sendOutWhenDue (tS_sendOutWhenDue (d := d) (c := p15) hX (v := p16) e16) rfl rfl (by omega) ⟨Nat.le_refl _, Nat.le_refl _⟩ (Nat.le_of_ble_eq_true rfl) ?_
          rintro _ _ ⟨rfl, rfl⟩
          have e : fS_makeTick c x1 = some p16 := by simp only [fS_makeTick, if_neg h1, e1, ab_bd_s, e2, ab_bd_s, e3, if_pos h2, if_neg h3, if_neg h4, e12, ab_bd_s, e13, ab_bd_s, e14, ab_bd_s, e15, e16, ab_bd_s]
          obtain rfl := Option.some.inj (e.symm.trans hv)
          exact ab_vret ckS_makeTick rfl rfl ⟨rfl, rfl⟩
    · refine ab_go 4 [] (pc' := 55) (lo' := [some (.ref 8), some (.int x1)]) (st' := [.int (33072 : Int32), .ref 8]) (h' := cs_H p3.2 rest) ckS_makeTick rfl ?_
      rcases e17 : fS_fault p3.2 (33072 : Int32) with _ | p17
      · exact ab_no hv (by simp only [fS_makeTick, if_neg h1, e1, ab_bd_s, e2, ab_bd_s, e3, if_neg h2, e17, ab_bd_n])
      refine ab_callV (bc2 := 0) (bs2 := 0) (as := [_]) (rest := []) ckS_makeTick rfl (by decide +kernel) wS_fault (tS_fault (d := d + 2) (x1 := (33072 : Int32)) (c := p3.2) (v := p17) e17) rfl rfl (by omega) ⟨Nat.le_refl _, Nat.le_refl _⟩ (Nat.le_of_ble_eq_true rfl) ?_
      rintro _ _ ⟨rfl, rfl⟩
      refine ab_go 4 [] (pc' := 62) (lo' := [some (.ref 8), some (.int x1)]) (st' := [.ref 19]) (h' := cs_H p17 rest) ckS_makeTick rfl ?_
      refine ab_callV (bc2 := 0) (bs2 := 0) (as := []) (rest := []) ckS_makeTick rfl (by decide +kernel) wP_isEnabled (tP_isEnabled (d := d + 4) (c := p17)) rfl rfl (by omega) ⟨Nat.le_refl _, Nat.le_refl _⟩ (Nat.le_of_ble_eq_true rfl) ?_
      rintro _ _ ⟨rfl, rfl⟩
      refine ab_if_eq ckS_makeTick rfl (fun (h5 : (fP_isEnabled p17) = 0) => ?_) (fun (h5 : ¬ ((fP_isEnabled p17) = 0)) => ?_)
      · refine ab_go 3 [] (pc' := 98) (lo' := [some (.ref 8), some (.int x1)]) (st' := [.ref 8]) (h' := cs_H p17 rest) ckS_makeTick rfl ?_
        rcases e18 : fS_obeyControl p17 with _ | p18
        · exact ab_no hv (by simp only [fS_makeTick, if_neg h1, e1, ab_bd_s, e2, ab_bd_s, e3, if_neg h2, e17, ab_bd_s, if_pos h5, e18, ab_bd_n])
        refine ab_callV (bc2 := 0) (bs2 := 0) (as := []) (rest := []) ckS_makeTick rfl (by decide +kernel) wS_obeyControl (tS_obeyControl (d := d + 1) (c := p17) (v := p18) e18) rfl rfl (by omega) ⟨Nat.le_refl _, Nat.le_refl _⟩ (Nat.le_of_ble_eq_true rfl) ?_
        rintro _ _ ⟨rfl, rfl⟩
        refine ab_go 4 [] (pc' := 103) (lo' := [some (.ref 8), some (.int x1)]) (st' := [.int x1, .ref 8]) (h' := cs_H p18 rest) ckS_makeTick rfl ?_
        rcases e19 : fS_move p18 x1 with _ | p19
        · exact ab_no hv (by simp only [fS_makeTick, if_neg h1, e1, ab_bd_s, e2, ab_bd_s, e3, if_neg h2, e17, ab_bd_s, if_pos h5, e18, ab_bd_s, e19, ab_bd_n])
        refine ab_callV (bc2 := 0) (bs2 := 0) (as := [_]) (rest := []) ckS_makeTick rfl (by decide +kernel) wS_move (tS_move (d := d) (x1 := x1) (c := p18) (v := p19) e19) rfl rfl (by omega) ⟨Nat.le_refl _, Nat.le_refl _⟩ (Nat.le_of_ble_eq_true rfl) ?_
        rintro _ _ ⟨rfl, rfl⟩
        refine ab_go 4 [] (pc' := 110) (lo' := [some (.ref 8), some (.int x1)]) (st' := [.ref 22]) (h' := cs_H p19 rest) ckS_makeTick rfl ?_
        refine ab_callV (bc2 := 0) (bs2 := 0) (as := []) (rest := []) ckS_makeTick rfl (by decide +kernel) wO_countTick (tO_countTick (d := d + 4) (c := p19)) rfl rfl (by omega) ⟨Nat.le_refl _, Nat.le_refl _⟩ (Nat.le_of_ble_eq_true rfl) ?_
        rintro _ _ ⟨rfl, rfl⟩
        generalize e20 : fO_countTick p19 = p20
        refine ab_go 3 [] (pc' := 114) (lo' := [some (.ref 8), some (.int x1)]) (st' := [.ref 8]) (h' := cs_H p20 rest) ckS_makeTick rfl ?_
        rcases e21 : fS_sendOutWhenDue p20 with _ | p21
        · exact ab_no hv (by simp only [fS_makeTick, if_neg h1, e1, ab_bd_s, e2, ab_bd_s, e3, if_neg h2, e17, ab_bd_s, if_pos h5, e18, ab_bd_s, e19, ab_bd_s, e20, e21, ab_bd_n])
        refine ab_callV (bc2 := 0) (bs2 := 0) (as := []) (rest := []) ckS_makeTick rfl (by decide +kernel) wS_sendOutWhenDue (tS_sendOutWhenDue (d := d) (c := p20) hX (v := p21) e21) rfl rfl (by omega) ⟨Nat.le_refl _, Nat.le_refl _⟩ (Nat.le_of_ble_eq_true rfl) ?_
        rintro _ _ ⟨rfl, rfl⟩
        have e : fS_makeTick c x1 = some p21 := by simp only [fS_makeTick, if_neg h1, e1, ab_bd_s, e2, ab_bd_s, e3, if_neg h2, e17, ab_bd_s, if_pos h5, e18, ab_bd_s, e19, ab_bd_s, e20, e21, ab_bd_s]
        obtain rfl := Option.some.inj (e.symm.trans hv)
        exact ab_vret ckS_makeTick rfl rfl ⟨rfl, rfl⟩
      · refine ab_go 5 [] (pc' := 73) (lo' := [some (.ref 8), some (.int x1)]) (st' := [.ref 20, .int x1]) (h' := cs_H p17 rest) ckS_makeTick rfl ?_
        refine ab_callV (bc2 := 0) (bs2 := 0) (as := []) (rest := [_]) ckS_makeTick rfl (by decide +kernel) wV_demanded (tV_demanded (d := d + 4) (c := p17)) rfl rfl (by omega) ⟨Nat.le_refl _, Nat.le_refl _⟩ (Nat.le_of_ble_eq_true rfl) ?_
        rintro _ _ ⟨rfl, rfl⟩
        refine ab_go 3 [] (pc' := 77) (lo' := [some (.ref 8), some (.int x1)]) (st' := [.int (x1 - (fV_demanded p17))]) (h' := cs_H p17 rest) ckS_makeTick rfl ?_
        refine ab_mabs ckS_makeTick rfl (by decide +kernel) (by omega) (Nat.le_of_ble_eq_true rfl) ?_
        refine ab_go 6 [] (pc' := 87) (lo' := [some (.ref 8), some (.int x1)]) (st' := [.int (p17.1 1 20), .int (i_abs (x1 - (fV_demanded p17)))]) (h' := cs_H p17 rest) ckS_makeTick rfl ?_
        refine ab_icmp_le ckS_makeTick rfl (fun (h6 : (i_abs (x1 - (fV_demanded p17))) ≤ (p17.1 1 20)) => ?_) (fun (h6 : ¬ ((i_abs (x1 - (fV_demanded p17))) ≤ (p17.1 1 20))) => ?_)
        · refine ab_go 3 [] (pc' := 98) (lo' := [some (.ref 8), some (.int x1)]) (st' := [.ref 8]) (h' := cs_H p17 rest) ckS_makeTick rfl ?_
          rcases e22 : fS_obeyControl p17 with _ | p22
          · exact ab_no hv (by simp only [fS_makeTick, if_neg h1, e1, ab_bd_s, e2, ab_bd_s, e3, if_neg h2, e17, ab_bd_s, if_neg h5, if_pos h6, e22, ab_bd_n])
          refine ab_callV (bc2 := 0) (bs2 := 0) (as := []) (rest := []) ckS_makeTick rfl (by decide +kernel) wS_obeyControl (tS_obeyControl (d := d + 1) (c := p17) (v := p22) e22) rfl rfl (by omega) ⟨Nat.le_refl _, Nat.le_refl _⟩ (Nat.le_of_ble_eq_true rfl) ?_
          rintro _ _ ⟨rfl, rfl⟩
          refine ab_go 4 [] (pc' := 103) (lo' := [some (.ref 8), some (.int x1)]) (st' := [.int x1, .ref 8]) (h' := cs_H p22 rest) ckS_makeTick rfl ?_
          rcases e23 : fS_move p22 x1 with _ | p23
          · exact ab_no hv (by simp only [fS_makeTick, if_neg h1, e1, ab_bd_s, e2, ab_bd_s, e3, if_neg h2, e17, ab_bd_s, if_neg h5, if_pos h6, e22, ab_bd_s, e23, ab_bd_n])
          refine ab_callV (bc2 := 0) (bs2 := 0) (as := [_]) (rest := []) ckS_makeTick rfl (by decide +kernel) wS_move (tS_move (d := d) (x1 := x1) (c := p22) (v := p23) e23) rfl rfl (by omega) ⟨Nat.le_refl _, Nat.le_refl _⟩ (Nat.le_of_ble_eq_true rfl) ?_
          rintro _ _ ⟨rfl, rfl⟩
          refine ab_go 4 [] (pc' := 110) (lo' := [some (.ref 8), some (.int x1)]) (st' := [.ref 22]) (h' := cs_H p23 rest) ckS_makeTick rfl ?_
          refine ab_callV (bc2 := 0) (bs2 := 0) (as := []) (rest := []) ckS_makeTick rfl (by decide +kernel) wO_countTick (tO_countTick (d := d + 4) (c := p23)) rfl rfl (by omega) ⟨Nat.le_refl _, Nat.le_refl _⟩ (Nat.le_of_ble_eq_true rfl) ?_
          rintro _ _ ⟨rfl, rfl⟩
          generalize e24 : fO_countTick p23 = p24
          refine ab_go 3 [] (pc' := 114) (lo' := [some (.ref 8), some (.int x1)]) (st' := [.ref 8]) (h' := cs_H p24 rest) ckS_makeTick rfl ?_
          rcases e25 : fS_sendOutWhenDue p24 with _ | p25
          · exact ab_no hv (by simp only [fS_makeTick, if_neg h1, e1, ab_bd_s, e2, ab_bd_s, e3, if_neg h2, e17, ab_bd_s, if_neg h5, if_pos h6, e22, ab_bd_s, e23, ab_bd_s, e24, e25, ab_bd_n])
          refine ab_callV (bc2 := 0) (bs2 := 0) (as := []) (rest := []) ckS_makeTick rfl (by decide +kernel) wS_sendOutWhenDue (tS_sendOutWhenDue (d := d) (c := p24) hX (v := p25) e25) rfl rfl (by omega) ⟨Nat.le_refl _, Nat.le_refl _⟩ (Nat.le_of_ble_eq_true rfl) ?_
          rintro _ _ ⟨rfl, rfl⟩
          have e : fS_makeTick c x1 = some p25 := by simp only [fS_makeTick, if_neg h1, e1, ab_bd_s, e2, ab_bd_s, e3, if_neg h2, e17, ab_bd_s, if_neg h5, if_pos h6, e22, ab_bd_s, e23, ab_bd_s, e24, e25, ab_bd_s]
          obtain rfl := Option.some.inj (e.symm.trans hv)
          exact ab_vret ckS_makeTick rfl rfl ⟨rfl, rfl⟩
        · refine ab_go 4 [] (pc' := 94) (lo' := [some (.ref 8), some (.int x1)]) (st' := [.int (34321 : Int32), .ref 8]) (h' := cs_H p17 rest) ckS_makeTick rfl ?_
          rcases e26 : fS_fault p17 (34321 : Int32) with _ | p26
          · exact ab_no hv (by simp only [fS_makeTick, if_neg h1, e1, ab_bd_s, e2, ab_bd_s, e3, if_neg h2, e17, ab_bd_s, if_neg h5, if_neg h6, e26, ab_bd_n])
          refine ab_callV (bc2 := 0) (bs2 := 0) (as := [_]) (rest := []) ckS_makeTick rfl (by decide +kernel) wS_fault (tS_fault (d := d + 2) (x1 := (34321 : Int32)) (c := p17) (v := p26) e26) rfl rfl (by omega) ⟨Nat.le_refl _, Nat.le_refl _⟩ (Nat.le_of_ble_eq_true rfl) ?_
          rintro _ _ ⟨rfl, rfl⟩
          refine ab_go 3 [] (pc' := 98) (lo' := [some (.ref 8), some (.int x1)]) (st' := [.ref 8]) (h' := cs_H p26 rest) ckS_makeTick rfl ?_
          rcases e27 : fS_obeyControl p26 with _ | p27
          · exact ab_no hv (by simp only [fS_makeTick, if_neg h1, e1, ab_bd_s, e2, ab_bd_s, e3, if_neg h2, e17, ab_bd_s, if_neg h5, if_neg h6, e26, ab_bd_s, e27, ab_bd_n])
          refine ab_callV (bc2 := 0) (bs2 := 0) (as := []) (rest := []) ckS_makeTick rfl (by decide +kernel) wS_obeyControl (tS_obeyControl (d := d + 1) (c := p26) (v := p27) e27) rfl rfl (by omega) ⟨Nat.le_refl _, Nat.le_refl _⟩ (Nat.le_of_ble_eq_true rfl) ?_
          rintro _ _ ⟨rfl, rfl⟩
          refine ab_go 4 [] (pc' := 103) (lo' := [some (.ref 8), some (.int x1)]) (st' := [.int x1, .ref 8]) (h' := cs_H p27 rest) ckS_makeTick rfl ?_
          rcases e28 : fS_move p27 x1 with _ | p28
          · exact ab_no hv (by simp only [fS_makeTick, if_neg h1, e1, ab_bd_s, e2, ab_bd_s, e3, if_neg h2, e17, ab_bd_s, if_neg h5, if_neg h6, e26, ab_bd_s, e27, ab_bd_s, e28, ab_bd_n])
          refine ab_callV (bc2 := 0) (bs2 := 0) (as := [_]) (rest := []) ckS_makeTick rfl (by decide +kernel) wS_move (tS_move (d := d) (x1 := x1) (c := p27) (v := p28) e28) rfl rfl (by omega) ⟨Nat.le_refl _, Nat.le_refl _⟩ (Nat.le_of_ble_eq_true rfl) ?_
          rintro _ _ ⟨rfl, rfl⟩
          refine ab_go 4 [] (pc' := 110) (lo' := [some (.ref 8), some (.int x1)]) (st' := [.ref 22]) (h' := cs_H p28 rest) ckS_makeTick rfl ?_
          refine ab_callV (bc2 := 0) (bs2 := 0) (as := []) (rest := []) ckS_makeTick rfl (by decide +kernel) wO_countTick (tO_countTick (d := d + 4) (c := p28)) rfl rfl (by omega) ⟨Nat.le_refl _, Nat.le_refl _⟩ (Nat.le_of_ble_eq_true rfl) ?_
          rintro _ _ ⟨rfl, rfl⟩
          generalize e29 : fO_countTick p28 = p29
          refine ab_go 3 [] (pc' := 114) (lo' := [some (.ref 8), some (.int x1)]) (st' := [.ref 8]) (h' := cs_H p29 rest) ckS_makeTick rfl ?_
          rcases e30 : fS_sendOutWhenDue p29 with _ | p30
          · exact ab_no hv (by simp only [fS_makeTick, if_neg h1, e1, ab_bd_s, e2, ab_bd_s, e3, if_neg h2, e17, ab_bd_s, if_neg h5, if_neg h6, e26, ab_bd_s, e27, ab_bd_s, e28, ab_bd_s, e29, e30, ab_bd_n])
          refine ab_callV (bc2 := 0) (bs2 := 0) (as := []) (rest := []) ckS_makeTick rfl (by decide +kernel) wS_sendOutWhenDue (tS_sendOutWhenDue (d := d) (c := p29) hX (v := p30) e30) rfl rfl (by omega) ⟨Nat.le_refl _, Nat.le_refl _⟩ (Nat.le_of_ble_eq_true rfl) ?_
          rintro _ _ ⟨rfl, rfl⟩
          have e : fS_makeTick c x1 = some p30 := by simp only [fS_makeTick, if_neg h1, e1, ab_bd_s, e2, ab_bd_s, e3, if_neg h2, e17, ab_bd_s, if_neg h5, if_neg h6, e26, ab_bd_s, e27, ab_bd_s, e28, ab_bd_s, e29, e30, ab_bd_s]
          obtain rfl := Option.some.inj (e.symm.trans hv)
          exact ab_vret ckS_makeTick rfl rfl ⟨rfl, rfl⟩
  · refine ab_go 5 [] (pc' := 23) (lo' := [some (.ref 8), some (.int x1)]) (st' := [.int x1, .ref 20]) (h' := cs_H (cs_u c 1 19 x1) rest) ckS_makeTick rfl ?_
    refine ab_callV (bc2 := 0) (bs2 := 0) (as := [_]) (rest := []) ckS_makeTick rfl (by decide +kernel) wV_rest (tV_rest (d := d + 4) (x1 := x1) (c := (cs_u c 1 19 x1))) rfl rfl (by omega) ⟨Nat.le_refl _, Nat.le_refl _⟩ (Nat.le_of_ble_eq_true rfl) ?_
    rintro _ _ ⟨rfl, rfl⟩
    generalize e31 : fV_rest (cs_u c 1 19 x1) x1 = p31
    refine ab_go 4 [] (pc' := 30) (lo' := [some (.ref 8), some (.int x1)]) (st' := [.ref 14]) (h' := cs_H p31 rest) ckS_makeTick rfl ?_
    rcases e32 : fT_goOn p31 with _ | p32
    · exact ab_no hv (by simp only [fS_makeTick, if_pos h1, e31, e32, ab_bd_n])
    refine ab_callV (bc2 := 0) (bs2 := 0) (as := []) (rest := []) ckS_makeTick rfl (by decide +kernel) wT_goOn (tT_goOn (d := d + 4) (c := p31) (v := p32) e32) rfl rfl (by omega) ⟨Nat.le_refl _, Nat.le_refl _⟩ (Nat.le_of_ble_eq_true rfl) ?_
    rintro _ _ ⟨rfl, rfl⟩
    refine ab_go 3 [] (pc' := 34) (lo' := [some (.ref 8), some (.int x1)]) (st' := [.ref 8]) (h' := cs_H p32 rest) ckS_makeTick rfl ?_
    rcases e33 : fS_beat p32 with _ | p33
    · exact ab_no hv (by simp only [fS_makeTick, if_pos h1, e31, e32, ab_bd_s, e33, ab_bd_n])
    refine ab_callV (bc2 := 0) (bs2 := 0) (as := []) (rest := []) ckS_makeTick rfl (by decide +kernel) wS_beat (tS_beat (d := d + 3) (c := p32) (v := p33) e33) rfl rfl (by omega) ⟨Nat.le_refl _, Nat.le_refl _⟩ (Nat.le_of_ble_eq_true rfl) ?_
    rintro _ _ ⟨rfl, rfl⟩
    refine ab_go 5 [] (pc' := 42) (lo' := [some (.ref 8), some (.int x1)]) (st' := [.ref 8, .ref 21]) (h' := cs_H p33 rest) ckS_makeTick rfl ?_
    refine ab_callV (bc2 := 0) (bs2 := 0) (as := []) (rest := [_]) ckS_makeTick rfl (by decide +kernel) wS_watchTime (tS_watchTime (d := d + 4) (c := p33)) rfl rfl (by omega) ⟨Nat.le_refl _, Nat.le_refl _⟩ (Nat.le_of_ble_eq_true rfl) ?_
    rintro _ _ ⟨rfl, rfl⟩
    refine ab_callV (bc2 := 0) (bs2 := 0) (as := [_]) (rest := []) ckS_makeTick rfl (by decide +kernel) wH_runsOut (tH_runsOut (d := d + 3) (x1 := (fS_watchTime p33)) (c := p33)) rfl rfl (by omega) ⟨Nat.le_refl _, Nat.le_refl _⟩ (Nat.le_of_ble_eq_true rfl) ?_
    rintro _ _ ⟨rfl, rfl⟩
    generalize e34 : fH_runsOut p33 (fS_watchTime p33) = p34
    refine ab_if_eq ckS_makeTick rfl (fun (h7 : p34.1 = 0) => ?_) (fun (h7 : ¬ (p34.1 = 0)) => ?_)
    · refine ab_go 4 [] (pc' := 62) (lo' := [some (.ref 8), some (.int x1)]) (st' := [.ref 19]) (h' := cs_H p34.2 rest) ckS_makeTick rfl ?_
      refine ab_callV (bc2 := 0) (bs2 := 0) (as := []) (rest := []) ckS_makeTick rfl (by decide +kernel) wP_isEnabled (tP_isEnabled (d := d + 4) (c := p34.2)) rfl rfl (by omega) ⟨Nat.le_refl _, Nat.le_refl _⟩ (Nat.le_of_ble_eq_true rfl) ?_
      rintro _ _ ⟨rfl, rfl⟩
      refine ab_if_eq ckS_makeTick rfl (fun (h8 : (fP_isEnabled p34.2) = 0) => ?_) (fun (h8 : ¬ ((fP_isEnabled p34.2) = 0)) => ?_)
      · refine ab_go 3 [] (pc' := 98) (lo' := [some (.ref 8), some (.int x1)]) (st' := [.ref 8]) (h' := cs_H p34.2 rest) ckS_makeTick rfl ?_
        rcases e35 : fS_obeyControl p34.2 with _ | p35
        · exact ab_no hv (by simp only [fS_makeTick, if_pos h1, e31, e32, ab_bd_s, e33, ab_bd_s, e34, if_pos h7, if_pos h8, e35, ab_bd_n])
        refine ab_callV (bc2 := 0) (bs2 := 0) (as := []) (rest := []) ckS_makeTick rfl (by decide +kernel) wS_obeyControl (tS_obeyControl (d := d + 1) (c := p34.2) (v := p35) e35) rfl rfl (by omega) ⟨Nat.le_refl _, Nat.le_refl _⟩ (Nat.le_of_ble_eq_true rfl) ?_
        rintro _ _ ⟨rfl, rfl⟩
        refine ab_go 4 [] (pc' := 103) (lo' := [some (.ref 8), some (.int x1)]) (st' := [.int x1, .ref 8]) (h' := cs_H p35 rest) ckS_makeTick rfl ?_
        rcases e36 : fS_move p35 x1 with _ | p36
        · exact ab_no hv (by simp only [fS_makeTick, if_pos h1, e31, e32, ab_bd_s, e33, ab_bd_s, e34, if_pos h7, if_pos h8, e35, ab_bd_s, e36, ab_bd_n])
        refine ab_callV (bc2 := 0) (bs2 := 0) (as := [_]) (rest := []) ckS_makeTick rfl (by decide +kernel) wS_move (tS_move (d := d) (x1 := x1) (c := p35) (v := p36) e36) rfl rfl (by omega) ⟨Nat.le_refl _, Nat.le_refl _⟩ (Nat.le_of_ble_eq_true rfl) ?_
        rintro _ _ ⟨rfl, rfl⟩
        refine ab_go 4 [] (pc' := 110) (lo' := [some (.ref 8), some (.int x1)]) (st' := [.ref 22]) (h' := cs_H p36 rest) ckS_makeTick rfl ?_
        refine ab_callV (bc2 := 0) (bs2 := 0) (as := []) (rest := []) ckS_makeTick rfl (by decide +kernel) wO_countTick (tO_countTick (d := d + 4) (c := p36)) rfl rfl (by omega) ⟨Nat.le_refl _, Nat.le_refl _⟩ (Nat.le_of_ble_eq_true rfl) ?_
        rintro _ _ ⟨rfl, rfl⟩
        generalize e37 : fO_countTick p36 = p37
        refine ab_go 3 [] (pc' := 114) (lo' := [some (.ref 8), some (.int x1)]) (st' := [.ref 8]) (h' := cs_H p37 rest) ckS_makeTick rfl ?_
        rcases e38 : fS_sendOutWhenDue p37 with _ | p38
        · exact ab_no hv (by simp only [fS_makeTick, if_pos h1, e31, e32, ab_bd_s, e33, ab_bd_s, e34, if_pos h7, if_pos h8, e35, ab_bd_s, e36, ab_bd_s, e37, e38, ab_bd_n])
        refine ab_callV (bc2 := 0) (bs2 := 0) (as := []) (rest := []) ckS_makeTick rfl (by decide +kernel) wS_sendOutWhenDue (tS_sendOutWhenDue (d := d) (c := p37) hX (v := p38) e38) rfl rfl (by omega) ⟨Nat.le_refl _, Nat.le_refl _⟩ (Nat.le_of_ble_eq_true rfl) ?_
        rintro _ _ ⟨rfl, rfl⟩
        have e : fS_makeTick c x1 = some p38 := by simp only [fS_makeTick, if_pos h1, e31, e32, ab_bd_s, e33, ab_bd_s, e34, if_pos h7, if_pos h8, e35, ab_bd_s, e36, ab_bd_s, e37, e38, ab_bd_s]
        obtain rfl := Option.some.inj (e.symm.trans hv)
        exact ab_vret ckS_makeTick rfl rfl ⟨rfl, rfl⟩
      · refine ab_go 5 [] (pc' := 73) (lo' := [some (.ref 8), some (.int x1)]) (st' := [.ref 20, .int x1]) (h' := cs_H p34.2 rest) ckS_makeTick rfl ?_
        refine ab_callV (bc2 := 0) (bs2 := 0) (as := []) (rest := [_]) ckS_makeTick rfl (by decide +kernel) wV_demanded (tV_demanded (d := d + 4) (c := p34.2)) rfl rfl (by omega) ⟨Nat.le_refl _, Nat.le_refl _⟩ (Nat.le_of_ble_eq_true rfl) ?_
        rintro _ _ ⟨rfl, rfl⟩
        refine ab_go 3 [] (pc' := 77) (lo' := [some (.ref 8), some (.int x1)]) (st' := [.int (x1 - (fV_demanded p34.2))]) (h' := cs_H p34.2 rest) ckS_makeTick rfl ?_
        refine ab_mabs ckS_makeTick rfl (by decide +kernel) (by omega) (Nat.le_of_ble_eq_true rfl) ?_
        refine ab_go 6 [] (pc' := 87) (lo' := [some (.ref 8), some (.int x1)]) (st' := [.int (p34.2.1 1 20), .int (i_abs (x1 - (fV_demanded p34.2)))]) (h' := cs_H p34.2 rest) ckS_makeTick rfl ?_
        refine ab_icmp_le ckS_makeTick rfl (fun (h9 : (i_abs (x1 - (fV_demanded p34.2))) ≤ (p34.2.1 1 20)) => ?_) (fun (h9 : ¬ ((i_abs (x1 - (fV_demanded p34.2))) ≤ (p34.2.1 1 20))) => ?_)
        · refine ab_go 3 [] (pc' := 98) (lo' := [some (.ref 8), some (.int x1)]) (st' := [.ref 8]) (h' := cs_H p34.2 rest) ckS_makeTick rfl ?_
          rcases e39 : fS_obeyControl p34.2 with _ | p39
          · exact ab_no hv (by simp only [fS_makeTick, if_pos h1, e31, e32, ab_bd_s, e33, ab_bd_s, e34, if_pos h7, if_neg h8, if_pos h9, e39, ab_bd_n])
          refine ab_callV (bc2 := 0) (bs2 := 0) (as := []) (rest := []) ckS_makeTick rfl (by decide +kernel) wS_obeyControl (tS_obeyControl (d := d + 1) (c := p34.2) (v := p39) e39) rfl rfl (by omega) ⟨Nat.le_refl _, Nat.le_refl _⟩ (Nat.le_of_ble_eq_true rfl) ?_
          rintro _ _ ⟨rfl, rfl⟩
          refine ab_go 4 [] (pc' := 103) (lo' := [some (.ref 8), some (.int x1)]) (st' := [.int x1, .ref 8]) (h' := cs_H p39 rest) ckS_makeTick rfl ?_
          rcases e40 : fS_move p39 x1 with _ | p40
          · exact ab_no hv (by simp only [fS_makeTick, if_pos h1, e31, e32, ab_bd_s, e33, ab_bd_s, e34, if_pos h7, if_neg h8, if_pos h9, e39, ab_bd_s, e40, ab_bd_n])
          refine ab_callV (bc2 := 0) (bs2 := 0) (as := [_]) (rest := []) ckS_makeTick rfl (by decide +kernel) wS_move (tS_move (d := d) (x1 := x1) (c := p39) (v := p40) e40) rfl rfl (by omega) ⟨Nat.le_refl _, Nat.le_refl _⟩ (Nat.le_of_ble_eq_true rfl) ?_
          rintro _ _ ⟨rfl, rfl⟩
          refine ab_go 4 [] (pc' := 110) (lo' := [some (.ref 8), some (.int x1)]) (st' := [.ref 22]) (h' := cs_H p40 rest) ckS_makeTick rfl ?_
          refine ab_callV (bc2 := 0) (bs2 := 0) (as := []) (rest := []) ckS_makeTick rfl (by decide +kernel) wO_countTick (tO_countTick (d := d + 4) (c := p40)) rfl rfl (by omega) ⟨Nat.le_refl _, Nat.le_refl _⟩ (Nat.le_of_ble_eq_true rfl) ?_
          rintro _ _ ⟨rfl, rfl⟩
          generalize e41 : fO_countTick p40 = p41
          refine ab_go 3 [] (pc' := 114) (lo' := [some (.ref 8), some (.int x1)]) (st' := [.ref 8]) (h' := cs_H p41 rest) ckS_makeTick rfl ?_
          rcases e42 : fS_sendOutWhenDue p41 with _ | p42
          · exact ab_no hv (by simp only [fS_makeTick, if_pos h1, e31, e32, ab_bd_s, e33, ab_bd_s, e34, if_pos h7, if_neg h8, if_pos h9, e39, ab_bd_s, e40, ab_bd_s, e41, e42, ab_bd_n])
          refine ab_callV (bc2 := 0) (bs2 := 0) (as := []) (rest := []) ckS_makeTick rfl (by decide +kernel) wS_sendOutWhenDue (tS_sendOutWhenDue (d := d) (c := p41) hX (v := p42) e42) rfl rfl (by omega) ⟨Nat.le_refl _, Nat.le_refl _⟩ (Nat.le_of_ble_eq_true rfl) ?_
          rintro _ _ ⟨rfl, rfl⟩
          have e : fS_makeTick c x1 = some p42 := by simp only [fS_makeTick, if_pos h1, e31, e32, ab_bd_s, e33, ab_bd_s, e34, if_pos h7, if_neg h8, if_pos h9, e39, ab_bd_s, e40, ab_bd_s, e41, e42, ab_bd_s]
          obtain rfl := Option.some.inj (e.symm.trans hv)
          exact ab_vret ckS_makeTick rfl rfl ⟨rfl, rfl⟩
        · refine ab_go 4 [] (pc' := 94) (lo' := [some (.ref 8), some (.int x1)]) (st' := [.int (34321 : Int32), .ref 8]) (h' := cs_H p34.2 rest) ckS_makeTick rfl ?_
          rcases e43 : fS_fault p34.2 (34321 : Int32) with _ | p43
          · exact ab_no hv (by simp only [fS_makeTick, if_pos h1, e31, e32, ab_bd_s, e33, ab_bd_s, e34, if_pos h7, if_neg h8, if_neg h9, e43, ab_bd_n])
          refine ab_callV (bc2 := 0) (bs2 := 0) (as := [_]) (rest := []) ckS_makeTick rfl (by decide +kernel) wS_fault (tS_fault (d := d + 2) (x1 := (34321 : Int32)) (c := p34.2) (v := p43) e43) rfl rfl (by omega) ⟨Nat.le_refl _, Nat.le_refl _⟩ (Nat.le_of_ble_eq_true rfl) ?_
          rintro _ _ ⟨rfl, rfl⟩
          refine ab_go 3 [] (pc' := 98) (lo' := [some (.ref 8), some (.int x1)]) (st' := [.ref 8]) (h' := cs_H p43 rest) ckS_makeTick rfl ?_
          rcases e44 : fS_obeyControl p43 with _ | p44
          · exact ab_no hv (by simp only [fS_makeTick, if_pos h1, e31, e32, ab_bd_s, e33, ab_bd_s, e34, if_pos h7, if_neg h8, if_neg h9, e43, ab_bd_s, e44, ab_bd_n])
          refine ab_callV (bc2 := 0) (bs2 := 0) (as := []) (rest := []) ckS_makeTick rfl (by decide +kernel) wS_obeyControl (tS_obeyControl (d := d + 1) (c := p43) (v := p44) e44) rfl rfl (by omega) ⟨Nat.le_refl _, Nat.le_refl _⟩ (Nat.le_of_ble_eq_true rfl) ?_
          rintro _ _ ⟨rfl, rfl⟩
          refine ab_go 4 [] (pc' := 103) (lo' := [some (.ref 8), some (.int x1)]) (st' := [.int x1, .ref 8]) (h' := cs_H p44 rest) ckS_makeTick rfl ?_
          rcases e45 : fS_move p44 x1 with _ | p45
          · exact ab_no hv (by simp only [fS_makeTick, if_pos h1, e31, e32, ab_bd_s, e33, ab_bd_s, e34, if_pos h7, if_neg h8, if_neg h9, e43, ab_bd_s, e44, ab_bd_s, e45, ab_bd_n])
          refine ab_callV (bc2 := 0) (bs2 := 0) (as := [_]) (rest := []) ckS_makeTick rfl (by decide +kernel) wS_move (tS_move (d := d) (x1 := x1) (c := p44) (v := p45) e45) rfl rfl (by omega) ⟨Nat.le_refl _, Nat.le_refl _⟩ (Nat.le_of_ble_eq_true rfl) ?_
          rintro _ _ ⟨rfl, rfl⟩
          refine ab_go 4 [] (pc' := 110) (lo' := [some (.ref 8), some (.int x1)]) (st' := [.ref 22]) (h' := cs_H p45 rest) ckS_makeTick rfl ?_
          refine ab_callV (bc2 := 0) (bs2 := 0) (as := []) (rest := []) ckS_makeTick rfl (by decide +kernel) wO_countTick (tO_countTick (d := d + 4) (c := p45)) rfl rfl (by omega) ⟨Nat.le_refl _, Nat.le_refl _⟩ (Nat.le_of_ble_eq_true rfl) ?_
          rintro _ _ ⟨rfl, rfl⟩
          generalize e46 : fO_countTick p45 = p46
          refine ab_go 3 [] (pc' := 114) (lo' := [some (.ref 8), some (.int x1)]) (st' := [.ref 8]) (h' := cs_H p46 rest) ckS_makeTick rfl ?_
          rcases e47 : fS_sendOutWhenDue p46 with _ | p47
          · exact ab_no hv (by simp only [fS_makeTick, if_pos h1, e31, e32, ab_bd_s, e33, ab_bd_s, e34, if_pos h7, if_neg h8, if_neg h9, e43, ab_bd_s, e44, ab_bd_s, e45, ab_bd_s, e46, e47, ab_bd_n])
          refine ab_callV (bc2 := 0) (bs2 := 0) (as := []) (rest := []) ckS_makeTick rfl (by decide +kernel) wS_sendOutWhenDue (tS_sendOutWhenDue (d := d) (c := p46) hX (v := p47) e47) rfl rfl (by omega) ⟨Nat.le_refl _, Nat.le_refl _⟩ (Nat.le_of_ble_eq_true rfl) ?_
          rintro _ _ ⟨rfl, rfl⟩
          have e : fS_makeTick c x1 = some p47 := by simp only [fS_makeTick, if_pos h1, e31, e32, ab_bd_s, e33, ab_bd_s, e34, if_pos h7, if_neg h8, if_neg h9, e43, ab_bd_s, e44, ab_bd_s, e45, ab_bd_s, e46, e47, ab_bd_s]
          obtain rfl := Option.some.inj (e.symm.trans hv)
          exact ab_vret ckS_makeTick rfl rfl ⟨rfl, rfl⟩
    · refine ab_go 4 [] (pc' := 55) (lo' := [some (.ref 8), some (.int x1)]) (st' := [.int (33072 : Int32), .ref 8]) (h' := cs_H p34.2 rest) ckS_makeTick rfl ?_
      rcases e48 : fS_fault p34.2 (33072 : Int32) with _ | p48
      · exact ab_no hv (by simp only [fS_makeTick, if_pos h1, e31, e32, ab_bd_s, e33, ab_bd_s, e34, if_neg h7, e48, ab_bd_n])
      refine ab_callV (bc2 := 0) (bs2 := 0) (as := [_]) (rest := []) ckS_makeTick rfl (by decide +kernel) wS_fault (tS_fault (d := d + 2) (x1 := (33072 : Int32)) (c := p34.2) (v := p48) e48) rfl rfl (by omega) ⟨Nat.le_refl _, Nat.le_refl _⟩ (Nat.le_of_ble_eq_true rfl) ?_
      rintro _ _ ⟨rfl, rfl⟩
      refine ab_go 4 [] (pc' := 62) (lo' := [some (.ref 8), some (.int x1)]) (st' := [.ref 19]) (h' := cs_H p48 rest) ckS_makeTick rfl ?_
      refine ab_callV (bc2 := 0) (bs2 := 0) (as := []) (rest := []) ckS_makeTick rfl (by decide +kernel) wP_isEnabled (tP_isEnabled (d := d + 4) (c := p48)) rfl rfl (by omega) ⟨Nat.le_refl _, Nat.le_refl _⟩ (Nat.le_of_ble_eq_true rfl) ?_
      rintro _ _ ⟨rfl, rfl⟩
      refine ab_if_eq ckS_makeTick rfl (fun (h10 : (fP_isEnabled p48) = 0) => ?_) (fun (h10 : ¬ ((fP_isEnabled p48) = 0)) => ?_)
      · refine ab_go 3 [] (pc' := 98) (lo' := [some (.ref 8), some (.int x1)]) (st' := [.ref 8]) (h' := cs_H p48 rest) ckS_makeTick rfl ?_
        rcases e49 : fS_obeyControl p48 with _ | p49
        · exact ab_no hv (by simp only [fS_makeTick, if_pos h1, e31, e32, ab_bd_s, e33, ab_bd_s, e34, if_neg h7, e48, ab_bd_s, if_pos h10, e49, ab_bd_n])
        refine ab_callV (bc2 := 0) (bs2 := 0) (as := []) (rest := []) ckS_makeTick rfl (by decide +kernel) wS_obeyControl (tS_obeyControl (d := d + 1) (c := p48) (v := p49) e49) rfl rfl (by omega) ⟨Nat.le_refl _, Nat.le_refl _⟩ (Nat.le_of_ble_eq_true rfl) ?_
        rintro _ _ ⟨rfl, rfl⟩
        refine ab_go 4 [] (pc' := 103) (lo' := [some (.ref 8), some (.int x1)]) (st' := [.int x1, .ref 8]) (h' := cs_H p49 rest) ckS_makeTick rfl ?_
        rcases e50 : fS_move p49 x1 with _ | p50
        · exact ab_no hv (by simp only [fS_makeTick, if_pos h1, e31, e32, ab_bd_s, e33, ab_bd_s, e34, if_neg h7, e48, ab_bd_s, if_pos h10, e49, ab_bd_s, e50, ab_bd_n])
        refine ab_callV (bc2 := 0) (bs2 := 0) (as := [_]) (rest := []) ckS_makeTick rfl (by decide +kernel) wS_move (tS_move (d := d) (x1 := x1) (c := p49) (v := p50) e50) rfl rfl (by omega) ⟨Nat.le_refl _, Nat.le_refl _⟩ (Nat.le_of_ble_eq_true rfl) ?_
        rintro _ _ ⟨rfl, rfl⟩
        refine ab_go 4 [] (pc' := 110) (lo' := [some (.ref 8), some (.int x1)]) (st' := [.ref 22]) (h' := cs_H p50 rest) ckS_makeTick rfl ?_
        refine ab_callV (bc2 := 0) (bs2 := 0) (as := []) (rest := []) ckS_makeTick rfl (by decide +kernel) wO_countTick (tO_countTick (d := d + 4) (c := p50)) rfl rfl (by omega) ⟨Nat.le_refl _, Nat.le_refl _⟩ (Nat.le_of_ble_eq_true rfl) ?_
        rintro _ _ ⟨rfl, rfl⟩
        generalize e51 : fO_countTick p50 = p51
        refine ab_go 3 [] (pc' := 114) (lo' := [some (.ref 8), some (.int x1)]) (st' := [.ref 8]) (h' := cs_H p51 rest) ckS_makeTick rfl ?_
        rcases e52 : fS_sendOutWhenDue p51 with _ | p52
        · exact ab_no hv (by simp only [fS_makeTick, if_pos h1, e31, e32, ab_bd_s, e33, ab_bd_s, e34, if_neg h7, e48, ab_bd_s, if_pos h10, e49, ab_bd_s, e50, ab_bd_s, e51, e52, ab_bd_n])
        refine ab_callV (bc2 := 0) (bs2 := 0) (as := []) (rest := []) ckS_makeTick rfl (by decide +kernel) wS_sendOutWhenDue (tS_sendOutWhenDue (d := d) (c := p51) hX (v := p52) e52) rfl rfl (by omega) ⟨Nat.le_refl _, Nat.le_refl _⟩ (Nat.le_of_ble_eq_true rfl) ?_
        rintro _ _ ⟨rfl, rfl⟩
        have e : fS_makeTick c x1 = some p52 := by simp only [fS_makeTick, if_pos h1, e31, e32, ab_bd_s, e33, ab_bd_s, e34, if_neg h7, e48, ab_bd_s, if_pos h10, e49, ab_bd_s, e50, ab_bd_s, e51, e52, ab_bd_s]
        obtain rfl := Option.some.inj (e.symm.trans hv)
        exact ab_vret ckS_makeTick rfl rfl ⟨rfl, rfl⟩
      · refine ab_go 5 [] (pc' := 73) (lo' := [some (.ref 8), some (.int x1)]) (st' := [.ref 20, .int x1]) (h' := cs_H p48 rest) ckS_makeTick rfl ?_
        refine ab_callV (bc2 := 0) (bs2 := 0) (as := []) (rest := [_]) ckS_makeTick rfl (by decide +kernel) wV_demanded (tV_demanded (d := d + 4) (c := p48)) rfl rfl (by omega) ⟨Nat.le_refl _, Nat.le_refl _⟩ (Nat.le_of_ble_eq_true rfl) ?_
        rintro _ _ ⟨rfl, rfl⟩
        refine ab_go 3 [] (pc' := 77) (lo' := [some (.ref 8), some (.int x1)]) (st' := [.int (x1 - (fV_demanded p48))]) (h' := cs_H p48 rest) ckS_makeTick rfl ?_
        refine ab_mabs ckS_makeTick rfl (by decide +kernel) (by omega) (Nat.le_of_ble_eq_true rfl) ?_
        refine ab_go 6 [] (pc' := 87) (lo' := [some (.ref 8), some (.int x1)]) (st' := [.int (p48.1 1 20), .int (i_abs (x1 - (fV_demanded p48)))]) (h' := cs_H p48 rest) ckS_makeTick rfl ?_
        refine ab_icmp_le ckS_makeTick rfl (fun (h11 : (i_abs (x1 - (fV_demanded p48))) ≤ (p48.1 1 20)) => ?_) (fun (h11 : ¬ ((i_abs (x1 - (fV_demanded p48))) ≤ (p48.1 1 20))) => ?_)
        · refine ab_go 3 [] (pc' := 98) (lo' := [some (.ref 8), some (.int x1)]) (st' := [.ref 8]) (h' := cs_H p48 rest) ckS_makeTick rfl ?_
          rcases e53 : fS_obeyControl p48 with _ | p53
          · exact ab_no hv (by simp only [fS_makeTick, if_pos h1, e31, e32, ab_bd_s, e33, ab_bd_s, e34, if_neg h7, e48, ab_bd_s, if_neg h10, if_pos h11, e53, ab_bd_n])
          refine ab_callV (bc2 := 0) (bs2 := 0) (as := []) (rest := []) ckS_makeTick rfl (by decide +kernel) wS_obeyControl (tS_obeyControl (d := d + 1) (c := p48) (v := p53) e53) rfl rfl (by omega) ⟨Nat.le_refl _, Nat.le_refl _⟩ (Nat.le_of_ble_eq_true rfl) ?_
          rintro _ _ ⟨rfl, rfl⟩
          refine ab_go 4 [] (pc' := 103) (lo' := [some (.ref 8), some (.int x1)]) (st' := [.int x1, .ref 8]) (h' := cs_H p53 rest) ckS_makeTick rfl ?_
          rcases e54 : fS_move p53 x1 with _ | p54
          · exact ab_no hv (by simp only [fS_makeTick, if_pos h1, e31, e32, ab_bd_s, e33, ab_bd_s, e34, if_neg h7, e48, ab_bd_s, if_neg h10, if_pos h11, e53, ab_bd_s, e54, ab_bd_n])
          refine ab_callV (bc2 := 0) (bs2 := 0) (as := [_]) (rest := []) ckS_makeTick rfl (by decide +kernel) wS_move (tS_move (d := d) (x1 := x1) (c := p53) (v := p54) e54) rfl rfl (by omega) ⟨Nat.le_refl _, Nat.le_refl _⟩ (Nat.le_of_ble_eq_true rfl) ?_
          rintro _ _ ⟨rfl, rfl⟩
          refine ab_go 4 [] (pc' := 110) (lo' := [some (.ref 8), some (.int x1)]) (st' := [.ref 22]) (h' := cs_H p54 rest) ckS_makeTick rfl ?_
          refine ab_callV (bc2 := 0) (bs2 := 0) (as := []) (rest := []) ckS_makeTick rfl (by decide +kernel) wO_countTick (tO_countTick (d := d + 4) (c := p54)) rfl rfl (by omega) ⟨Nat.le_refl _, Nat.le_refl _⟩ (Nat.le_of_ble_eq_true rfl) ?_
          rintro _ _ ⟨rfl, rfl⟩
          generalize e55 : fO_countTick p54 = p55
          refine ab_go 3 [] (pc' := 114) (lo' := [some (.ref 8), some (.int x1)]) (st' := [.ref 8]) (h' := cs_H p55 rest) ckS_makeTick rfl ?_
          rcases e56 : fS_sendOutWhenDue p55 with _ | p56
          · exact ab_no hv (by simp only [fS_makeTick, if_pos h1, e31, e32, ab_bd_s, e33, ab_bd_s, e34, if_neg h7, e48, ab_bd_s, if_neg h10, if_pos h11, e53, ab_bd_s, e54, ab_bd_s, e55, e56, ab_bd_n])
          refine ab_callV (bc2 := 0) (bs2 := 0) (as := []) (rest := []) ckS_makeTick rfl (by decide +kernel) wS_sendOutWhenDue (tS_sendOutWhenDue (d := d) (c := p55) hX (v := p56) e56) rfl rfl (by omega) ⟨Nat.le_refl _, Nat.le_refl _⟩ (Nat.le_of_ble_eq_true rfl) ?_
          rintro _ _ ⟨rfl, rfl⟩
          have e : fS_makeTick c x1 = some p56 := by simp only [fS_makeTick, if_pos h1, e31, e32, ab_bd_s, e33, ab_bd_s, e34, if_neg h7, e48, ab_bd_s, if_neg h10, if_pos h11, e53, ab_bd_s, e54, ab_bd_s, e55, e56, ab_bd_s]
          obtain rfl := Option.some.inj (e.symm.trans hv)
          exact ab_vret ckS_makeTick rfl rfl ⟨rfl, rfl⟩
        · refine ab_go 4 [] (pc' := 94) (lo' := [some (.ref 8), some (.int x1)]) (st' := [.int (34321 : Int32), .ref 8]) (h' := cs_H p48 rest) ckS_makeTick rfl ?_
          rcases e57 : fS_fault p48 (34321 : Int32) with _ | p57
          · exact ab_no hv (by simp only [fS_makeTick, if_pos h1, e31, e32, ab_bd_s, e33, ab_bd_s, e34, if_neg h7, e48, ab_bd_s, if_neg h10, if_neg h11, e57, ab_bd_n])
          refine ab_callV (bc2 := 0) (bs2 := 0) (as := [_]) (rest := []) ckS_makeTick rfl (by decide +kernel) wS_fault (tS_fault (d := d + 2) (x1 := (34321 : Int32)) (c := p48) (v := p57) e57) rfl rfl (by omega) ⟨Nat.le_refl _, Nat.le_refl _⟩ (Nat.le_of_ble_eq_true rfl) ?_
          rintro _ _ ⟨rfl, rfl⟩
          refine ab_go 3 [] (pc' := 98) (lo' := [some (.ref 8), some (.int x1)]) (st' := [.ref 8]) (h' := cs_H p57 rest) ckS_makeTick rfl ?_
          rcases e58 : fS_obeyControl p57 with _ | p58
          · exact ab_no hv (by simp only [fS_makeTick, if_pos h1, e31, e32, ab_bd_s, e33, ab_bd_s, e34, if_neg h7, e48, ab_bd_s, if_neg h10, if_neg h11, e57, ab_bd_s, e58, ab_bd_n])
          refine ab_callV (bc2 := 0) (bs2 := 0) (as := []) (rest := []) ckS_makeTick rfl (by decide +kernel) wS_obeyControl (tS_obeyControl (d := d + 1) (c := p57) (v := p58) e58) rfl rfl (by omega) ⟨Nat.le_refl _, Nat.le_refl _⟩ (Nat.le_of_ble_eq_true rfl) ?_
          rintro _ _ ⟨rfl, rfl⟩
          refine ab_go 4 [] (pc' := 103) (lo' := [some (.ref 8), some (.int x1)]) (st' := [.int x1, .ref 8]) (h' := cs_H p58 rest) ckS_makeTick rfl ?_
          rcases e59 : fS_move p58 x1 with _ | p59
          · exact ab_no hv (by simp only [fS_makeTick, if_pos h1, e31, e32, ab_bd_s, e33, ab_bd_s, e34, if_neg h7, e48, ab_bd_s, if_neg h10, if_neg h11, e57, ab_bd_s, e58, ab_bd_s, e59, ab_bd_n])
          refine ab_callV (bc2 := 0) (bs2 := 0) (as := [_]) (rest := []) ckS_makeTick rfl (by decide +kernel) wS_move (tS_move (d := d) (x1 := x1) (c := p58) (v := p59) e59) rfl rfl (by omega) ⟨Nat.le_refl _, Nat.le_refl _⟩ (Nat.le_of_ble_eq_true rfl) ?_
          rintro _ _ ⟨rfl, rfl⟩
          refine ab_go 4 [] (pc' := 110) (lo' := [some (.ref 8), some (.int x1)]) (st' := [.ref 22]) (h' := cs_H p59 rest) ckS_makeTick rfl ?_
          refine ab_callV (bc2 := 0) (bs2 := 0) (as := []) (rest := []) ckS_makeTick rfl (by decide +kernel) wO_countTick (tO_countTick (d := d + 4) (c := p59)) rfl rfl (by omega) ⟨Nat.le_refl _, Nat.le_refl _⟩ (Nat.le_of_ble_eq_true rfl) ?_
          rintro _ _ ⟨rfl, rfl⟩
          generalize e60 : fO_countTick p59 = p60
          refine ab_go 3 [] (pc' := 114) (lo' := [some (.ref 8), some (.int x1)]) (st' := [.ref 8]) (h' := cs_H p60 rest) ckS_makeTick rfl ?_
          rcases e61 : fS_sendOutWhenDue p60 with _ | p61
          · exact ab_no hv (by simp only [fS_makeTick, if_pos h1, e31, e32, ab_bd_s, e33, ab_bd_s, e34, if_neg h7, e48, ab_bd_s, if_neg h10, if_neg h11, e57, ab_bd_s, e58, ab_bd_s, e59, ab_bd_s, e60, e61, ab_bd_n])
          refine ab_callV (bc2 := 0) (bs2 := 0) (as := []) (rest := []) ckS_makeTick rfl (by decide +kernel) wS_sendOutWhenDue (tS_sendOutWhenDue (d := d) (c := p60) hX (v := p61) e61) rfl rfl (by omega) ⟨Nat.le_refl _, Nat.le_refl _⟩ (Nat.le_of_ble_eq_true rfl) ?_
          rintro _ _ ⟨rfl, rfl⟩
          have e : fS_makeTick c x1 = some p61 := by simp only [fS_makeTick, if_pos h1, e31, e32, ab_bd_s, e33, ab_bd_s, e34, if_neg h7, e48, ab_bd_s, if_neg h10, if_neg h11, e57, ab_bd_s, e58, ab_bd_s, e59, ab_bd_s, e60, e61, ab_bd_s]
          obtain rfl := Option.some.inj (e.symm.trans hv)
          exact ab_vret ckS_makeTick rfl rfl ⟨rfl, rfl⟩
def fS_write (c : cs_S) (x1 : Int32) (x2 : Int32) : Option (cs_S) := (if x1 = (1 : Int32) then (ab_bd (fT_beginSave c) (fun p1 => (some p1))) else (if x1 = (2 : Int32) then (ab_bd (fT_beginRestore c) (fun p2 => (some p2))) else (if x1 = (3 : Int32) then (let p3 := fH_disarm c; (if ab_inb x1 30 = true then (some (cs_u p3 1 (x1).toNatClampNeg x2)) else none)) else (if x1 = (4 : Int32) then (if ab_inb x1 30 = true then (some (cs_u (cs_u c 0 2 (0 : Int32)) 1 (x1).toNatClampNeg x2)) else none) else (if x1 = (5 : Int32) then (if ab_inb x1 30 = true then (some (cs_u c 1 (x1).toNatClampNeg x2)) else none) else (if x1 = (6 : Int32) then (if ab_inb x1 30 = true then (some (cs_u c 1 (x1).toNatClampNeg x2)) else none) else (if x1 = (7 : Int32) then (if ab_inb x1 30 = true then (some (cs_u c 1 (x1).toNatClampNeg x2)) else none) else (if x1 = (8 : Int32) then (if ab_inb x1 30 = true then (some (cs_u c 1 (x1).toNatClampNeg x2)) else none) else (if x1 = (9 : Int32) then (let p4 := fO_forgetSyncs c; (if ab_inb x1 30 = true then (some (cs_u p4 1 (x1).toNatClampNeg x2)) else none)) else (if ab_inb x1 30 = true then (some (cs_u c 1 (x1).toNatClampNeg x2)) else none))))))))))
theorem tS_write {x1 : Int32} {x2 : Int32} (hX : cs_X X) {v : cs_S} (hv : fS_write c x1 x2 = some v) : ab_M X mS_write (d + 2) 0 0 [.ref 8, .int x1, .int x2] (cs_H c rest) (fun r9 h9 => r9 = none ∧ h9 = cs_H v rest) := by
  refine ab_entry (by decide) (Nat.le_of_ble_eq_true rfl) ?_
  refine ab_go 3 [] (pc' := 1) (lo' := [some (.ref 8), some (.int x1), some (.int x2)]) (st' := [.int x1]) (h' := cs_H c rest) ckS_write rfl ?_
  by_cases h1 : x1 = (1 : Int32)
  · refine ab_tswI (tgt := 52) (off := 51) ckS_write rfl h1 (by decide) (by decide) rfl (by decide) ?_
    refine ab_go 6 [] (pc' := 60) (lo' := [some (.ref 8), some (.int x1), some (.int x2)]) (st' := [.ref 9, .ref 14]) (h' := cs_H c rest) ckS_write rfl ?_
    rcases e1 : fT_beginSave c with _ | p1
    · exact ab_no hv (by simp only [fS_write, if_pos h1, e1, ab_bd_n])
    refine ab_callV (bc2 := 0) (bs2 := 0) (as := [_]) (rest := []) ckS_write rfl (by decide +kernel) wT_beginSave (tT_beginSave (d := d) (c := c) hX (v := p1) e1) rfl rfl (by omega) ⟨Nat.le_refl _, Nat.le_refl _⟩ (Nat.le_of_ble_eq_true rfl) ?_
    rintro _ _ ⟨rfl, rfl⟩
    have e : fS_write c x1 x2 = some p1 := by simp only [fS_write, if_pos h1, e1, ab_bd_s]
    obtain rfl := Option.some.inj (e.symm.trans hv)
    exact ab_vret ckS_write rfl rfl ⟨rfl, rfl⟩
  by_cases h2 : x1 = (2 : Int32)
  · refine ab_tswI (tgt := 64) (off := 63) ckS_write rfl h2 (by decide) (by decide) rfl (by decide) ?_
    refine ab_go 4 [] (pc' := 68) (lo' := [some (.ref 8), some (.int x1), some (.int x2)]) (st' := [.ref 14]) (h' := cs_H c rest) ckS_write rfl ?_
    rcases e2 : fT_beginRestore c with _ | p2
    · exact ab_no hv (by simp only [fS_write, if_neg h1, if_pos h2, e2, ab_bd_n])
    refine ab_callV (bc2 := 0) (bs2 := 0) (as := []) (rest := []) ckS_write rfl (by decide +kernel) wT_beginRestore (tT_beginRestore (d := d) (c := c) hX (v := p2) e2) rfl rfl (by omega) ⟨Nat.le_refl _, Nat.le_refl _⟩ (Nat.le_of_ble_eq_true rfl) ?_
    rintro _ _ ⟨rfl, rfl⟩
    have e : fS_write c x1 x2 = some p2 := by simp only [fS_write, if_neg h1, if_pos h2, e2, ab_bd_s]
    obtain rfl := Option.some.inj (e.symm.trans hv)
    exact ab_vret ckS_write rfl rfl ⟨rfl, rfl⟩
  by_cases h3 : x1 = (3 : Int32)
  · refine ab_tswI (tgt := 72) (off := 71) ckS_write rfl h3 (by decide) (by decide) rfl (by decide) ?_
    refine ab_go 4 [] (pc' := 76) (lo' := [some (.ref 8), some (.int x1), some (.int x2)]) (st' := [.ref 21]) (h' := cs_H c rest) ckS_write rfl ?_
    refine ab_callV (bc2 := 0) (bs2 := 0) (as := []) (rest := []) ckS_write rfl (by decide +kernel) wH_disarm (tH_disarm (d := d + 1) (c := c)) rfl rfl (by omega) ⟨Nat.le_refl _, Nat.le_refl _⟩ (Nat.le_of_ble_eq_true rfl) ?_
    rintro _ _ ⟨rfl, rfl⟩
    generalize e3 : fH_disarm c = p3
    refine ab_go 7 [] (pc' := 106) (lo' := [some (.ref 8), some (.int x1), some (.int x2)]) (st' := [.int x2, .int x1, .ref 9]) (h' := cs_H p3 rest) ckS_write rfl ?_
    by_cases h4 : ab_inb x1 30 = true
    case neg => exact ab_no hv (by simp only [fS_write, if_neg h1, if_neg h2, if_pos h3, e3, if_neg h4])
    refine ab_iast ckS_write rfl rfl (ab_inb_ok h4) ?_
    have e : fS_write c x1 x2 = some (cs_u p3 1 (x1).toNatClampNeg x2) := by simp only [fS_write, if_neg h1, if_neg h2, if_pos h3, e3, if_pos h4]
    obtain rfl := Option.some.inj (e.symm.trans hv)
    exact ab_vret ckS_write rfl rfl ⟨rfl, rfl⟩
  by_cases h5 : x1 = (4 : Int32)
  · refine ab_tswI (tgt := 82) (off := 81) ckS_write rfl h5 (by decide) (by decide) rfl (by decide) ?_
    refine ab_go 10 [] (pc' := 106) (lo' := [some (.ref 8), some (.int x1), some (.int x2)]) (st' := [.int x2, .int x1, .ref 9]) (h' := cs_H (cs_u c 0 2 (0 : Int32)) rest) ckS_write rfl ?_
    by_cases h6 : ab_inb x1 30 = true
    case neg => exact ab_no hv (by simp only [fS_write, if_neg h1, if_neg h2, if_neg h3, if_pos h5, if_neg h6])
    refine ab_iast ckS_write rfl rfl (ab_inb_ok h6) ?_
    have e : fS_write c x1 x2 = some (cs_u (cs_u c 0 2 (0 : Int32)) 1 (x1).toNatClampNeg x2) := by simp only [fS_write, if_neg h1, if_neg h2, if_neg h3, if_pos h5, if_pos h6]
    obtain rfl := Option.some.inj (e.symm.trans hv)
    exact ab_vret ckS_write rfl rfl ⟨rfl, rfl⟩
  by_cases h7 : x1 = (5 : Int32)
  · refine ab_tswI (tgt := 100) (off := 99) ckS_write rfl h7 (by decide) (by decide) rfl (by decide) ?_
    refine ab_go 6 [] (pc' := 106) (lo' := [some (.ref 8), some (.int x1), some (.int x2)]) (st' := [.int x2, .int x1, .ref 9]) (h' := cs_H c rest) ckS_write rfl ?_
    by_cases h8 : ab_inb x1 30 = true
    case neg => exact ab_no hv (by simp only [fS_write, if_neg h1, if_neg h2, if_neg h3, if_neg h5, if_pos h7, if_neg h8])
    refine ab_iast ckS_write rfl rfl (ab_inb_ok h8) ?_
    have e : fS_write c x1 x2 = some (cs_u c 1 (x1).toNatClampNeg x2) := by simp only [fS_write, if_neg h1, if_neg h2, if_neg h3, if_neg h5, if_pos h7, if_pos h8]
    obtain rfl := Option.some.inj (e.symm.trans hv)
    exact ab_vret ckS_write rfl rfl ⟨rfl, rfl⟩
  by_cases h9 : x1 = (6 : Int32)
  · refine ab_tswI (tgt := 100) (off := 99) ckS_write rfl h9 (by decide) (by decide) rfl (by decide) ?_
    refine ab_go 6 [] (pc' := 106) (lo' := [some (.ref 8), some (.int x1), some (.int x2)]) (st' := [.int x2, .int x1, .ref 9]) (h' := cs_H c rest) ckS_write rfl ?_
    by_cases h10 : ab_inb x1 30 = true
    case neg => exact ab_no hv (by simp only [fS_write, if_neg h1, if_neg h2, if_neg h3, if_neg h5, if_neg h7, if_pos h9, if_neg h10])
    refine ab_iast ckS_write rfl rfl (ab_inb_ok h10) ?_
    have e : fS_write c x1 x2 = some (cs_u c 1 (x1).toNatClampNeg x2) := by simp only [fS_write, if_neg h1, if_neg h2, if_neg h3, if_neg h5, if_neg h7, if_pos h9, if_pos h10]
    obtain rfl := Option.some.inj (e.symm.trans hv)
    exact ab_vret ckS_write rfl rfl ⟨rfl, rfl⟩
  by_cases h11 : x1 = (7 : Int32)
  · refine ab_tswI (tgt := 100) (off := 99) ckS_write rfl h11 (by decide) (by decide) rfl (by decide) ?_
    refine ab_go 6 [] (pc' := 106) (lo' := [some (.ref 8), some (.int x1), some (.int x2)]) (st' := [.int x2, .int x1, .ref 9]) (h' := cs_H c rest) ckS_write rfl ?_
    by_cases h12 : ab_inb x1 30 = true
    case neg => exact ab_no hv (by simp only [fS_write, if_neg h1, if_neg h2, if_neg h3, if_neg h5, if_neg h7, if_neg h9, if_pos h11, if_neg h12])
    refine ab_iast ckS_write rfl rfl (ab_inb_ok h12) ?_
    have e : fS_write c x1 x2 = some (cs_u c 1 (x1).toNatClampNeg x2) := by simp only [fS_write, if_neg h1, if_neg h2, if_neg h3, if_neg h5, if_neg h7, if_neg h9, if_pos h11, if_pos h12]
    obtain rfl := Option.some.inj (e.symm.trans hv)
    exact ab_vret ckS_write rfl rfl ⟨rfl, rfl⟩
  by_cases h13 : x1 = (8 : Int32)
  · refine ab_tswI (tgt := 100) (off := 99) ckS_write rfl h13 (by decide) (by decide) rfl (by decide) ?_
    refine ab_go 6 [] (pc' := 106) (lo' := [some (.ref 8), some (.int x1), some (.int x2)]) (st' := [.int x2, .int x1, .ref 9]) (h' := cs_H c rest) ckS_write rfl ?_
    by_cases h14 : ab_inb x1 30 = true
    case neg => exact ab_no hv (by simp only [fS_write, if_neg h1, if_neg h2, if_neg h3, if_neg h5, if_neg h7, if_neg h9, if_neg h11, if_pos h13, if_neg h14])
    refine ab_iast ckS_write rfl rfl (ab_inb_ok h14) ?_
    have e : fS_write c x1 x2 = some (cs_u c 1 (x1).toNatClampNeg x2) := by simp only [fS_write, if_neg h1, if_neg h2, if_neg h3, if_neg h5, if_neg h7, if_neg h9, if_neg h11, if_pos h13, if_pos h14]
    obtain rfl := Option.some.inj (e.symm.trans hv)
    exact ab_vret ckS_write rfl rfl ⟨rfl, rfl⟩
  by_cases h15 : x1 = (9 : Int32)
  · refine ab_tswI (tgt := 90) (off := 89) ckS_write rfl h15 (by decide) (by decide) rfl (by decide) ?_
    refine ab_go 4 [] (pc' := 94) (lo' := [some (.ref 8), some (.int x1), some (.int x2)]) (st' := [.ref 22]) (h' := cs_H c rest) ckS_write rfl ?_
    refine ab_callV (bc2 := 0) (bs2 := 0) (as := []) (rest := []) ckS_write rfl (by decide +kernel) wO_forgetSyncs (tO_forgetSyncs (d := d + 1) (c := c)) rfl rfl (by omega) ⟨Nat.le_refl _, Nat.le_refl _⟩ (Nat.le_of_ble_eq_true rfl) ?_
    rintro _ _ ⟨rfl, rfl⟩
    generalize e4 : fO_forgetSyncs c = p4
    refine ab_go 7 [] (pc' := 106) (lo' := [some (.ref 8), some (.int x1), some (.int x2)]) (st' := [.int x2, .int x1, .ref 9]) (h' := cs_H p4 rest) ckS_write rfl ?_
    by_cases h16 : ab_inb x1 30 = true
    case neg => exact ab_no hv (by simp only [fS_write, if_neg h1, if_neg h2, if_neg h3, if_neg h5, if_neg h7, if_neg h9, if_neg h11, if_neg h13, if_pos h15, e4, if_neg h16])
    refine ab_iast ckS_write rfl rfl (ab_inb_ok h16) ?_
    have e : fS_write c x1 x2 = some (cs_u p4 1 (x1).toNatClampNeg x2) := by simp only [fS_write, if_neg h1, if_neg h2, if_neg h3, if_neg h5, if_neg h7, if_neg h9, if_neg h11, if_neg h13, if_pos h15, e4, if_pos h16]
    obtain rfl := Option.some.inj (e.symm.trans hv)
    exact ab_vret ckS_write rfl rfl ⟨rfl, rfl⟩
  refine ab_tswO (tgt := 100) ckS_write rfl (by have a0 := lv_neT h1 (show (1 : Int32).toInt = 1 by decide); have a1 := lv_neT h2 (show (2 : Int32).toInt = 2 by decide); have a2 := lv_neT h3 (show (3 : Int32).toInt = 3 by decide); have a3 := lv_neT h5 (show (4 : Int32).toInt = 4 by decide); have a4 := lv_neT h7 (show (5 : Int32).toInt = 5 by decide); have a5 := lv_neT h9 (show (6 : Int32).toInt = 6 by decide); have a6 := lv_neT h11 (show (7 : Int32).toInt = 7 by decide); have a7 := lv_neT h13 (show (8 : Int32).toInt = 8 by decide); have a8 := lv_neT h15 (show (9 : Int32).toInt = 9 by decide); omega) (by decide) ?_
  refine ab_go 6 [] (pc' := 106) (lo' := [some (.ref 8), some (.int x1), some (.int x2)]) (st' := [.int x2, .int x1, .ref 9]) (h' := cs_H c rest) ckS_write rfl ?_
  by_cases h17 : ab_inb x1 30 = true
  case neg => exact ab_no hv (by simp only [fS_write, if_neg h1, if_neg h2, if_neg h3, if_neg h5, if_neg h7, if_neg h9, if_neg h11, if_neg h13, if_neg h15, if_neg h17])
  refine ab_iast ckS_write rfl rfl (ab_inb_ok h17) ?_
  have e : fS_write c x1 x2 = some (cs_u c 1 (x1).toNatClampNeg x2) := by simp only [fS_write, if_neg h1, if_neg h2, if_neg h3, if_neg h5, if_neg h7, if_neg h9, if_neg h11, if_neg h13, if_neg h15, if_pos h17]
  obtain rfl := Option.some.inj (e.symm.trans hv)
  exact ab_vret ckS_write rfl rfl ⟨rfl, rfl⟩
def fS_refusalOfSave (c : cs_S) (x1 : Int32) (x2 : Int32) : Int32 := (if x1 = x2 then (if (fT_isBusy c) = 0 then (0 : Int32) else (134217762 : Int32)) else (134217760 : Int32))
theorem tS_refusalOfSave {x1 : Int32} {x2 : Int32} : ab_M X mS_refusalOfSave (d + 1) 0 0 [.ref 8, .int x1, .int x2] (cs_H c rest) (fun r9 h9 => r9 = some (Value.int (fS_refusalOfSave c x1 x2)) ∧ h9 = cs_H c rest) := by
  refine ab_entry (by decide) (Nat.le_of_ble_eq_true rfl) ?_
  refine ab_go 4 [] (pc' := 2) (lo' := [some (.ref 8), some (.int x1), some (.int x2)]) (st' := [.int x2, .int x1]) (h' := cs_H c rest) ckS_refusalOfSave rfl ?_
  refine ab_icmp_eq ckS_refusalOfSave rfl (fun (h1 : x1 = x2) => ?_) (fun (h1 : ¬ (x1 = x2)) => ?_)
  · refine ab_go 4 [] (pc' := 13) (lo' := [some (.ref 8), some (.int x1), some (.int x2)]) (st' := [.ref 14]) (h' := cs_H c rest) ckS_refusalOfSave rfl ?_
    refine ab_callV (bc2 := 0) (bs2 := 0) (as := []) (rest := []) ckS_refusalOfSave rfl (by decide +kernel) wT_isBusy (tT_isBusy (d := d) (c := c)) rfl rfl (by omega) ⟨Nat.le_refl _, Nat.le_refl _⟩ (Nat.le_of_ble_eq_true rfl) ?_
    rintro _ _ ⟨rfl, rfl⟩
    refine ab_if_eq ckS_refusalOfSave rfl (fun (h2 : (fT_isBusy c) = 0) => ?_) (fun (h2 : ¬ ((fT_isBusy c) = 0)) => ?_)
    · refine ab_go 3 [] (pc' := 26) (lo' := [some (.ref 8), some (.int x1), some (.int x2)]) (st' := [.int (0 : Int32)]) (h' := cs_H c rest) ckS_refusalOfSave rfl ?_
      have e : fS_refusalOfSave c x1 x2 = (0 : Int32) := by simp only [fS_refusalOfSave, if_pos h1, if_pos h2]
      exact ab_iret ckS_refusalOfSave rfl rfl ⟨(congrArg (fun q : Int32 => some (Value.int q)) e).symm, rfl⟩
    · refine ab_go 4 [] (pc' := 26) (lo' := [some (.ref 8), some (.int x1), some (.int x2)]) (st' := [.int (134217762 : Int32)]) (h' := cs_H c rest) ckS_refusalOfSave rfl ?_
      have e : fS_refusalOfSave c x1 x2 = (134217762 : Int32) := by simp only [fS_refusalOfSave, if_pos h1, if_neg h2]
      exact ab_iret ckS_refusalOfSave rfl rfl ⟨(congrArg (fun q : Int32 => some (Value.int q)) e).symm, rfl⟩
  · refine ab_go 3 [] (pc' := 8) (lo' := [some (.ref 8), some (.int x1), some (.int x2)]) (st' := [.int (134217760 : Int32)]) (h' := cs_H c rest) ckS_refusalOfSave rfl ?_
    have e : fS_refusalOfSave c x1 x2 = (134217760 : Int32) := by simp only [fS_refusalOfSave, if_neg h1]
    exact ab_iret ckS_refusalOfSave rfl rfl ⟨(congrArg (fun q : Int32 => some (Value.int q)) e).symm, rfl⟩
def fS_isWrittenNow (c : cs_S) (x1 : Int32) : Option (Int32) := (ab_bd (fC_kind x1) (fun p1 => (if p1 = (3 : Int32) then (if (fP_isStageOn c) = 0 then (some (1 : Int32)) else (some (0 : Int32))) else (if p1 = (4 : Int32) then (if (c.1 0 1) = (127 : Int32) then (if (fC_isCount x1) = 0 then (if ab_inb (fC_countOf x1) 30 = true then (if (c.1 1 ((fC_countOf x1)).toNatClampNeg) = 0 then (some (1 : Int32)) else (some (0 : Int32))) else none) else (some (1 : Int32))) else (some (0 : Int32))) else (some (1 : Int32))))))
theorem tS_isWrittenNow {x1 : Int32} (hX : cs_X X) {v : Int32} (hv : fS_isWrittenNow c x1 = some v) : ab_M X mS_isWrittenNow (d + 1) 0 0 [.ref 8, .int x1] (cs_H c rest) (fun r9 h9 => r9 = some (Value.int v) ∧ h9 = cs_H c rest) := by
  refine ab_entry (by decide) (Nat.le_of_ble_eq_true rfl) ?_
  refine ab_go 3 [] (pc' := 1) (lo' := [some (.ref 8), some (.int x1)]) (st' := [.int x1]) (h' := cs_H c rest) ckS_isWrittenNow rfl ?_
  rcases e1 : fC_kind x1 with _ | p1
  · exact ab_no hv (by simp only [fS_isWrittenNow, e1, ab_bd_n])
  refine ab_callS (bc2 := 0) (bs2 := 0) (as := [_]) (rest := []) ckS_isWrittenNow rfl (by decide +kernel) wC_kind (tC_kind (d := d) (x1 := x1) hX (v := p1) e1) (by omega) ⟨Nat.le_refl _, Nat.le_refl _⟩ (Nat.le_of_ble_eq_true rfl) ?_
  rintro _ _ ⟨rfl, rfl⟩
  by_cases h1 : p1 = (3 : Int32)
  · refine ab_lsw (tgt := 32) (off := 28) ckS_isWrittenNow rfl (by decide) (by rw [h1]; decide) (by decide) ?_
    refine ab_go 4 [] (pc' := 36) (lo' := [some (.ref 8), some (.int x1)]) (st' := [.ref 19]) (h' := cs_H c rest) ckS_isWrittenNow rfl ?_
    refine ab_callV (bc2 := 0) (bs2 := 0) (as := []) (rest := []) ckS_isWrittenNow rfl (by decide +kernel) wP_isStageOn (tP_isStageOn (d := d) (c := c)) rfl rfl (by omega) ⟨Nat.le_refl _, Nat.le_refl _⟩ (Nat.le_of_ble_eq_true rfl) ?_
    rintro _ _ ⟨rfl, rfl⟩
    refine ab_if_ne ckS_isWrittenNow rfl (fun (h2 : ¬ ((fP_isStageOn c) = 0)) => ?_) (fun (h2 : (fP_isStageOn c) = 0) => ?_)
    · refine ab_go 3 [] (pc' := 47) (lo' := [some (.ref 8), some (.int x1)]) (st' := [.int (0 : Int32)]) (h' := cs_H c rest) ckS_isWrittenNow rfl ?_
      have e : fS_isWrittenNow c x1 = some (0 : Int32) := by simp only [fS_isWrittenNow, e1, ab_bd_s, if_pos h1, if_neg h2]
      obtain rfl := Option.some.inj (e.symm.trans hv)
      exact ab_zret ckS_isWrittenNow rfl rfl (Or.inl rfl) ⟨rfl, rfl⟩
    · refine ab_go 4 [] (pc' := 47) (lo' := [some (.ref 8), some (.int x1)]) (st' := [.int (1 : Int32)]) (h' := cs_H c rest) ckS_isWrittenNow rfl ?_
      have e : fS_isWrittenNow c x1 = some (1 : Int32) := by simp only [fS_isWrittenNow, e1, ab_bd_s, if_pos h1, if_pos h2]
      obtain rfl := Option.some.inj (e.symm.trans hv)
      exact ab_zret ckS_isWrittenNow rfl rfl (Or.inr rfl) ⟨rfl, rfl⟩
  by_cases h3 : p1 = (4 : Int32)
  · refine ab_lsw (tgt := 48) (off := 44) ckS_isWrittenNow rfl (by decide) (by rw [h3]; decide) (by decide) ?_
    refine ab_go 5 [] (pc' := 54) (lo' := [some (.ref 8), some (.int x1)]) (st' := [.int (127 : Int32), .int (c.1 0 1)]) (h' := cs_H c rest) ckS_isWrittenNow rfl ?_
    refine ab_icmp_ne ckS_isWrittenNow rfl (fun (h4 : ¬ ((c.1 0 1) = (127 : Int32))) => ?_) (fun (h4 : (c.1 0 1) = (127 : Int32)) => ?_)
    · refine ab_go 3 [] (pc' := 81) (lo' := [some (.ref 8), some (.int x1)]) (st' := [.int (0 : Int32)]) (h' := cs_H c rest) ckS_isWrittenNow rfl ?_
      have e : fS_isWrittenNow c x1 = some (0 : Int32) := by simp only [fS_isWrittenNow, e1, ab_bd_s, if_neg h1, if_pos h3, if_neg h4]
      obtain rfl := Option.some.inj (e.symm.trans hv)
      exact ab_zret ckS_isWrittenNow rfl rfl (Or.inl rfl) ⟨rfl, rfl⟩
    · refine ab_go 3 [] (pc' := 58) (lo' := [some (.ref 8), some (.int x1)]) (st' := [.int x1]) (h' := cs_H c rest) ckS_isWrittenNow rfl ?_
      refine ab_callS (bc2 := 0) (bs2 := 0) (as := [_]) (rest := []) ckS_isWrittenNow rfl (by decide +kernel) wC_isCount (tC_isCount (d := d) (x1 := x1)) (by omega) ⟨Nat.le_refl _, Nat.le_refl _⟩ (Nat.le_of_ble_eq_true rfl) ?_
      rintro _ _ ⟨rfl, rfl⟩
      refine ab_if_ne ckS_isWrittenNow rfl (fun (h5 : ¬ ((fC_isCount x1) = 0)) => ?_) (fun (h5 : (fC_isCount x1) = 0) => ?_)
      · refine ab_go 4 [] (pc' := 81) (lo' := [some (.ref 8), some (.int x1)]) (st' := [.int (1 : Int32)]) (h' := cs_H c rest) ckS_isWrittenNow rfl ?_
        have e : fS_isWrittenNow c x1 = some (1 : Int32) := by simp only [fS_isWrittenNow, e1, ab_bd_s, if_neg h1, if_pos h3, if_pos h4, if_neg h5]
        obtain rfl := Option.some.inj (e.symm.trans hv)
        exact ab_zret ckS_isWrittenNow rfl rfl (Or.inr rfl) ⟨rfl, rfl⟩
      · refine ab_go 5 [] (pc' := 69) (lo' := [some (.ref 8), some (.int x1)]) (st' := [.int x1, .ref 9]) (h' := cs_H c rest) ckS_isWrittenNow rfl ?_
        refine ab_callS (bc2 := 0) (bs2 := 0) (as := [_]) (rest := [_]) ckS_isWrittenNow rfl (by decide +kernel) wC_countOf (tC_countOf (d := d) (x1 := x1)) (by omega) ⟨Nat.le_refl _, Nat.le_refl _⟩ (Nat.le_of_ble_eq_true rfl) ?_
        rintro _ _ ⟨rfl, rfl⟩
        by_cases h6 : ab_inb (fC_countOf x1) 30 = true
        case neg => exact ab_no hv (by simp only [fS_isWrittenNow, e1, ab_bd_s, if_neg h1, if_pos h3, if_pos h4, if_pos h5, if_neg h6])
        refine ab_iald ckS_isWrittenNow rfl rfl (ab_inb_ok h6) ?_
        refine ab_if_ne ckS_isWrittenNow rfl (fun (h7 : ¬ ((c.1 1 ((fC_countOf x1)).toNatClampNeg) = 0)) => ?_) (fun (h7 : (c.1 1 ((fC_countOf x1)).toNatClampNeg) = 0) => ?_)
        · refine ab_go 3 [] (pc' := 81) (lo' := [some (.ref 8), some (.int x1)]) (st' := [.int (0 : Int32)]) (h' := cs_H c rest) ckS_isWrittenNow rfl ?_
          have e : fS_isWrittenNow c x1 = some (0 : Int32) := by simp only [fS_isWrittenNow, e1, ab_bd_s, if_neg h1, if_pos h3, if_pos h4, if_pos h5, if_pos h6, if_neg h7]
          obtain rfl := Option.some.inj (e.symm.trans hv)
          exact ab_zret ckS_isWrittenNow rfl rfl (Or.inl rfl) ⟨rfl, rfl⟩
        · refine ab_go 4 [] (pc' := 81) (lo' := [some (.ref 8), some (.int x1)]) (st' := [.int (1 : Int32)]) (h' := cs_H c rest) ckS_isWrittenNow rfl ?_
          have e : fS_isWrittenNow c x1 = some (1 : Int32) := by simp only [fS_isWrittenNow, e1, ab_bd_s, if_neg h1, if_pos h3, if_pos h4, if_pos h5, if_pos h6, if_pos h7]
          obtain rfl := Option.some.inj (e.symm.trans hv)
          exact ab_zret ckS_isWrittenNow rfl rfl (Or.inr rfl) ⟨rfl, rfl⟩
  refine ab_lsw (tgt := 82) ckS_isWrittenNow rfl (by decide) (off := 78) (by show Op.lookupswitch.offset [(3, 28), (4, 44)] 78 _ = _; rw [lv_osw h1 (by decide)]; rw [lv_osw h3 (by decide)]; rfl) (by decide) ?_
  refine ab_go 3 [] (pc' := 83) (lo' := [some (.ref 8), some (.int x1)]) (st' := [.int (1 : Int32)]) (h' := cs_H c rest) ckS_isWrittenNow rfl ?_
  have e : fS_isWrittenNow c x1 = some (1 : Int32) := by simp only [fS_isWrittenNow, e1, ab_bd_s, if_neg h1, if_neg h3]
  obtain rfl := Option.some.inj (e.symm.trans hv)
  exact ab_zret ckS_isWrittenNow rfl rfl (Or.inr rfl) ⟨rfl, rfl⟩
def fS_refusalOfWrite (c : cs_S) (x1 : Int32) (x2 : Int32) (x3 : Int32) : Option (Int32) := (ab_bd (fC_kind x1) (fun p1 => (if p1 = 0 then (some (100728834 : Int32)) else (ab_bd (fC_bytes x1) (fun p2 => (if x2 = p2 then (ab_bd (fS_isWrittenNow c x1) (fun p3 => (if p3 = 0 then (some (134217762 : Int32)) else (if x1 = (1 : Int32) then (some (fS_refusalOfSave c x3 (1702257011 : Int32))) else (if x1 = (2 : Int32) then (some (fS_refusalOfSave c x3 (1684107116 : Int32))) else (ab_bd (fN_refusalOfValue x1 x3) (fun p4 => (some p4)))))))) else (some (101122064 : Int32))))))))
theorem tS_refusalOfWrite {x1 : Int32} {x2 : Int32} {x3 : Int32} (hX : cs_X X) {v : Int32} (hv : fS_refusalOfWrite c x1 x2 x3 = some v) : ab_M X mS_refusalOfWrite (d + 2) 0 0 [.ref 8, .int x1, .int x2, .int x3] (cs_H c rest) (fun r9 h9 => r9 = some (Value.int v) ∧ h9 = cs_H c rest) := by
  refine ab_entry (by decide) (Nat.le_of_ble_eq_true rfl) ?_
  refine ab_go 3 [] (pc' := 1) (lo' := [some (.ref 8), some (.int x1), some (.int x2), some (.int x3)]) (st' := [.int x1]) (h' := cs_H c rest) ckS_refusalOfWrite rfl ?_
  rcases e1 : fC_kind x1 with _ | p1
  · exact ab_no hv (by simp only [fS_refusalOfWrite, e1, ab_bd_n])
  refine ab_callS (bc2 := 0) (bs2 := 0) (as := [_]) (rest := []) ckS_refusalOfWrite rfl (by decide +kernel) wC_kind (tC_kind (d := d + 1) (x1 := x1) hX (v := p1) e1) (by omega) ⟨Nat.le_refl _, Nat.le_refl _⟩ (Nat.le_of_ble_eq_true rfl) ?_
  rintro _ _ ⟨rfl, rfl⟩
  refine ab_if_ne ckS_refusalOfWrite rfl (fun (h1 : ¬ (p1 = 0)) => ?_) (fun (h1 : p1 = 0) => ?_)
  · refine ab_go 4 [] (pc' := 12) (lo' := [some (.ref 8), some (.int x1), some (.int x2), some (.int x3)]) (st' := [.int x1, .int x2]) (h' := cs_H c rest) ckS_refusalOfWrite rfl ?_
    rcases e2 : fC_bytes x1 with _ | p2
    · exact ab_no hv (by simp only [fS_refusalOfWrite, e1, ab_bd_s, if_neg h1, e2, ab_bd_n])
    refine ab_callS (bc2 := 0) (bs2 := 0) (as := [_]) (rest := [_]) ckS_refusalOfWrite rfl (by decide +kernel) wC_bytes (tC_bytes (d := d + 1) (x1 := x1) hX (v := p2) e2) (by omega) ⟨Nat.le_refl _, Nat.le_refl _⟩ (Nat.le_of_ble_eq_true rfl) ?_
    rintro _ _ ⟨rfl, rfl⟩
    refine ab_icmp_eq ckS_refusalOfWrite rfl (fun (h2 : x2 = p2) => ?_) (fun (h2 : ¬ (x2 = p2)) => ?_)
    · refine ab_go 4 [] (pc' := 23) (lo' := [some (.ref 8), some (.int x1), some (.int x2), some (.int x3)]) (st' := [.int x1, .ref 8]) (h' := cs_H c rest) ckS_refusalOfWrite rfl ?_
      rcases e3 : fS_isWrittenNow c x1 with _ | p3
      · exact ab_no hv (by simp only [fS_refusalOfWrite, e1, ab_bd_s, if_neg h1, e2, ab_bd_s, if_pos h2, e3, ab_bd_n])
      refine ab_callV (bc2 := 0) (bs2 := 0) (as := [_]) (rest := []) ckS_refusalOfWrite rfl (by decide +kernel) wS_isWrittenNow (tS_isWrittenNow (d := d) (x1 := x1) (c := c) hX (v := p3) e3) rfl rfl (by omega) ⟨Nat.le_refl _, Nat.le_refl _⟩ (Nat.le_of_ble_eq_true rfl) ?_
      rintro _ _ ⟨rfl, rfl⟩
      refine ab_if_ne ckS_refusalOfWrite rfl (fun (h3 : ¬ (p3 = 0)) => ?_) (fun (h3 : p3 = 0) => ?_)
      · refine ab_go 4 [] (pc' := 35) (lo' := [some (.ref 8), some (.int x1), some (.int x2), some (.int x3)]) (st' := [.int (1 : Int32), .int x1]) (h' := cs_H c rest) ckS_refusalOfWrite rfl ?_
        refine ab_icmp_ne ckS_refusalOfWrite rfl (fun (h4 : ¬ (x1 = (1 : Int32))) => ?_) (fun (h4 : x1 = (1 : Int32)) => ?_)
        · refine ab_go 4 [] (pc' := 49) (lo' := [some (.ref 8), some (.int x1), some (.int x2), some (.int x3)]) (st' := [.int (2 : Int32), .int x1]) (h' := cs_H c rest) ckS_refusalOfWrite rfl ?_
          refine ab_icmp_ne ckS_refusalOfWrite rfl (fun (h5 : ¬ (x1 = (2 : Int32))) => ?_) (fun (h5 : x1 = (2 : Int32)) => ?_)
          · refine ab_go 4 [] (pc' := 63) (lo' := [some (.ref 8), some (.int x1), some (.int x2), some (.int x3)]) (st' := [.int x3, .int x1]) (h' := cs_H c rest) ckS_refusalOfWrite rfl ?_
            rcases e4 : fN_refusalOfValue x1 x3 with _ | p4
            · exact ab_no hv (by simp only [fS_refusalOfWrite, e1, ab_bd_s, if_neg h1, e2, ab_bd_s, if_pos h2, e3, ab_bd_s, if_neg h3, if_neg h4, if_neg h5, e4, ab_bd_n])
            refine ab_callS (bc2 := 0) (bs2 := 0) (as := [_, _]) (rest := []) ckS_refusalOfWrite rfl (by decide +kernel) wN_refusalOfValue (tN_refusalOfValue (d := d) (x1 := x1) (x2 := x3) hX (v := p4) e4) (by omega) ⟨Nat.le_refl _, Nat.le_refl _⟩ (Nat.le_of_ble_eq_true rfl) ?_
            rintro _ _ ⟨rfl, rfl⟩
            have e : fS_refusalOfWrite c x1 x2 x3 = some p4 := by simp only [fS_refusalOfWrite, e1, ab_bd_s, if_neg h1, e2, ab_bd_s, if_pos h2, e3, ab_bd_s, if_neg h3, if_neg h4, if_neg h5, e4, ab_bd_s]
            obtain rfl := Option.some.inj (e.symm.trans hv)
            exact ab_iret ckS_refusalOfWrite rfl rfl ⟨rfl, rfl⟩
          · refine ab_go 5 [] (pc' := 57) (lo' := [some (.ref 8), some (.int x1), some (.int x2), some (.int x3)]) (st' := [.int (1684107116 : Int32), .int x3, .ref 8]) (h' := cs_H c rest) ckS_refusalOfWrite rfl ?_
            refine ab_callV (bc2 := 0) (bs2 := 0) (as := [_, _]) (rest := []) ckS_refusalOfWrite rfl (by decide +kernel) wS_refusalOfSave (tS_refusalOfSave (d := d) (x1 := x3) (x2 := (1684107116 : Int32)) (c := c)) rfl rfl (by omega) ⟨Nat.le_refl _, Nat.le_refl _⟩ (Nat.le_of_ble_eq_true rfl) ?_
            rintro _ _ ⟨rfl, rfl⟩
            have e : fS_refusalOfWrite c x1 x2 x3 = some (fS_refusalOfSave c x3 (1684107116 : Int32)) := by simp only [fS_refusalOfWrite, e1, ab_bd_s, if_neg h1, e2, ab_bd_s, if_pos h2, e3, ab_bd_s, if_neg h3, if_neg h4, if_pos h5]
            obtain rfl := Option.some.inj (e.symm.trans hv)
            exact ab_iret ckS_refusalOfWrite rfl rfl ⟨rfl, rfl⟩
        · refine ab_go 5 [] (pc' := 43) (lo' := [some (.ref 8), some (.int x1), some (.int x2), some (.int x3)]) (st' := [.int (1702257011 : Int32), .int x3, .ref 8]) (h' := cs_H c rest) ckS_refusalOfWrite rfl ?_
          refine ab_callV (bc2 := 0) (bs2 := 0) (as := [_, _]) (rest := []) ckS_refusalOfWrite rfl (by decide +kernel) wS_refusalOfSave (tS_refusalOfSave (d := d) (x1 := x3) (x2 := (1702257011 : Int32)) (c := c)) rfl rfl (by omega) ⟨Nat.le_refl _, Nat.le_refl _⟩ (Nat.le_of_ble_eq_true rfl) ?_
          rintro _ _ ⟨rfl, rfl⟩
          have e : fS_refusalOfWrite c x1 x2 x3 = some (fS_refusalOfSave c x3 (1702257011 : Int32)) := by simp only [fS_refusalOfWrite, e1, ab_bd_s, if_neg h1, e2, ab_bd_s, if_pos h2, e3, ab_bd_s, if_neg h3, if_pos h4]
          obtain rfl := Option.some.inj (e.symm.trans hv)
          exact ab_iret ckS_refusalOfWrite rfl rfl ⟨rfl, rfl⟩
      · refine ab_go 3 [] (pc' := 32) (lo' := [some (.ref 8), some (.int x1), some (.int x2), some (.int x3)]) (st' := [.int (134217762 : Int32)]) (h' := cs_H c rest) ckS_refusalOfWrite rfl ?_
        have e : fS_refusalOfWrite c x1 x2 x3 = some (134217762 : Int32) := by simp only [fS_refusalOfWrite, e1, ab_bd_s, if_neg h1, e2, ab_bd_s, if_pos h2, e3, ab_bd_s, if_pos h3]
        obtain rfl := Option.some.inj (e.symm.trans hv)
        exact ab_iret ckS_refusalOfWrite rfl rfl ⟨rfl, rfl⟩
    · refine ab_go 3 [] (pc' := 20) (lo' := [some (.ref 8), some (.int x1), some (.int x2), some (.int x3)]) (st' := [.int (101122064 : Int32)]) (h' := cs_H c rest) ckS_refusalOfWrite rfl ?_
      have e : fS_refusalOfWrite c x1 x2 x3 = some (101122064 : Int32) := by simp only [fS_refusalOfWrite, e1, ab_bd_s, if_neg h1, e2, ab_bd_s, if_neg h2]
      obtain rfl := Option.some.inj (e.symm.trans hv)
      exact ab_iret ckS_refusalOfWrite rfl rfl ⟨rfl, rfl⟩
  · refine ab_go 3 [] (pc' := 9) (lo' := [some (.ref 8), some (.int x1), some (.int x2), some (.int x3)]) (st' := [.int (100728834 : Int32)]) (h' := cs_H c rest) ckS_refusalOfWrite rfl ?_
    have e : fS_refusalOfWrite c x1 x2 x3 = some (100728834 : Int32) := by simp only [fS_refusalOfWrite, e1, ab_bd_s, if_pos h1]
    obtain rfl := Option.some.inj (e.symm.trans hv)
    exact ab_iret ckS_refusalOfWrite rfl rfl ⟨rfl, rfl⟩
def fS_sendAnswer (c : cs_S) (x1 : Int64) (x2 : Int32) (x3 : Int32) : Option (cs_S) := (ab_bd (fB_send c ((1408 : Int32) + (c.1 0 0)) (8 : Int32) (((x2).toInt64 ||| (x1 &&& (4294967040 : Int64))) ||| ((x3).toInt64 <<< (((32 : Int32)).toInt64 &&& 63)))) (fun p1 => (some p1)))
theorem tS_sendAnswer {x1 : Int64} {x2 : Int32} {x3 : Int32} {v : cs_S} (hv : fS_sendAnswer c x1 x2 x3 = some v) : ab_M X mS_sendAnswer (d + 1) 0 0 [.ref 8, .long x1, .int x2, .int x3] (cs_H c rest) (fun r9 h9 => r9 = none ∧ h9 = cs_H v rest) := by
  refine ab_entry (by decide) (Nat.le_of_ble_eq_true rfl) ?_
  refine ab_go 20 [] (pc' := 29) (lo' := [some (.ref 8), some (.long x1), none, some (.int x2), some (.int x3)]) (st' := [.long (((x2).toInt64 ||| (x1 &&& (4294967040 : Int64))) ||| ((x3).toInt64 <<< (((32 : Int32)).toInt64 &&& 63))), .int (8 : Int32), .int ((1408 : Int32) + (c.1 0 0)), .ref 10]) (h' := cs_H c rest) ckS_sendAnswer rfl ?_
  rcases e1 : fB_send c ((1408 : Int32) + (c.1 0 0)) (8 : Int32) (((x2).toInt64 ||| (x1 &&& (4294967040 : Int64))) ||| ((x3).toInt64 <<< (((32 : Int32)).toInt64 &&& 63))) with _ | p1
  · exact ab_no hv (by simp only [fS_sendAnswer, e1, ab_bd_n])
  refine ab_callV (bc2 := 0) (bs2 := 0) (as := [_, _, _]) (rest := []) ckS_sendAnswer rfl (by decide +kernel) wB_send (tB_send (d := d) (x1 := ((1408 : Int32) + (c.1 0 0))) (x2 := (8 : Int32)) (x3 := (((x2).toInt64 ||| (x1 &&& (4294967040 : Int64))) ||| ((x3).toInt64 <<< (((32 : Int32)).toInt64 &&& 63)))) (c := c) (v := p1) e1) rfl rfl (by omega) ⟨Nat.le_refl _, Nat.le_refl _⟩ (Nat.le_of_ble_eq_true rfl) ?_
  rintro _ _ ⟨rfl, rfl⟩
  have e : fS_sendAnswer c x1 x2 x3 = some p1 := by simp only [fS_sendAnswer, e1, ab_bd_s]
  obtain rfl := Option.some.inj (e.symm.trans hv)
  exact ab_vret ckS_sendAnswer rfl rfl ⟨rfl, rfl⟩
def fS_answerWrite (c : cs_S) (x1 : Int64) (x2 : Int32) (x3 : Int32) : Option (cs_S) := (ab_bd (fS_refusalOfWrite c x2 x3 (fG_number ((x1).toUInt64 >>> (((32 : Int32)).toInt64.toUInt64 &&& Int64.toUInt64 63)).toInt64 x3)) (fun p1 => (if p1 = 0 then (if (fC_isCount x2) = 0 then (ab_bd (fS_write c x2 (fG_number ((x1).toUInt64 >>> (((32 : Int32)).toInt64.toUInt64 &&& Int64.toUInt64 63)).toInt64 x3)) (fun p3 => (ab_bd (fS_sendAnswer p3 x1 (96 : Int32) (0 : Int32)) (fun p4 => (some p4))))) else (ab_bd (fG_refusalOfCount c x2 (fG_number ((x1).toUInt64 >>> (((32 : Int32)).toInt64.toUInt64 &&& Int64.toUInt64 63)).toInt64 x3)) (fun p5 => (if p5 = 0 then (ab_bd (fS_write c x2 (fG_number ((x1).toUInt64 >>> (((32 : Int32)).toInt64.toUInt64 &&& Int64.toUInt64 63)).toInt64 x3)) (fun p6 => (ab_bd (fS_sendAnswer p6 x1 (96 : Int32) (0 : Int32)) (fun p7 => (some p7))))) else (ab_bd (fS_sendAnswer c x1 (128 : Int32) p5) (fun p8 => (some p8))))))) else (ab_bd (fS_sendAnswer c x1 (128 : Int32) p1) (fun p2 => (some p2))))))
theorem tS_answerWrite {x1 : Int64} {x2 : Int32} {x3 : Int32} (hX : cs_X X) {v : cs_S} (hv : fS_answerWrite c x1 x2 x3 = some v) : ab_M X mS_answerWrite (d + 3) 0 0 [.ref 8, .long x1, .int x2, .int x3] (cs_H c rest) (fun r9 h9 => r9 = none ∧ h9 = cs_H v rest) := by
  refine ab_entry (by decide) (Nat.le_of_ble_eq_true rfl) ?_
  refine ab_go 6 [] (pc' := 6) (lo' := [some (.ref 8), some (.long x1), none, some (.int x2), some (.int x3), none, none]) (st' := [.int x3, .long ((x1).toUInt64 >>> (((32 : Int32)).toInt64.toUInt64 &&& Int64.toUInt64 63)).toInt64]) (h' := cs_H c rest) ckS_answerWrite rfl ?_
  refine ab_callS (bc2 := 0) (bs2 := 0) (as := [_, _]) (rest := []) ckS_answerWrite rfl (by decide +kernel) wG_number (tG_number (d := d + 2) (x1 := ((x1).toUInt64 >>> (((32 : Int32)).toInt64.toUInt64 &&& Int64.toUInt64 63)).toInt64) (x2 := x3)) (by omega) ⟨Nat.le_refl _, Nat.le_refl _⟩ (Nat.le_of_ble_eq_true rfl) ?_
  rintro _ _ ⟨rfl, rfl⟩
  refine ab_go 7 [] (pc' := 17) (lo' := [some (.ref 8), some (.long x1), none, some (.int x2), some (.int x3), some (.int (fG_number ((x1).toUInt64 >>> (((32 : Int32)).toInt64.toUInt64 &&& Int64.toUInt64 63)).toInt64 x3)), none]) (st' := [.int (fG_number ((x1).toUInt64 >>> (((32 : Int32)).toInt64.toUInt64 &&& Int64.toUInt64 63)).toInt64 x3), .int x3, .int x2, .ref 8]) (h' := cs_H c rest) ckS_answerWrite rfl ?_
  rcases e1 : fS_refusalOfWrite c x2 x3 (fG_number ((x1).toUInt64 >>> (((32 : Int32)).toInt64.toUInt64 &&& Int64.toUInt64 63)).toInt64 x3) with _ | p1
  · exact ab_no hv (by simp only [fS_answerWrite, e1, ab_bd_n])
  refine ab_callV (bc2 := 0) (bs2 := 0) (as := [_, _, _]) (rest := []) ckS_answerWrite rfl (by decide +kernel) wS_refusalOfWrite (tS_refusalOfWrite (d := d) (x1 := x2) (x2 := x3) (x3 := (fG_number ((x1).toUInt64 >>> (((32 : Int32)).toInt64.toUInt64 &&& Int64.toUInt64 63)).toInt64 x3)) (c := c) hX (v := p1) e1) rfl rfl (by omega) ⟨Nat.le_refl _, Nat.le_refl _⟩ (Nat.le_of_ble_eq_true rfl) ?_
  rintro _ _ ⟨rfl, rfl⟩
  refine ab_go 4 [] (pc' := 24) (lo' := [some (.ref 8), some (.long x1), none, some (.int x2), some (.int x3), some (.int (fG_number ((x1).toUInt64 >>> (((32 : Int32)).toInt64.toUInt64 &&& Int64.toUInt64 63)).toInt64 x3)), some (.int p1)]) (st' := [.int p1]) (h' := cs_H c rest) ckS_answerWrite rfl ?_
  refine ab_if_ne ckS_answerWrite rfl (fun (h1 : ¬ (p1 = 0)) => ?_) (fun (h1 : p1 = 0) => ?_)
  · refine ab_go 3 [] (pc' := 48) (lo' := [some (.ref 8), some (.long x1), none, some (.int x2), some (.int x3), some (.int (fG_number ((x1).toUInt64 >>> (((32 : Int32)).toInt64.toUInt64 &&& Int64.toUInt64 63)).toInt64 x3)), some (.int p1)]) (st' := [.int p1]) (h' := cs_H c rest) ckS_answerWrite rfl ?_
    refine ab_if_eq ckS_answerWrite rfl (fun hh => absurd hh h1) (fun _ => ?_)
    refine ab_go 6 [] (pc' := 58) (lo' := [some (.ref 8), some (.long x1), none, some (.int x2), some (.int x3), some (.int (fG_number ((x1).toUInt64 >>> (((32 : Int32)).toInt64.toUInt64 &&& Int64.toUInt64 63)).toInt64 x3)), some (.int p1)]) (st' := [.int p1, .int (128 : Int32), .long x1, .ref 8]) (h' := cs_H c rest) ckS_answerWrite rfl ?_
    rcases e2 : fS_sendAnswer c x1 (128 : Int32) p1 with _ | p2
    · exact ab_no hv (by simp only [fS_answerWrite, e1, ab_bd_s, if_neg h1, e2, ab_bd_n])
    refine ab_callV (bc2 := 0) (bs2 := 0) (as := [_, _, _]) (rest := []) ckS_answerWrite rfl (by decide +kernel) wS_sendAnswer (tS_sendAnswer (d := d + 1) (x1 := x1) (x2 := (128 : Int32)) (x3 := p1) (c := c) (v := p2) e2) rfl rfl (by omega) ⟨Nat.le_refl _, Nat.le_refl _⟩ (Nat.le_of_ble_eq_true rfl) ?_
    rintro _ _ ⟨rfl, rfl⟩
    have e : fS_answerWrite c x1 x2 x3 = some p2 := by simp only [fS_answerWrite, e1, ab_bd_s, if_neg h1, e2, ab_bd_s]
    obtain rfl := Option.some.inj (e.symm.trans hv)
    exact ab_vret ckS_answerWrite rfl rfl ⟨rfl, rfl⟩
  · refine ab_go 3 [] (pc' := 28) (lo' := [some (.ref 8), some (.long x1), none, some (.int x2), some (.int x3), some (.int (fG_number ((x1).toUInt64 >>> (((32 : Int32)).toInt64.toUInt64 &&& Int64.toUInt64 63)).toInt64 x3)), some (.int p1)]) (st' := [.int x2]) (h' := cs_H c rest) ckS_answerWrite rfl ?_
    refine ab_callS (bc2 := 0) (bs2 := 0) (as := [_]) (rest := []) ckS_answerWrite rfl (by decide +kernel) wC_isCount (tC_isCount (d := d + 2) (x1 := x2)) (by omega) ⟨Nat.le_refl _, Nat.le_refl _⟩ (Nat.le_of_ble_eq_true rfl) ?_
    rintro _ _ ⟨rfl, rfl⟩
    refine ab_if_eq ckS_answerWrite rfl (fun (h2 : (fC_isCount x2) = 0) => ?_) (fun (h2 : ¬ ((fC_isCount x2) = 0)) => ?_)
    · refine ab_go 3 [] (pc' := 48) (lo' := [some (.ref 8), some (.long x1), none, some (.int x2), some (.int x3), some (.int (fG_number ((x1).toUInt64 >>> (((32 : Int32)).toInt64.toUInt64 &&& Int64.toUInt64 63)).toInt64 x3)), some (.int p1)]) (st' := [.int p1]) (h' := cs_H c rest) ckS_answerWrite rfl ?_
      refine ab_if_eq ckS_answerWrite rfl (fun _ => ?_) (fun hh => absurd h1 hh)
      refine ab_go 5 [] (pc' := 66) (lo' := [some (.ref 8), some (.long x1), none, some (.int x2), some (.int x3), some (.int (fG_number ((x1).toUInt64 >>> (((32 : Int32)).toInt64.toUInt64 &&& Int64.toUInt64 63)).toInt64 x3)), some (.int p1)]) (st' := [.int (fG_number ((x1).toUInt64 >>> (((32 : Int32)).toInt64.toUInt64 &&& Int64.toUInt64 63)).toInt64 x3), .int x2, .ref 8]) (h' := cs_H c rest) ckS_answerWrite rfl ?_
      rcases e3 : fS_write c x2 (fG_number ((x1).toUInt64 >>> (((32 : Int32)).toInt64.toUInt64 &&& Int64.toUInt64 63)).toInt64 x3) with _ | p3
      · exact ab_no hv (by simp only [fS_answerWrite, e1, ab_bd_s, if_pos h1, if_pos h2, e3, ab_bd_n])
      refine ab_callV (bc2 := 0) (bs2 := 0) (as := [_, _]) (rest := []) ckS_answerWrite rfl (by decide +kernel) wS_write (tS_write (d := d) (x1 := x2) (x2 := (fG_number ((x1).toUInt64 >>> (((32 : Int32)).toInt64.toUInt64 &&& Int64.toUInt64 63)).toInt64 x3)) (c := c) hX (v := p3) e3) rfl rfl (by omega) ⟨Nat.le_refl _, Nat.le_refl _⟩ (Nat.le_of_ble_eq_true rfl) ?_
      rintro _ _ ⟨rfl, rfl⟩
      refine ab_go 6 [] (pc' := 74) (lo' := [some (.ref 8), some (.long x1), none, some (.int x2), some (.int x3), some (.int (fG_number ((x1).toUInt64 >>> (((32 : Int32)).toInt64.toUInt64 &&& Int64.toUInt64 63)).toInt64 x3)), some (.int p1)]) (st' := [.int (0 : Int32), .int (96 : Int32), .long x1, .ref 8]) (h' := cs_H p3 rest) ckS_answerWrite rfl ?_
      rcases e4 : fS_sendAnswer p3 x1 (96 : Int32) (0 : Int32) with _ | p4
      · exact ab_no hv (by simp only [fS_answerWrite, e1, ab_bd_s, if_pos h1, if_pos h2, e3, ab_bd_s, e4, ab_bd_n])
      refine ab_callV (bc2 := 0) (bs2 := 0) (as := [_, _, _]) (rest := []) ckS_answerWrite rfl (by decide +kernel) wS_sendAnswer (tS_sendAnswer (d := d + 1) (x1 := x1) (x2 := (96 : Int32)) (x3 := (0 : Int32)) (c := p3) (v := p4) e4) rfl rfl (by omega) ⟨Nat.le_refl _, Nat.le_refl _⟩ (Nat.le_of_ble_eq_true rfl) ?_
      rintro _ _ ⟨rfl, rfl⟩
      have e : fS_answerWrite c x1 x2 x3 = some p4 := by simp only [fS_answerWrite, e1, ab_bd_s, if_pos h1, if_pos h2, e3, ab_bd_s, e4, ab_bd_s]
      obtain rfl := Option.some.inj (e.symm.trans hv)
      exact ab_vret ckS_answerWrite rfl rfl ⟨rfl, rfl⟩
    · refine ab_go 6 [] (pc' := 41) (lo' := [some (.ref 8), some (.long x1), none, some (.int x2), some (.int x3), some (.int (fG_number ((x1).toUInt64 >>> (((32 : Int32)).toInt64.toUInt64 &&& Int64.toUInt64 63)).toInt64 x3)), some (.int p1)]) (st' := [.int (fG_number ((x1).toUInt64 >>> (((32 : Int32)).toInt64.toUInt64 &&& Int64.toUInt64 63)).toInt64 x3), .int x2, .ref 9]) (h' := cs_H c rest) ckS_answerWrite rfl ?_
      rcases e5 : fG_refusalOfCount c x2 (fG_number ((x1).toUInt64 >>> (((32 : Int32)).toInt64.toUInt64 &&& Int64.toUInt64 63)).toInt64 x3) with _ | p5
      · exact ab_no hv (by simp only [fS_answerWrite, e1, ab_bd_s, if_pos h1, if_neg h2, e5, ab_bd_n])
      refine ab_callS (bc2 := 0) (bs2 := 0) (as := [_, _, _]) (rest := []) ckS_answerWrite rfl (by decide +kernel) wG_refusalOfCount (tG_refusalOfCount (d := d) (x2 := x2) (x3 := (fG_number ((x1).toUInt64 >>> (((32 : Int32)).toInt64.toUInt64 &&& Int64.toUInt64 63)).toInt64 x3)) (c := c) hX (v := p5) e5) (by omega) ⟨Nat.le_refl _, Nat.le_refl _⟩ (Nat.le_of_ble_eq_true rfl) ?_
      rintro _ _ ⟨rfl, rfl⟩
      refine ab_go 4 [] (pc' := 48) (lo' := [some (.ref 8), some (.long x1), none, some (.int x2), some (.int x3), some (.int (fG_number ((x1).toUInt64 >>> (((32 : Int32)).toInt64.toUInt64 &&& Int64.toUInt64 63)).toInt64 x3)), some (.int p5)]) (st' := [.int p5]) (h' := cs_H c rest) ckS_answerWrite rfl ?_
      refine ab_if_eq ckS_answerWrite rfl (fun (h3 : p5 = 0) => ?_) (fun (h3 : ¬ (p5 = 0)) => ?_)
      · refine ab_go 5 [] (pc' := 66) (lo' := [some (.ref 8), some (.long x1), none, some (.int x2), some (.int x3), some (.int (fG_number ((x1).toUInt64 >>> (((32 : Int32)).toInt64.toUInt64 &&& Int64.toUInt64 63)).toInt64 x3)), some (.int p5)]) (st' := [.int (fG_number ((x1).toUInt64 >>> (((32 : Int32)).toInt64.toUInt64 &&& Int64.toUInt64 63)).toInt64 x3), .int x2, .ref 8]) (h' := cs_H c rest) ckS_answerWrite rfl ?_
        rcases e6 : fS_write c x2 (fG_number ((x1).toUInt64 >>> (((32 : Int32)).toInt64.toUInt64 &&& Int64.toUInt64 63)).toInt64 x3) with _ | p6
        · exact ab_no hv (by simp only [fS_answerWrite, e1, ab_bd_s, if_pos h1, if_neg h2, e5, ab_bd_s, if_pos h3, e6, ab_bd_n])
        refine ab_callV (bc2 := 0) (bs2 := 0) (as := [_, _]) (rest := []) ckS_answerWrite rfl (by decide +kernel) wS_write (tS_write (d := d) (x1 := x2) (x2 := (fG_number ((x1).toUInt64 >>> (((32 : Int32)).toInt64.toUInt64 &&& Int64.toUInt64 63)).toInt64 x3)) (c := c) hX (v := p6) e6) rfl rfl (by omega) ⟨Nat.le_refl _, Nat.le_refl _⟩ (Nat.le_of_ble_eq_true rfl) ?_
        rintro _ _ ⟨rfl, rfl⟩
        refine ab_go 6 [] (pc' := 74) (lo' := [some (.ref 8), some (.long x1), none, some (.int x2), some (.int x3), some (.int (fG_number ((x1).toUInt64 >>> (((32 : Int32)).toInt64.toUInt64 &&& Int64.toUInt64 63)).toInt64 x3)), some (.int p5)]) (st' := [.int (0 : Int32), .int (96 : Int32), .long x1, .ref 8]) (h' := cs_H p6 rest) ckS_answerWrite rfl ?_
        rcases e7 : fS_sendAnswer p6 x1 (96 : Int32) (0 : Int32) with _ | p7
        · exact ab_no hv (by simp only [fS_answerWrite, e1, ab_bd_s, if_pos h1, if_neg h2, e5, ab_bd_s, if_pos h3, e6, ab_bd_s, e7, ab_bd_n])
        refine ab_callV (bc2 := 0) (bs2 := 0) (as := [_, _, _]) (rest := []) ckS_answerWrite rfl (by decide +kernel) wS_sendAnswer (tS_sendAnswer (d := d + 1) (x1 := x1) (x2 := (96 : Int32)) (x3 := (0 : Int32)) (c := p6) (v := p7) e7) rfl rfl (by omega) ⟨Nat.le_refl _, Nat.le_refl _⟩ (Nat.le_of_ble_eq_true rfl) ?_
        rintro _ _ ⟨rfl, rfl⟩
        have e : fS_answerWrite c x1 x2 x3 = some p7 := by simp only [fS_answerWrite, e1, ab_bd_s, if_pos h1, if_neg h2, e5, ab_bd_s, if_pos h3, e6, ab_bd_s, e7, ab_bd_s]
        obtain rfl := Option.some.inj (e.symm.trans hv)
        exact ab_vret ckS_answerWrite rfl rfl ⟨rfl, rfl⟩
      · refine ab_go 6 [] (pc' := 58) (lo' := [some (.ref 8), some (.long x1), none, some (.int x2), some (.int x3), some (.int (fG_number ((x1).toUInt64 >>> (((32 : Int32)).toInt64.toUInt64 &&& Int64.toUInt64 63)).toInt64 x3)), some (.int p5)]) (st' := [.int p5, .int (128 : Int32), .long x1, .ref 8]) (h' := cs_H c rest) ckS_answerWrite rfl ?_
        rcases e8 : fS_sendAnswer c x1 (128 : Int32) p5 with _ | p8
        · exact ab_no hv (by simp only [fS_answerWrite, e1, ab_bd_s, if_pos h1, if_neg h2, e5, ab_bd_s, if_neg h3, e8, ab_bd_n])
        refine ab_callV (bc2 := 0) (bs2 := 0) (as := [_, _, _]) (rest := []) ckS_answerWrite rfl (by decide +kernel) wS_sendAnswer (tS_sendAnswer (d := d + 1) (x1 := x1) (x2 := (128 : Int32)) (x3 := p5) (c := c) (v := p8) e8) rfl rfl (by omega) ⟨Nat.le_refl _, Nat.le_refl _⟩ (Nat.le_of_ble_eq_true rfl) ?_
        rintro _ _ ⟨rfl, rfl⟩
        have e : fS_answerWrite c x1 x2 x3 = some p8 := by simp only [fS_answerWrite, e1, ab_bd_s, if_pos h1, if_neg h2, e5, ab_bd_s, if_neg h3, e8, ab_bd_s]
        obtain rfl := Option.some.inj (e.symm.trans hv)
        exact ab_vret ckS_answerWrite rfl rfl ⟨rfl, rfl⟩
def fS_answerRead (c : cs_S) (x1 : Int64) (x2 : Int32) : Option (cs_S) := (ab_bd (fC_kind x2) (fun p1 => (if p1 = (1 : Int32) then (ab_bd (fS_sendAnswer c x1 (128 : Int32) (100728833 : Int32)) (fun p5 => (some p5))) else (ab_bd (fS_refreshStatus c) (fun p2 => (ab_bd (fC_bytes x2) (fun p3 => (if ab_inb x2 30 = true then (ab_bd (fS_sendAnswer p2 x1 (fN_readAnswer p3) (p2.1 1 (x2).toNatClampNeg)) (fun p4 => (some p4))) else none))))))))
theorem tS_answerRead {x1 : Int64} {x2 : Int32} (hX : cs_X X) {v : cs_S} (hv : fS_answerRead c x1 x2 = some v) : ab_M X mS_answerRead (d + 4) 0 0 [.ref 8, .long x1, .int x2] (cs_H c rest) (fun r9 h9 => r9 = none ∧ h9 = cs_H v rest) := by
  refine ab_entry (by decide) (Nat.le_of_ble_eq_true rfl) ?_
  refine ab_go 3 [] (pc' := 1) (lo' := [some (.ref 8), some (.long x1), none, some (.int x2)]) (st' := [.int x2]) (h' := cs_H c rest) ckS_answerRead rfl ?_
  rcases e1 : fC_kind x2 with _ | p1
  · exact ab_no hv (by simp only [fS_answerRead, e1, ab_bd_n])
  refine ab_callS (bc2 := 0) (bs2 := 0) (as := [_]) (rest := []) ckS_answerRead rfl (by decide +kernel) wC_kind (tC_kind (d := d + 3) (x1 := x2) hX (v := p1) e1) (by omega) ⟨Nat.le_refl _, Nat.le_refl _⟩ (Nat.le_of_ble_eq_true rfl) ?_
  rintro _ _ ⟨rfl, rfl⟩
  refine ab_go 3 [] (pc' := 5) (lo' := [some (.ref 8), some (.long x1), none, some (.int x2)]) (st' := [.int (1 : Int32), .int p1]) (h' := cs_H c rest) ckS_answerRead rfl ?_
  refine ab_icmp_ne ckS_answerRead rfl (fun (h1 : ¬ (p1 = (1 : Int32))) => ?_) (fun (h1 : p1 = (1 : Int32)) => ?_)
  · refine ab_go 3 [] (pc' := 20) (lo' := [some (.ref 8), some (.long x1), none, some (.int x2)]) (st' := [.ref 8]) (h' := cs_H c rest) ckS_answerRead rfl ?_
    rcases e2 : fS_refreshStatus c with _ | p2
    · exact ab_no hv (by simp only [fS_answerRead, e1, ab_bd_s, if_neg h1, e2, ab_bd_n])
    refine ab_callV (bc2 := 0) (bs2 := 0) (as := []) (rest := []) ckS_answerRead rfl (by decide +kernel) wS_refreshStatus (tS_refreshStatus (d := d) (c := c) hX (v := p2) e2) rfl rfl (by omega) ⟨Nat.le_refl _, Nat.le_refl _⟩ (Nat.le_of_ble_eq_true rfl) ?_
    rintro _ _ ⟨rfl, rfl⟩
    refine ab_go 5 [] (pc' := 26) (lo' := [some (.ref 8), some (.long x1), none, some (.int x2)]) (st' := [.int x2, .long x1, .ref 8]) (h' := cs_H p2 rest) ckS_answerRead rfl ?_
    rcases e3 : fC_bytes x2 with _ | p3
    · exact ab_no hv (by simp only [fS_answerRead, e1, ab_bd_s, if_neg h1, e2, ab_bd_s, e3, ab_bd_n])
    refine ab_callS (bc2 := 0) (bs2 := 0) (as := [_]) (rest := [_, _]) ckS_answerRead rfl (by decide +kernel) wC_bytes (tC_bytes (d := d + 3) (x1 := x2) hX (v := p3) e3) (by omega) ⟨Nat.le_refl _, Nat.le_refl _⟩ (Nat.le_of_ble_eq_true rfl) ?_
    rintro _ _ ⟨rfl, rfl⟩
    refine ab_callS (bc2 := 0) (bs2 := 0) (as := [_]) (rest := [_, _]) ckS_answerRead rfl (by decide +kernel) wN_readAnswer (tN_readAnswer (d := d + 3) (x1 := p3)) (by omega) ⟨Nat.le_refl _, Nat.le_refl _⟩ (Nat.le_of_ble_eq_true rfl) ?_
    rintro _ _ ⟨rfl, rfl⟩
    refine ab_go 5 [] (pc' := 37) (lo' := [some (.ref 8), some (.long x1), none, some (.int x2)]) (st' := [.int x2, .ref 9, .int (fN_readAnswer p3), .long x1, .ref 8]) (h' := cs_H p2 rest) ckS_answerRead rfl ?_
    by_cases h2 : ab_inb x2 30 = true
    case neg => exact ab_no hv (by simp only [fS_answerRead, e1, ab_bd_s, if_neg h1, e2, ab_bd_s, e3, ab_bd_s, if_neg h2])
    refine ab_iald ckS_answerRead rfl rfl (ab_inb_ok h2) ?_
    rcases e4 : fS_sendAnswer p2 x1 (fN_readAnswer p3) (p2.1 1 (x2).toNatClampNeg) with _ | p4
    · exact ab_no hv (by simp only [fS_answerRead, e1, ab_bd_s, if_neg h1, e2, ab_bd_s, e3, ab_bd_s, if_pos h2, e4, ab_bd_n])
    refine ab_callV (bc2 := 0) (bs2 := 0) (as := [_, _, _]) (rest := []) ckS_answerRead rfl (by decide +kernel) wS_sendAnswer (tS_sendAnswer (d := d + 2) (x1 := x1) (x2 := (fN_readAnswer p3)) (x3 := (p2.1 1 (x2).toNatClampNeg)) (c := p2) (v := p4) e4) rfl rfl (by omega) ⟨Nat.le_refl _, Nat.le_refl _⟩ (Nat.le_of_ble_eq_true rfl) ?_
    rintro _ _ ⟨rfl, rfl⟩
    have e : fS_answerRead c x1 x2 = some p4 := by simp only [fS_answerRead, e1, ab_bd_s, if_neg h1, e2, ab_bd_s, e3, ab_bd_s, if_pos h2, e4, ab_bd_s]
    obtain rfl := Option.some.inj (e.symm.trans hv)
    exact ab_vret ckS_answerRead rfl rfl ⟨rfl, rfl⟩
  · refine ab_go 6 [] (pc' := 15) (lo' := [some (.ref 8), some (.long x1), none, some (.int x2)]) (st' := [.int (100728833 : Int32), .int (128 : Int32), .long x1, .ref 8]) (h' := cs_H c rest) ckS_answerRead rfl ?_
    rcases e5 : fS_sendAnswer c x1 (128 : Int32) (100728833 : Int32) with _ | p5
    · exact ab_no hv (by simp only [fS_answerRead, e1, ab_bd_s, if_pos h1, e5, ab_bd_n])
    refine ab_callV (bc2 := 0) (bs2 := 0) (as := [_, _, _]) (rest := []) ckS_answerRead rfl (by decide +kernel) wS_sendAnswer (tS_sendAnswer (d := d + 2) (x1 := x1) (x2 := (128 : Int32)) (x3 := (100728833 : Int32)) (c := c) (v := p5) e5) rfl rfl (by omega) ⟨Nat.le_refl _, Nat.le_refl _⟩ (Nat.le_of_ble_eq_true rfl) ?_
    rintro _ _ ⟨rfl, rfl⟩
    have e : fS_answerRead c x1 x2 = some p5 := by simp only [fS_answerRead, e1, ab_bd_s, if_pos h1, e5, ab_bd_s]
    obtain rfl := Option.some.inj (e.symm.trans hv)
    exact ab_vret ckS_answerRead rfl rfl ⟨rfl, rfl⟩
def fS_acceptChannel (c : cs_S) (x1 : Int32) (x2 : Int64) : Option (Int32 × cs_S) := (if x1 = (8 : Int32) then (if (c.1 0 1) = (4 : Int32) then (some ((0 : Int32), c)) else (if ((x2).toInt32 &&& (255 : Int32)) = (128 : Int32) then (some ((4 : Int32), c)) else (ab_bd (fC_find ((((x2).toUInt64 >>> (((8 : Int32)).toInt64.toUInt64 &&& Int64.toUInt64 63)).toInt64).toInt32 &&& (65535 : Int32)) ((((x2).toUInt64 >>> (((24 : Int32)).toInt64.toUInt64 &&& Int64.toUInt64 63)).toInt64).toInt32 &&& (255 : Int32))) (fun p1 => (ab_bd (fN_refusalOfAddress ((x2).toInt32 &&& (255 : Int32)) ((((x2).toUInt64 >>> (((8 : Int32)).toInt64.toUInt64 &&& Int64.toUInt64 63)).toInt64).toInt32 &&& (65535 : Int32)) p1) (fun p2 => (if p2 = 0 then (if p1 = (-1 : Int32) then (ab_bd (fS_sendAnswer c x2 (128 : Int32) p2) (fun p6 => (some ((4 : Int32), p6)))) else (if ((x2).toInt32 &&& (255 : Int32)) = (64 : Int32) then (ab_bd (fS_answerRead c x2 p1) (fun p5 => (some ((4 : Int32), p5)))) else (ab_bd (fS_answerWrite c x2 p1 (fN_bytesWritten ((x2).toInt32 &&& (255 : Int32)))) (fun p4 => (some ((4 : Int32), p4)))))) else (ab_bd (fS_sendAnswer c x2 (128 : Int32) p2) (fun p3 => (some ((4 : Int32), p3))))))))))) else (some ((0 : Int32), c)))
theorem tS_acceptChannel {x1 : Int32} {x2 : Int64} (hX : cs_X X) {v : Int32 × cs_S} (hv : fS_acceptChannel c x1 x2 = some v) : ab_M X mS_acceptChannel (d + 5) 0 0 [.ref 8, .int x1, .long x2] (cs_H c rest) (fun r9 h9 => r9 = some (Value.int v.1) ∧ h9 = cs_H v.2 rest) := by
  refine ab_entry (by decide) (Nat.le_of_ble_eq_true rfl) ?_
  refine ab_go 4 [] (pc' := 3) (lo' := [some (.ref 8), some (.int x1), some (.long x2), none, none, none, none, none, none]) (st' := [.int (8 : Int32), .int x1]) (h' := cs_H c rest) ckS_acceptChannel rfl ?_
  refine ab_icmp_ne ckS_acceptChannel rfl (fun (h1 : ¬ (x1 = (8 : Int32))) => ?_) (fun (h1 : x1 = (8 : Int32)) => ?_)
  · refine ab_go 3 [] (pc' := 15) (lo' := [some (.ref 8), some (.int x1), some (.long x2), none, none, none, none, none, none]) (st' := [.int (0 : Int32)]) (h' := cs_H c rest) ckS_acceptChannel rfl ?_
    have e : fS_acceptChannel c x1 x2 = some ((0 : Int32), c) := by simp only [fS_acceptChannel, if_neg h1]
    obtain rfl := Option.some.inj (e.symm.trans hv)
    exact ab_iret ckS_acceptChannel rfl rfl ⟨rfl, rfl⟩
  · refine ab_go 5 [] (pc' := 11) (lo' := [some (.ref 8), some (.int x1), some (.long x2), none, none, none, none, none, none]) (st' := [.int (4 : Int32), .int (c.1 0 1)]) (h' := cs_H c rest) ckS_acceptChannel rfl ?_
    refine ab_icmp_ne ckS_acceptChannel rfl (fun (h2 : ¬ ((c.1 0 1) = (4 : Int32))) => ?_) (fun (h2 : (c.1 0 1) = (4 : Int32)) => ?_)
    · refine ab_go 9 [] (pc' := 29) (lo' := [some (.ref 8), some (.int x1), some (.long x2), none, some (.int ((x2).toInt32 &&& (255 : Int32))), none, none, none, none]) (st' := [.int (128 : Int32), .int ((x2).toInt32 &&& (255 : Int32))]) (h' := cs_H c rest) ckS_acceptChannel rfl ?_
      refine ab_icmp_ne ckS_acceptChannel rfl (fun (h3 : ¬ (((x2).toInt32 &&& (255 : Int32)) = (128 : Int32))) => ?_) (fun (h3 : ((x2).toInt32 &&& (255 : Int32)) = (128 : Int32)) => ?_)
      · refine ab_go 18 [] (pc' := 59) (lo' := [some (.ref 8), some (.int x1), some (.long x2), none, some (.int ((x2).toInt32 &&& (255 : Int32))), some (.int ((((x2).toUInt64 >>> (((8 : Int32)).toInt64.toUInt64 &&& Int64.toUInt64 63)).toInt64).toInt32 &&& (65535 : Int32))), some (.int ((((x2).toUInt64 >>> (((24 : Int32)).toInt64.toUInt64 &&& Int64.toUInt64 63)).toInt64).toInt32 &&& (255 : Int32))), none, none]) (st' := [.int ((((x2).toUInt64 >>> (((24 : Int32)).toInt64.toUInt64 &&& Int64.toUInt64 63)).toInt64).toInt32 &&& (255 : Int32)), .int ((((x2).toUInt64 >>> (((8 : Int32)).toInt64.toUInt64 &&& Int64.toUInt64 63)).toInt64).toInt32 &&& (65535 : Int32))]) (h' := cs_H c rest) ckS_acceptChannel rfl ?_
        rcases e1 : fC_find ((((x2).toUInt64 >>> (((8 : Int32)).toInt64.toUInt64 &&& Int64.toUInt64 63)).toInt64).toInt32 &&& (65535 : Int32)) ((((x2).toUInt64 >>> (((24 : Int32)).toInt64.toUInt64 &&& Int64.toUInt64 63)).toInt64).toInt32 &&& (255 : Int32)) with _ | p1
        · exact ab_no hv (by simp only [fS_acceptChannel, if_pos h1, if_neg h2, if_neg h3, e1, ab_bd_n])
        refine ab_callS (bc2 := 0) (bs2 := 0) (as := [_, _]) (rest := []) ckS_acceptChannel rfl (by decide +kernel) wC_find (tC_find (d := d + 4) (x1 := ((((x2).toUInt64 >>> (((8 : Int32)).toInt64.toUInt64 &&& Int64.toUInt64 63)).toInt64).toInt32 &&& (65535 : Int32))) (x2 := ((((x2).toUInt64 >>> (((24 : Int32)).toInt64.toUInt64 &&& Int64.toUInt64 63)).toInt64).toInt32 &&& (255 : Int32))) hX (v := p1) e1) (by omega) ⟨Nat.le_refl _, Nat.le_refl _⟩ (Nat.le_of_ble_eq_true rfl) ?_
        rintro _ _ ⟨rfl, rfl⟩
        refine ab_go 6 [] (pc' := 70) (lo' := [some (.ref 8), some (.int x1), some (.long x2), none, some (.int ((x2).toInt32 &&& (255 : Int32))), some (.int ((((x2).toUInt64 >>> (((8 : Int32)).toInt64.toUInt64 &&& Int64.toUInt64 63)).toInt64).toInt32 &&& (65535 : Int32))), some (.int ((((x2).toUInt64 >>> (((24 : Int32)).toInt64.toUInt64 &&& Int64.toUInt64 63)).toInt64).toInt32 &&& (255 : Int32))), some (.int p1), none]) (st' := [.int p1, .int ((((x2).toUInt64 >>> (((8 : Int32)).toInt64.toUInt64 &&& Int64.toUInt64 63)).toInt64).toInt32 &&& (65535 : Int32)), .int ((x2).toInt32 &&& (255 : Int32))]) (h' := cs_H c rest) ckS_acceptChannel rfl ?_
        rcases e2 : fN_refusalOfAddress ((x2).toInt32 &&& (255 : Int32)) ((((x2).toUInt64 >>> (((8 : Int32)).toInt64.toUInt64 &&& Int64.toUInt64 63)).toInt64).toInt32 &&& (65535 : Int32)) p1 with _ | p2
        · exact ab_no hv (by simp only [fS_acceptChannel, if_pos h1, if_neg h2, if_neg h3, e1, ab_bd_s, e2, ab_bd_n])
        refine ab_callS (bc2 := 0) (bs2 := 0) (as := [_, _, _]) (rest := []) ckS_acceptChannel rfl (by decide +kernel) wN_refusalOfAddress (tN_refusalOfAddress (d := d + 3) (x1 := ((x2).toInt32 &&& (255 : Int32))) (x2 := ((((x2).toUInt64 >>> (((8 : Int32)).toInt64.toUInt64 &&& Int64.toUInt64 63)).toInt64).toInt32 &&& (65535 : Int32))) (x3 := p1) hX (v := p2) e2) (by omega) ⟨Nat.le_refl _, Nat.le_refl _⟩ (Nat.le_of_ble_eq_true rfl) ?_
        rintro _ _ ⟨rfl, rfl⟩
        refine ab_go 4 [] (pc' := 77) (lo' := [some (.ref 8), some (.int x1), some (.long x2), none, some (.int ((x2).toInt32 &&& (255 : Int32))), some (.int ((((x2).toUInt64 >>> (((8 : Int32)).toInt64.toUInt64 &&& Int64.toUInt64 63)).toInt64).toInt32 &&& (65535 : Int32))), some (.int ((((x2).toUInt64 >>> (((24 : Int32)).toInt64.toUInt64 &&& Int64.toUInt64 63)).toInt64).toInt32 &&& (255 : Int32))), some (.int p1), some (.int p2)]) (st' := [.int p2]) (h' := cs_H c rest) ckS_acceptChannel rfl ?_
        refine ab_if_ne ckS_acceptChannel rfl (fun (h4 : ¬ (p2 = 0)) => ?_) (fun (h4 : p2 = 0) => ?_)
        · refine ab_go 6 [] (pc' := 93) (lo' := [some (.ref 8), some (.int x1), some (.long x2), none, some (.int ((x2).toInt32 &&& (255 : Int32))), some (.int ((((x2).toUInt64 >>> (((8 : Int32)).toInt64.toUInt64 &&& Int64.toUInt64 63)).toInt64).toInt32 &&& (65535 : Int32))), some (.int ((((x2).toUInt64 >>> (((24 : Int32)).toInt64.toUInt64 &&& Int64.toUInt64 63)).toInt64).toInt32 &&& (255 : Int32))), some (.int p1), some (.int p2)]) (st' := [.int p2, .int (128 : Int32), .long x2, .ref 8]) (h' := cs_H c rest) ckS_acceptChannel rfl ?_
          rcases e3 : fS_sendAnswer c x2 (128 : Int32) p2 with _ | p3
          · exact ab_no hv (by simp only [fS_acceptChannel, if_pos h1, if_neg h2, if_neg h3, e1, ab_bd_s, e2, ab_bd_s, if_neg h4, e3, ab_bd_n])
          refine ab_callV (bc2 := 0) (bs2 := 0) (as := [_, _, _]) (rest := []) ckS_acceptChannel rfl (by decide +kernel) wS_sendAnswer (tS_sendAnswer (d := d + 3) (x1 := x2) (x2 := (128 : Int32)) (x3 := p2) (c := c) (v := p3) e3) rfl rfl (by omega) ⟨Nat.le_refl _, Nat.le_refl _⟩ (Nat.le_of_ble_eq_true rfl) ?_
          rintro _ _ ⟨rfl, rfl⟩
          refine ab_go 4 [] (pc' := 129) (lo' := [some (.ref 8), some (.int x1), some (.long x2), none, some (.int ((x2).toInt32 &&& (255 : Int32))), some (.int ((((x2).toUInt64 >>> (((8 : Int32)).toInt64.toUInt64 &&& Int64.toUInt64 63)).toInt64).toInt32 &&& (65535 : Int32))), some (.int ((((x2).toUInt64 >>> (((24 : Int32)).toInt64.toUInt64 &&& Int64.toUInt64 63)).toInt64).toInt32 &&& (255 : Int32))), some (.int p1), some (.int p2)]) (st' := [.int (4 : Int32)]) (h' := cs_H p3 rest) ckS_acceptChannel rfl ?_
          have e : fS_acceptChannel c x1 x2 = some ((4 : Int32), p3) := by simp only [fS_acceptChannel, if_pos h1, if_neg h2, if_neg h3, e1, ab_bd_s, e2, ab_bd_s, if_neg h4, e3, ab_bd_s]
          obtain rfl := Option.some.inj (e.symm.trans hv)
          exact ab_iret ckS_acceptChannel rfl rfl ⟨rfl, rfl⟩
        · refine ab_go 4 [] (pc' := 83) (lo' := [some (.ref 8), some (.int x1), some (.long x2), none, some (.int ((x2).toInt32 &&& (255 : Int32))), some (.int ((((x2).toUInt64 >>> (((8 : Int32)).toInt64.toUInt64 &&& Int64.toUInt64 63)).toInt64).toInt32 &&& (65535 : Int32))), some (.int ((((x2).toUInt64 >>> (((24 : Int32)).toInt64.toUInt64 &&& Int64.toUInt64 63)).toInt64).toInt32 &&& (255 : Int32))), some (.int p1), some (.int p2)]) (st' := [.int (-1 : Int32), .int p1]) (h' := cs_H c rest) ckS_acceptChannel rfl ?_
          refine ab_icmp_ne ckS_acceptChannel rfl (fun (h5 : ¬ (p1 = (-1 : Int32))) => ?_) (fun (h5 : p1 = (-1 : Int32)) => ?_)
          · refine ab_go 4 [] (pc' := 103) (lo' := [some (.ref 8), some (.int x1), some (.long x2), none, some (.int ((x2).toInt32 &&& (255 : Int32))), some (.int ((((x2).toUInt64 >>> (((8 : Int32)).toInt64.toUInt64 &&& Int64.toUInt64 63)).toInt64).toInt32 &&& (65535 : Int32))), some (.int ((((x2).toUInt64 >>> (((24 : Int32)).toInt64.toUInt64 &&& Int64.toUInt64 63)).toInt64).toInt32 &&& (255 : Int32))), some (.int p1), some (.int p2)]) (st' := [.int (64 : Int32), .int ((x2).toInt32 &&& (255 : Int32))]) (h' := cs_H c rest) ckS_acceptChannel rfl ?_
            refine ab_icmp_ne ckS_acceptChannel rfl (fun (h6 : ¬ (((x2).toInt32 &&& (255 : Int32)) = (64 : Int32))) => ?_) (fun (h6 : ((x2).toInt32 &&& (255 : Int32)) = (64 : Int32)) => ?_)
            · refine ab_go 6 [] (pc' := 122) (lo' := [some (.ref 8), some (.int x1), some (.long x2), none, some (.int ((x2).toInt32 &&& (255 : Int32))), some (.int ((((x2).toUInt64 >>> (((8 : Int32)).toInt64.toUInt64 &&& Int64.toUInt64 63)).toInt64).toInt32 &&& (65535 : Int32))), some (.int ((((x2).toUInt64 >>> (((24 : Int32)).toInt64.toUInt64 &&& Int64.toUInt64 63)).toInt64).toInt32 &&& (255 : Int32))), some (.int p1), some (.int p2)]) (st' := [.int ((x2).toInt32 &&& (255 : Int32)), .int p1, .long x2, .ref 8]) (h' := cs_H c rest) ckS_acceptChannel rfl ?_
              refine ab_callS (bc2 := 0) (bs2 := 0) (as := [_]) (rest := [_, _, _]) ckS_acceptChannel rfl (by decide +kernel) wN_bytesWritten (tN_bytesWritten (d := d + 4) (x1 := ((x2).toInt32 &&& (255 : Int32)))) (by omega) ⟨Nat.le_refl _, Nat.le_refl _⟩ (Nat.le_of_ble_eq_true rfl) ?_
              rintro _ _ ⟨rfl, rfl⟩
              rcases e4 : fS_answerWrite c x2 p1 (fN_bytesWritten ((x2).toInt32 &&& (255 : Int32))) with _ | p4
              · exact ab_no hv (by simp only [fS_acceptChannel, if_pos h1, if_neg h2, if_neg h3, e1, ab_bd_s, e2, ab_bd_s, if_pos h4, if_neg h5, if_neg h6, e4, ab_bd_n])
              refine ab_callV (bc2 := 0) (bs2 := 0) (as := [_, _, _]) (rest := []) ckS_acceptChannel rfl (by decide +kernel) wS_answerWrite (tS_answerWrite (d := d + 1) (x1 := x2) (x2 := p1) (x3 := (fN_bytesWritten ((x2).toInt32 &&& (255 : Int32)))) (c := c) hX (v := p4) e4) rfl rfl (by omega) ⟨Nat.le_refl _, Nat.le_refl _⟩ (Nat.le_of_ble_eq_true rfl) ?_
              rintro _ _ ⟨rfl, rfl⟩
              refine ab_go 3 [] (pc' := 129) (lo' := [some (.ref 8), some (.int x1), some (.long x2), none, some (.int ((x2).toInt32 &&& (255 : Int32))), some (.int ((((x2).toUInt64 >>> (((8 : Int32)).toInt64.toUInt64 &&& Int64.toUInt64 63)).toInt64).toInt32 &&& (65535 : Int32))), some (.int ((((x2).toUInt64 >>> (((24 : Int32)).toInt64.toUInt64 &&& Int64.toUInt64 63)).toInt64).toInt32 &&& (255 : Int32))), some (.int p1), some (.int p2)]) (st' := [.int (4 : Int32)]) (h' := cs_H p4 rest) ckS_acceptChannel rfl ?_
              have e : fS_acceptChannel c x1 x2 = some ((4 : Int32), p4) := by simp only [fS_acceptChannel, if_pos h1, if_neg h2, if_neg h3, e1, ab_bd_s, e2, ab_bd_s, if_pos h4, if_neg h5, if_neg h6, e4, ab_bd_s]
              obtain rfl := Option.some.inj (e.symm.trans hv)
              exact ab_iret ckS_acceptChannel rfl rfl ⟨rfl, rfl⟩
            · refine ab_go 5 [] (pc' := 110) (lo' := [some (.ref 8), some (.int x1), some (.long x2), none, some (.int ((x2).toInt32 &&& (255 : Int32))), some (.int ((((x2).toUInt64 >>> (((8 : Int32)).toInt64.toUInt64 &&& Int64.toUInt64 63)).toInt64).toInt32 &&& (65535 : Int32))), some (.int ((((x2).toUInt64 >>> (((24 : Int32)).toInt64.toUInt64 &&& Int64.toUInt64 63)).toInt64).toInt32 &&& (255 : Int32))), some (.int p1), some (.int p2)]) (st' := [.int p1, .long x2, .ref 8]) (h' := cs_H c rest) ckS_acceptChannel rfl ?_
              rcases e5 : fS_answerRead c x2 p1 with _ | p5
              · exact ab_no hv (by simp only [fS_acceptChannel, if_pos h1, if_neg h2, if_neg h3, e1, ab_bd_s, e2, ab_bd_s, if_pos h4, if_neg h5, if_pos h6, e5, ab_bd_n])
              refine ab_callV (bc2 := 0) (bs2 := 0) (as := [_, _]) (rest := []) ckS_acceptChannel rfl (by decide +kernel) wS_answerRead (tS_answerRead (d := d) (x1 := x2) (x2 := p1) (c := c) hX (v := p5) e5) rfl rfl (by omega) ⟨Nat.le_refl _, Nat.le_refl _⟩ (Nat.le_of_ble_eq_true rfl) ?_
              rintro _ _ ⟨rfl, rfl⟩
              refine ab_go 4 [] (pc' := 129) (lo' := [some (.ref 8), some (.int x1), some (.long x2), none, some (.int ((x2).toInt32 &&& (255 : Int32))), some (.int ((((x2).toUInt64 >>> (((8 : Int32)).toInt64.toUInt64 &&& Int64.toUInt64 63)).toInt64).toInt32 &&& (65535 : Int32))), some (.int ((((x2).toUInt64 >>> (((24 : Int32)).toInt64.toUInt64 &&& Int64.toUInt64 63)).toInt64).toInt32 &&& (255 : Int32))), some (.int p1), some (.int p2)]) (st' := [.int (4 : Int32)]) (h' := cs_H p5 rest) ckS_acceptChannel rfl ?_
              have e : fS_acceptChannel c x1 x2 = some ((4 : Int32), p5) := by simp only [fS_acceptChannel, if_pos h1, if_neg h2, if_neg h3, e1, ab_bd_s, e2, ab_bd_s, if_pos h4, if_neg h5, if_pos h6, e5, ab_bd_s]
              obtain rfl := Option.some.inj (e.symm.trans hv)
              exact ab_iret ckS_acceptChannel rfl rfl ⟨rfl, rfl⟩
          · refine ab_go 6 [] (pc' := 93) (lo' := [some (.ref 8), some (.int x1), some (.long x2), none, some (.int ((x2).toInt32 &&& (255 : Int32))), some (.int ((((x2).toUInt64 >>> (((8 : Int32)).toInt64.toUInt64 &&& Int64.toUInt64 63)).toInt64).toInt32 &&& (65535 : Int32))), some (.int ((((x2).toUInt64 >>> (((24 : Int32)).toInt64.toUInt64 &&& Int64.toUInt64 63)).toInt64).toInt32 &&& (255 : Int32))), some (.int p1), some (.int p2)]) (st' := [.int p2, .int (128 : Int32), .long x2, .ref 8]) (h' := cs_H c rest) ckS_acceptChannel rfl ?_
            rcases e6 : fS_sendAnswer c x2 (128 : Int32) p2 with _ | p6
            · exact ab_no hv (by simp only [fS_acceptChannel, if_pos h1, if_neg h2, if_neg h3, e1, ab_bd_s, e2, ab_bd_s, if_pos h4, if_pos h5, e6, ab_bd_n])
            refine ab_callV (bc2 := 0) (bs2 := 0) (as := [_, _, _]) (rest := []) ckS_acceptChannel rfl (by decide +kernel) wS_sendAnswer (tS_sendAnswer (d := d + 3) (x1 := x2) (x2 := (128 : Int32)) (x3 := p2) (c := c) (v := p6) e6) rfl rfl (by omega) ⟨Nat.le_refl _, Nat.le_refl _⟩ (Nat.le_of_ble_eq_true rfl) ?_
            rintro _ _ ⟨rfl, rfl⟩
            refine ab_go 4 [] (pc' := 129) (lo' := [some (.ref 8), some (.int x1), some (.long x2), none, some (.int ((x2).toInt32 &&& (255 : Int32))), some (.int ((((x2).toUInt64 >>> (((8 : Int32)).toInt64.toUInt64 &&& Int64.toUInt64 63)).toInt64).toInt32 &&& (65535 : Int32))), some (.int ((((x2).toUInt64 >>> (((24 : Int32)).toInt64.toUInt64 &&& Int64.toUInt64 63)).toInt64).toInt32 &&& (255 : Int32))), some (.int p1), some (.int p2)]) (st' := [.int (4 : Int32)]) (h' := cs_H p6 rest) ckS_acceptChannel rfl ?_
            have e : fS_acceptChannel c x1 x2 = some ((4 : Int32), p6) := by simp only [fS_acceptChannel, if_pos h1, if_neg h2, if_neg h3, e1, ab_bd_s, e2, ab_bd_s, if_pos h4, if_pos h5, e6, ab_bd_s]
            obtain rfl := Option.some.inj (e.symm.trans hv)
            exact ab_iret ckS_acceptChannel rfl rfl ⟨rfl, rfl⟩
      · refine ab_go 3 [] (pc' := 33) (lo' := [some (.ref 8), some (.int x1), some (.long x2), none, some (.int ((x2).toInt32 &&& (255 : Int32))), none, none, none, none]) (st' := [.int (4 : Int32)]) (h' := cs_H c rest) ckS_acceptChannel rfl ?_
        have e : fS_acceptChannel c x1 x2 = some ((4 : Int32), c) := by simp only [fS_acceptChannel, if_pos h1, if_neg h2, if_pos h3]
        obtain rfl := Option.some.inj (e.symm.trans hv)
        exact ab_iret ckS_acceptChannel rfl rfl ⟨rfl, rfl⟩
    · refine ab_go 3 [] (pc' := 15) (lo' := [some (.ref 8), some (.int x1), some (.long x2), none, none, none, none, none, none]) (st' := [.int (0 : Int32)]) (h' := cs_H c rest) ckS_acceptChannel rfl ?_
      have e : fS_acceptChannel c x1 x2 = some ((0 : Int32), c) := by simp only [fS_acceptChannel, if_pos h1, if_pos h2]
      obtain rfl := Option.some.inj (e.symm.trans hv)
      exact ab_iret ckS_acceptChannel rfl rfl ⟨rfl, rfl⟩
def fS_acceptHeartbeat (c : cs_S) (x1 : Int32) (x2 : Int32) : Int32 × cs_S := (if x2 = (1 : Int32) then (if x1 < (1 : Int32) then ((0 : Int32), c) else (if x1 = ((c.1 1 3) >>> ((16 : Int32) &&& 31)) then (if (fS_watchTime c) = 0 then ((0 : Int32), c) else (let p1 := fH_arm c; ((5 : Int32), p1))) else ((0 : Int32), c))) else ((0 : Int32), c))
theorem tS_acceptHeartbeat {x1 : Int32} {x2 : Int32} : ab_M X mS_acceptHeartbeat (d + 1) 0 0 [.ref 8, .int x1, .int x2] (cs_H c rest) (fun r9 h9 => r9 = some (Value.int (fS_acceptHeartbeat c x1 x2).1) ∧ h9 = cs_H (fS_acceptHeartbeat c x1 x2).2 rest) := by
  refine ab_entry (by decide) (Nat.le_of_ble_eq_true rfl) ?_
  refine ab_go 11 [] (pc' := 12) (lo' := [some (.ref 8), some (.int x1), some (.int x2), some (.int ((c.1 1 3) >>> ((16 : Int32) &&& 31)))]) (st' := [.int (1 : Int32), .int x2]) (h' := cs_H c rest) ckS_acceptHeartbeat rfl ?_
  refine ab_icmp_ne ckS_acceptHeartbeat rfl (fun (h1 : ¬ (x2 = (1 : Int32))) => ?_) (fun (h1 : x2 = (1 : Int32)) => ?_)
  · refine ab_go 3 [] (pc' := 33) (lo' := [some (.ref 8), some (.int x1), some (.int x2), some (.int ((c.1 1 3) >>> ((16 : Int32) &&& 31)))]) (st' := [.int (0 : Int32)]) (h' := cs_H c rest) ckS_acceptHeartbeat rfl ?_
    have e : fS_acceptHeartbeat c x1 x2 = ((0 : Int32), c) := by simp only [fS_acceptHeartbeat, if_neg h1]
    exact ab_iret ckS_acceptHeartbeat rfl rfl ⟨(congrArg (fun q : Int32 × cs_S => some (Value.int q.1)) e).symm, (congrArg (fun q : Int32 × cs_S => cs_H q.2 rest) e).symm⟩
  · refine ab_go 4 [] (pc' := 17) (lo' := [some (.ref 8), some (.int x1), some (.int x2), some (.int ((c.1 1 3) >>> ((16 : Int32) &&& 31)))]) (st' := [.int (1 : Int32), .int x1]) (h' := cs_H c rest) ckS_acceptHeartbeat rfl ?_
    refine ab_icmp_lt ckS_acceptHeartbeat rfl (fun (h2 : x1 < (1 : Int32)) => ?_) (fun (h2 : ¬ (x1 < (1 : Int32))) => ?_)
    · refine ab_go 3 [] (pc' := 33) (lo' := [some (.ref 8), some (.int x1), some (.int x2), some (.int ((c.1 1 3) >>> ((16 : Int32) &&& 31)))]) (st' := [.int (0 : Int32)]) (h' := cs_H c rest) ckS_acceptHeartbeat rfl ?_
      have e : fS_acceptHeartbeat c x1 x2 = ((0 : Int32), c) := by simp only [fS_acceptHeartbeat, if_pos h1, if_pos h2]
      exact ab_iret ckS_acceptHeartbeat rfl rfl ⟨(congrArg (fun q : Int32 × cs_S => some (Value.int q.1)) e).symm, (congrArg (fun q : Int32 × cs_S => cs_H q.2 rest) e).symm⟩
    · refine ab_go 4 [] (pc' := 22) (lo' := [some (.ref 8), some (.int x1), some (.int x2), some (.int ((c.1 1 3) >>> ((16 : Int32) &&& 31)))]) (st' := [.int ((c.1 1 3) >>> ((16 : Int32) &&& 31)), .int x1]) (h' := cs_H c rest) ckS_acceptHeartbeat rfl ?_
      refine ab_icmp_ne ckS_acceptHeartbeat rfl (fun (h3 : ¬ (x1 = ((c.1 1 3) >>> ((16 : Int32) &&& 31)))) => ?_) (fun (h3 : x1 = ((c.1 1 3) >>> ((16 : Int32) &&& 31))) => ?_)
      · refine ab_go 3 [] (pc' := 33) (lo' := [some (.ref 8), some (.int x1), some (.int x2), some (.int ((c.1 1 3) >>> ((16 : Int32) &&& 31)))]) (st' := [.int (0 : Int32)]) (h' := cs_H c rest) ckS_acceptHeartbeat rfl ?_
        have e : fS_acceptHeartbeat c x1 x2 = ((0 : Int32), c) := by simp only [fS_acceptHeartbeat, if_pos h1, if_neg h2, if_neg h3]
        exact ab_iret ckS_acceptHeartbeat rfl rfl ⟨(congrArg (fun q : Int32 × cs_S => some (Value.int q.1)) e).symm, (congrArg (fun q : Int32 × cs_S => cs_H q.2 rest) e).symm⟩
      · refine ab_go 3 [] (pc' := 26) (lo' := [some (.ref 8), some (.int x1), some (.int x2), some (.int ((c.1 1 3) >>> ((16 : Int32) &&& 31)))]) (st' := [.ref 8]) (h' := cs_H c rest) ckS_acceptHeartbeat rfl ?_
        refine ab_callV (bc2 := 0) (bs2 := 0) (as := []) (rest := []) ckS_acceptHeartbeat rfl (by decide +kernel) wS_watchTime (tS_watchTime (d := d) (c := c)) rfl rfl (by omega) ⟨Nat.le_refl _, Nat.le_refl _⟩ (Nat.le_of_ble_eq_true rfl) ?_
        rintro _ _ ⟨rfl, rfl⟩
        refine ab_if_ne ckS_acceptHeartbeat rfl (fun (h4 : ¬ ((fS_watchTime c) = 0)) => ?_) (fun (h4 : (fS_watchTime c) = 0) => ?_)
        · refine ab_go 4 [] (pc' := 38) (lo' := [some (.ref 8), some (.int x1), some (.int x2), some (.int ((c.1 1 3) >>> ((16 : Int32) &&& 31)))]) (st' := [.ref 21]) (h' := cs_H c rest) ckS_acceptHeartbeat rfl ?_
          refine ab_callV (bc2 := 0) (bs2 := 0) (as := []) (rest := []) ckS_acceptHeartbeat rfl (by decide +kernel) wH_arm (tH_arm (d := d) (c := c)) rfl rfl (by omega) ⟨Nat.le_refl _, Nat.le_refl _⟩ (Nat.le_of_ble_eq_true rfl) ?_
          rintro _ _ ⟨rfl, rfl⟩
          generalize e1 : fH_arm c = p1
          refine ab_go 3 [] (pc' := 42) (lo' := [some (.ref 8), some (.int x1), some (.int x2), some (.int ((c.1 1 3) >>> ((16 : Int32) &&& 31)))]) (st' := [.int (5 : Int32)]) (h' := cs_H p1 rest) ckS_acceptHeartbeat rfl ?_
          have e : fS_acceptHeartbeat c x1 x2 = ((5 : Int32), p1) := by simp only [fS_acceptHeartbeat, if_pos h1, if_neg h2, if_pos h3, if_neg h4, e1]
          exact ab_iret ckS_acceptHeartbeat rfl rfl ⟨(congrArg (fun q : Int32 × cs_S => some (Value.int q.1)) e).symm, (congrArg (fun q : Int32 × cs_S => cs_H q.2 rest) e).symm⟩
        · refine ab_go 3 [] (pc' := 33) (lo' := [some (.ref 8), some (.int x1), some (.int x2), some (.int ((c.1 1 3) >>> ((16 : Int32) &&& 31)))]) (st' := [.int (0 : Int32)]) (h' := cs_H c rest) ckS_acceptHeartbeat rfl ?_
          have e : fS_acceptHeartbeat c x1 x2 = ((0 : Int32), c) := by simp only [fS_acceptHeartbeat, if_pos h1, if_neg h2, if_pos h3, if_pos h4]
          exact ab_iret ckS_acceptHeartbeat rfl rfl ⟨(congrArg (fun q : Int32 × cs_S => some (Value.int q.1)) e).symm, (congrArg (fun q : Int32 × cs_S => cs_H q.2 rest) e).symm⟩
def fS_acceptIn (c : cs_S) (x1 : Int32) (x2 : Int64) : Option (Int32 × cs_S) := (if (c.1 0 1) = (5 : Int32) then (if (c.1 1 5) = 0 then (some ((0 : Int32), c)) else (ab_bd (fG_totalBytes c (5 : Int32)) (fun p1 => (if p1 ≤ x1 then (ab_bd (fG_unpack c x2) (fun p2 => (some ((3 : Int32), p2)))) else (some ((0 : Int32), c)))))) else (some ((0 : Int32), c)))
theorem tS_acceptIn {x1 : Int32} {x2 : Int64} (hX : cs_X X) {v : Int32 × cs_S} (hv : fS_acceptIn c x1 x2 = some v) : ab_M X mS_acceptIn (d + 3) 0 0 [.ref 8, .int x1, .long x2] (cs_H c rest) (fun r9 h9 => r9 = some (Value.int v.1) ∧ h9 = cs_H v.2 rest) := by
  refine ab_entry (by decide) (Nat.le_of_ble_eq_true rfl) ?_
  refine ab_go 5 [] (pc' := 5) (lo' := [some (.ref 8), some (.int x1), some (.long x2), none]) (st' := [.int (5 : Int32), .int (c.1 0 1)]) (h' := cs_H c rest) ckS_acceptIn rfl ?_
  refine ab_icmp_ne ckS_acceptIn rfl (fun (h1 : ¬ ((c.1 0 1) = (5 : Int32))) => ?_) (fun (h1 : (c.1 0 1) = (5 : Int32)) => ?_)
  · refine ab_go 3 [] (pc' := 30) (lo' := [some (.ref 8), some (.int x1), some (.long x2), none]) (st' := [.int (0 : Int32)]) (h' := cs_H c rest) ckS_acceptIn rfl ?_
    have e : fS_acceptIn c x1 x2 = some ((0 : Int32), c) := by simp only [fS_acceptIn, if_neg h1]
    obtain rfl := Option.some.inj (e.symm.trans hv)
    exact ab_iret ckS_acceptIn rfl rfl ⟨rfl, rfl⟩
  · refine ab_go 6 [] (pc' := 14) (lo' := [some (.ref 8), some (.int x1), some (.long x2), none]) (st' := [.int (c.1 1 5)]) (h' := cs_H c rest) ckS_acceptIn rfl ?_
    refine ab_if_eq ckS_acceptIn rfl (fun (h2 : (c.1 1 5) = 0) => ?_) (fun (h2 : ¬ ((c.1 1 5) = 0)) => ?_)
    · refine ab_go 3 [] (pc' := 30) (lo' := [some (.ref 8), some (.int x1), some (.long x2), none]) (st' := [.int (0 : Int32)]) (h' := cs_H c rest) ckS_acceptIn rfl ?_
      have e : fS_acceptIn c x1 x2 = some ((0 : Int32), c) := by simp only [fS_acceptIn, if_pos h1, if_pos h2]
      obtain rfl := Option.some.inj (e.symm.trans hv)
      exact ab_iret ckS_acceptIn rfl rfl ⟨rfl, rfl⟩
    · refine ab_go 6 [] (pc' := 23) (lo' := [some (.ref 8), some (.int x1), some (.long x2), none]) (st' := [.int (5 : Int32), .ref 9, .int x1]) (h' := cs_H c rest) ckS_acceptIn rfl ?_
      rcases e1 : fG_totalBytes c (5 : Int32) with _ | p1
      · exact ab_no hv (by simp only [fS_acceptIn, if_pos h1, if_neg h2, e1, ab_bd_n])
      refine ab_callS (bc2 := 0) (bs2 := 0) (as := [_, _]) (rest := [_]) ckS_acceptIn rfl (by decide +kernel) wG_totalBytes (tG_totalBytes (d := d + 2) (x2 := (5 : Int32)) (c := c) (v := p1) e1) (by omega) ⟨Nat.le_refl _, Nat.le_refl _⟩ (Nat.le_of_ble_eq_true rfl) ?_
      rintro _ _ ⟨rfl, rfl⟩
      refine ab_icmp_ge ckS_acceptIn rfl (fun (h3 : p1 ≤ x1) => ?_) (fun (h3 : ¬ (p1 ≤ x1)) => ?_)
      · refine ab_go 5 [] (pc' := 36) (lo' := [some (.ref 8), some (.int x1), some (.long x2), none]) (st' := [.long x2, .ref 9]) (h' := cs_H c rest) ckS_acceptIn rfl ?_
        rcases e2 : fG_unpack c x2 with _ | p2
        · exact ab_no hv (by simp only [fS_acceptIn, if_pos h1, if_neg h2, e1, ab_bd_s, if_pos h3, e2, ab_bd_n])
        refine ab_callS (bc2 := 0) (bs2 := 0) (as := [_, _]) (rest := []) ckS_acceptIn rfl (by decide +kernel) wG_unpack (tG_unpack (d := d) (x2 := x2) (c := c) hX (v := p2) e2) (by omega) ⟨Nat.le_refl _, Nat.le_refl _⟩ (Nat.le_of_ble_eq_true rfl) ?_
        rintro _ _ ⟨rfl, rfl⟩
        refine ab_go 3 [] (pc' := 40) (lo' := [some (.ref 8), some (.int x1), some (.long x2), none]) (st' := [.int (3 : Int32)]) (h' := cs_H p2 rest) ckS_acceptIn rfl ?_
        have e : fS_acceptIn c x1 x2 = some ((3 : Int32), p2) := by simp only [fS_acceptIn, if_pos h1, if_neg h2, e1, ab_bd_s, if_pos h3, e2, ab_bd_s]
        obtain rfl := Option.some.inj (e.symm.trans hv)
        exact ab_iret ckS_acceptIn rfl rfl ⟨rfl, rfl⟩
      · refine ab_go 3 [] (pc' := 30) (lo' := [some (.ref 8), some (.int x1), some (.long x2), none]) (st' := [.int (0 : Int32)]) (h' := cs_H c rest) ckS_acceptIn rfl ?_
        have e : fS_acceptIn c x1 x2 = some ((0 : Int32), c) := by simp only [fS_acceptIn, if_pos h1, if_neg h2, e1, ab_bd_s, if_neg h3]
        obtain rfl := Option.some.inj (e.symm.trans hv)
        exact ab_iret ckS_acceptIn rfl rfl ⟨rfl, rfl⟩
def fS_acceptSync (c : cs_S)  : Option (Int32 × cs_S) := (if (c.1 0 1) = (5 : Int32) then (if (c.1 1 9) < (1 : Int32) then (some ((2 : Int32), c)) else (if (240 : Int32) < (c.1 1 9) then (some ((2 : Int32), c)) else (let p1 := fO_countSync c (c.1 1 9); (if p1.1 = 0 then (some ((2 : Int32), p1.2)) else (if (p1.2.1 1 12) ≤ 0 then (some ((2 : Int32), p1.2)) else (ab_bd (fS_refreshStatus p1.2) (fun p2 => (ab_bd (fG_pack p2) (fun p3 => (ab_bd (fG_totalBytes p2 (12 : Int32)) (fun p4 => (ab_bd (fS_sendOut p2 p3 p4) (fun p5 => (some ((2 : Int32), p5))))))))))))))) else (some ((0 : Int32), c)))
theorem tS_acceptSync (hX : cs_X X) {v : Int32 × cs_S} (hv : fS_acceptSync c = some v) : ab_M X mS_acceptSync (d + 4) 0 0 [.ref 8] (cs_H c rest) (fun r9 h9 => r9 = some (Value.int v.1) ∧ h9 = cs_H v.2 rest) := by
  refine ab_entry (by decide) (Nat.le_of_ble_eq_true rfl) ?_
  refine ab_go 5 [] (pc' := 5) (lo' := [some (.ref 8), none]) (st' := [.int (5 : Int32), .int (c.1 0 1)]) (h' := cs_H c rest) ckS_acceptSync rfl ?_
  refine ab_icmp_eq ckS_acceptSync rfl (fun (h1 : (c.1 0 1) = (5 : Int32)) => ?_) (fun (h1 : ¬ ((c.1 0 1) = (5 : Int32))) => ?_)
  · refine ab_go 9 [] (pc' := 20) (lo' := [some (.ref 8), some (.int (c.1 1 9))]) (st' := [.int (1 : Int32), .int (c.1 1 9)]) (h' := cs_H c rest) ckS_acceptSync rfl ?_
    refine ab_icmp_lt ckS_acceptSync rfl (fun (h2 : (c.1 1 9) < (1 : Int32)) => ?_) (fun (h2 : ¬ ((c.1 1 9) < (1 : Int32))) => ?_)
    · refine ab_go 3 [] (pc' := 76) (lo' := [some (.ref 8), some (.int (c.1 1 9))]) (st' := [.int (2 : Int32)]) (h' := cs_H c rest) ckS_acceptSync rfl ?_
      have e : fS_acceptSync c = some ((2 : Int32), c) := by simp only [fS_acceptSync, if_pos h1, if_pos h2]
      obtain rfl := Option.some.inj (e.symm.trans hv)
      exact ab_iret ckS_acceptSync rfl rfl ⟨rfl, rfl⟩
    · refine ab_go 4 [] (pc' := 27) (lo' := [some (.ref 8), some (.int (c.1 1 9))]) (st' := [.int (240 : Int32), .int (c.1 1 9)]) (h' := cs_H c rest) ckS_acceptSync rfl ?_
      refine ab_icmp_gt ckS_acceptSync rfl (fun (h3 : (240 : Int32) < (c.1 1 9)) => ?_) (fun (h3 : ¬ ((240 : Int32) < (c.1 1 9))) => ?_)
      · refine ab_go 3 [] (pc' := 76) (lo' := [some (.ref 8), some (.int (c.1 1 9))]) (st' := [.int (2 : Int32)]) (h' := cs_H c rest) ckS_acceptSync rfl ?_
        have e : fS_acceptSync c = some ((2 : Int32), c) := by simp only [fS_acceptSync, if_pos h1, if_neg h2, if_pos h3]
        obtain rfl := Option.some.inj (e.symm.trans hv)
        exact ab_iret ckS_acceptSync rfl rfl ⟨rfl, rfl⟩
      · refine ab_go 5 [] (pc' := 35) (lo' := [some (.ref 8), some (.int (c.1 1 9))]) (st' := [.int (c.1 1 9), .ref 22]) (h' := cs_H c rest) ckS_acceptSync rfl ?_
        refine ab_callV (bc2 := 0) (bs2 := 0) (as := [_]) (rest := []) ckS_acceptSync rfl (by decide +kernel) wO_countSync (tO_countSync (d := d + 3) (x1 := (c.1 1 9)) (c := c)) rfl rfl (by omega) ⟨Nat.le_refl _, Nat.le_refl _⟩ (Nat.le_of_ble_eq_true rfl) ?_
        rintro _ _ ⟨rfl, rfl⟩
        generalize e1 : fO_countSync c (c.1 1 9) = p1
        refine ab_if_eq ckS_acceptSync rfl (fun (h4 : p1.1 = 0) => ?_) (fun (h4 : ¬ (p1.1 = 0)) => ?_)
        · refine ab_go 3 [] (pc' := 76) (lo' := [some (.ref 8), some (.int (c.1 1 9))]) (st' := [.int (2 : Int32)]) (h' := cs_H p1.2 rest) ckS_acceptSync rfl ?_
          have e : fS_acceptSync c = some ((2 : Int32), p1.2) := by simp only [fS_acceptSync, if_pos h1, if_neg h2, if_neg h3, e1, if_pos h4]
          obtain rfl := Option.some.inj (e.symm.trans hv)
          exact ab_iret ckS_acceptSync rfl rfl ⟨rfl, rfl⟩
        · refine ab_go 6 [] (pc' := 48) (lo' := [some (.ref 8), some (.int (c.1 1 9))]) (st' := [.int (p1.2.1 1 12)]) (h' := cs_H p1.2 rest) ckS_acceptSync rfl ?_
          refine ab_if_le ckS_acceptSync rfl (fun (h5 : (p1.2.1 1 12) ≤ 0) => ?_) (fun (h5 : ¬ ((p1.2.1 1 12) ≤ 0)) => ?_)
          · refine ab_go 3 [] (pc' := 76) (lo' := [some (.ref 8), some (.int (c.1 1 9))]) (st' := [.int (2 : Int32)]) (h' := cs_H p1.2 rest) ckS_acceptSync rfl ?_
            have e : fS_acceptSync c = some ((2 : Int32), p1.2) := by simp only [fS_acceptSync, if_pos h1, if_neg h2, if_neg h3, e1, if_neg h4, if_pos h5]
            obtain rfl := Option.some.inj (e.symm.trans hv)
            exact ab_iret ckS_acceptSync rfl rfl ⟨rfl, rfl⟩
          · refine ab_go 3 [] (pc' := 52) (lo' := [some (.ref 8), some (.int (c.1 1 9))]) (st' := [.ref 8]) (h' := cs_H p1.2 rest) ckS_acceptSync rfl ?_
            rcases e2 : fS_refreshStatus p1.2 with _ | p2
            · exact ab_no hv (by simp only [fS_acceptSync, if_pos h1, if_neg h2, if_neg h3, e1, if_neg h4, if_neg h5, e2, ab_bd_n])
            refine ab_callV (bc2 := 0) (bs2 := 0) (as := []) (rest := []) ckS_acceptSync rfl (by decide +kernel) wS_refreshStatus (tS_refreshStatus (d := d) (c := p1.2) hX (v := p2) e2) rfl rfl (by omega) ⟨Nat.le_refl _, Nat.le_refl _⟩ (Nat.le_of_ble_eq_true rfl) ?_
            rintro _ _ ⟨rfl, rfl⟩
            refine ab_go 5 [] (pc' := 60) (lo' := [some (.ref 8), some (.int (c.1 1 9))]) (st' := [.ref 9, .ref 8]) (h' := cs_H p2 rest) ckS_acceptSync rfl ?_
            rcases e3 : fG_pack p2 with _ | p3
            · exact ab_no hv (by simp only [fS_acceptSync, if_pos h1, if_neg h2, if_neg h3, e1, if_neg h4, if_neg h5, e2, ab_bd_s, e3, ab_bd_n])
            refine ab_callS (bc2 := 0) (bs2 := 0) (as := [_]) (rest := [_]) ckS_acceptSync rfl (by decide +kernel) wG_pack (tG_pack (d := d + 1) (c := p2) hX (v := p3) e3) (by omega) ⟨Nat.le_refl _, Nat.le_refl _⟩ (Nat.le_of_ble_eq_true rfl) ?_
            rintro _ _ ⟨rfl, rfl⟩
            refine ab_go 5 [] (pc' := 69) (lo' := [some (.ref 8), some (.int (c.1 1 9))]) (st' := [.int (12 : Int32), .ref 9, .long p3, .ref 8]) (h' := cs_H p2 rest) ckS_acceptSync rfl ?_
            rcases e4 : fG_totalBytes p2 (12 : Int32) with _ | p4
            · exact ab_no hv (by simp only [fS_acceptSync, if_pos h1, if_neg h2, if_neg h3, e1, if_neg h4, if_neg h5, e2, ab_bd_s, e3, ab_bd_s, e4, ab_bd_n])
            refine ab_callS (bc2 := 0) (bs2 := 0) (as := [_, _]) (rest := [_, _]) ckS_acceptSync rfl (by decide +kernel) wG_totalBytes (tG_totalBytes (d := d + 3) (x2 := (12 : Int32)) (c := p2) (v := p4) e4) (by omega) ⟨Nat.le_refl _, Nat.le_refl _⟩ (Nat.le_of_ble_eq_true rfl) ?_
            rintro _ _ ⟨rfl, rfl⟩
            rcases e5 : fS_sendOut p2 p3 p4 with _ | p5
            · exact ab_no hv (by simp only [fS_acceptSync, if_pos h1, if_neg h2, if_neg h3, e1, if_neg h4, if_neg h5, e2, ab_bd_s, e3, ab_bd_s, e4, ab_bd_s, e5, ab_bd_n])
            refine ab_callV (bc2 := 0) (bs2 := 0) (as := [_, _]) (rest := []) ckS_acceptSync rfl (by decide +kernel) wS_sendOut (tS_sendOut (d := d + 2) (x1 := p3) (x2 := p4) (c := p2) (v := p5) e5) rfl rfl (by omega) ⟨Nat.le_refl _, Nat.le_refl _⟩ (Nat.le_of_ble_eq_true rfl) ?_
            rintro _ _ ⟨rfl, rfl⟩
            refine ab_go 3 [] (pc' := 76) (lo' := [some (.ref 8), some (.int (c.1 1 9))]) (st' := [.int (2 : Int32)]) (h' := cs_H p5 rest) ckS_acceptSync rfl ?_
            have e : fS_acceptSync c = some ((2 : Int32), p5) := by simp only [fS_acceptSync, if_pos h1, if_neg h2, if_neg h3, e1, if_neg h4, if_neg h5, e2, ab_bd_s, e3, ab_bd_s, e4, ab_bd_s, e5, ab_bd_s]
            obtain rfl := Option.some.inj (e.symm.trans hv)
            exact ab_iret ckS_acceptSync rfl rfl ⟨rfl, rfl⟩
  · refine ab_go 3 [] (pc' := 9) (lo' := [some (.ref 8), none]) (st' := [.int (0 : Int32)]) (h' := cs_H c rest) ckS_acceptSync rfl ?_
    have e : fS_acceptSync c = some ((0 : Int32), c) := by simp only [fS_acceptSync, if_neg h1]
    obtain rfl := Option.some.inj (e.symm.trans hv)
    exact ab_iret ckS_acceptSync rfl rfl ⟨rfl, rfl⟩
def fS_enterOperating (c : cs_S)  : cs_S := (if (c.1 0 1) = (5 : Int32) then c else (let p1 := fO_beginOperating (cs_u c 0 1 (5 : Int32)); p1))
theorem tS_enterOperating : ab_M X mS_enterOperating (d + 1) 0 0 [.ref 8] (cs_H c rest) (fun r9 h9 => r9 = none ∧ h9 = cs_H (fS_enterOperating c) rest) := by
  refine ab_entry (by decide) (Nat.le_of_ble_eq_true rfl) ?_
  refine ab_go 5 [] (pc' := 5) (lo' := [some (.ref 8)]) (st' := [.int (5 : Int32), .int (c.1 0 1)]) (h' := cs_H c rest) ckS_enterOperating rfl ?_
  refine ab_icmp_eq ckS_enterOperating rfl (fun (h1 : (c.1 0 1) = (5 : Int32)) => ?_) (fun (h1 : ¬ ((c.1 0 1) = (5 : Int32))) => ?_)
  · have e : fS_enterOperating c = c := by simp only [fS_enterOperating, if_pos h1]
    exact ab_vret ckS_enterOperating rfl rfl ⟨rfl, (congrArg (fun q : cs_S => cs_H q rest) e).symm⟩
  · refine ab_go 7 [] (pc' := 17) (lo' := [some (.ref 8)]) (st' := [.ref 22]) (h' := cs_H (cs_u c 0 1 (5 : Int32)) rest) ckS_enterOperating rfl ?_
    refine ab_callV (bc2 := 0) (bs2 := 0) (as := []) (rest := []) ckS_enterOperating rfl (by decide +kernel) wO_beginOperating (tO_beginOperating (d := d) (c := (cs_u c 0 1 (5 : Int32)))) rfl rfl (by omega) ⟨Nat.le_refl _, Nat.le_refl _⟩ (Nat.le_of_ble_eq_true rfl) ?_
    rintro _ _ ⟨rfl, rfl⟩
    generalize e1 : fO_beginOperating (cs_u c 0 1 (5 : Int32)) = p1
    have e : fS_enterOperating c = p1 := by simp only [fS_enterOperating, if_neg h1, e1]
    exact ab_vret ckS_enterOperating rfl rfl ⟨rfl, (congrArg (fun q : cs_S => cs_H q rest) e).symm⟩
def fS_comeUp (c : cs_S)  : Option (cs_S) := (let p1 := fT_giveUp c; (ab_bd (fT_load p1) (fun p2 => (let p3 := fV_rest (cs_u p2 1 19 (c.1 1 19)) (c.1 1 19); (let p4 := fP_comeUp p3; (let p5 := fH_disarm p4; (let p6 := fO_forgetSyncs p5; (ab_bd (fB_setBus (cs_u (cs_u p6 0 1 (127 : Int32)) 0 2 (0 : Int32)) (1 : Int32)) (fun p7 => (let p8 := fB_clear p7; (ab_bd (fB_send p8 ((1792 : Int32) + (p8.1 0 0)) (1 : Int32) (0 : Int64)) (fun p9 => (some p9)))))))))))))
theorem tS_comeUp (hX : cs_X X) {v : cs_S} (hv : fS_comeUp c = some v) : ab_M X mS_comeUp (d + 2) 0 0 [.ref 8] (cs_H c rest) (fun r9 h9 => r9 = none ∧ h9 = cs_H v rest) := by
  refine ab_entry (by decide) (Nat.le_of_ble_eq_true rfl) ?_
  refine ab_go 9 [] (pc' := 12) (lo' := [some (.ref 8), some (.int (c.1 1 19))]) (st' := [.ref 14]) (h' := cs_H c rest) ckS_comeUp rfl ?_
  refine ab_callV (bc2 := 0) (bs2 := 0) (as := []) (rest := []) ckS_comeUp rfl (by decide +kernel) wT_giveUp (tT_giveUp (d := d + 1) (c := c)) rfl rfl (by omega) ⟨Nat.le_refl _, Nat.le_refl _⟩ (Nat.le_of_ble_eq_true rfl) ?_
  rintro _ _ ⟨rfl, rfl⟩
  generalize e1 : fT_giveUp c = p1
  refine ab_go 6 [] (pc' := 23) (lo' := [some (.ref 8), some (.int (c.1 1 19))]) (st' := [.ref 9, .ref 14]) (h' := cs_H p1 rest) ckS_comeUp rfl ?_
  rcases e2 : fT_load p1 with _ | p2
  · exact ab_no hv (by simp only [fS_comeUp, e1, e2, ab_bd_n])
  refine ab_callV (bc2 := 0) (bs2 := 0) (as := [_]) (rest := []) ckS_comeUp rfl (by decide +kernel) wT_load (tT_load (d := d) (c := p1) hX (v := p2) e2) rfl rfl (by omega) ⟨Nat.le_refl _, Nat.le_refl _⟩ (Nat.le_of_ble_eq_true rfl) ?_
  rintro _ _ ⟨rfl, rfl⟩
  refine ab_go 10 [] (pc' := 39) (lo' := [some (.ref 8), some (.int (c.1 1 19))]) (st' := [.int (c.1 1 19), .ref 20]) (h' := cs_H (cs_u p2 1 19 (c.1 1 19)) rest) ckS_comeUp rfl ?_
  refine ab_callV (bc2 := 0) (bs2 := 0) (as := [_]) (rest := []) ckS_comeUp rfl (by decide +kernel) wV_rest (tV_rest (d := d + 1) (x1 := (c.1 1 19)) (c := (cs_u p2 1 19 (c.1 1 19)))) rfl rfl (by omega) ⟨Nat.le_refl _, Nat.le_refl _⟩ (Nat.le_of_ble_eq_true rfl) ?_
  rintro _ _ ⟨rfl, rfl⟩
  generalize e3 : fV_rest (cs_u p2 1 19 (c.1 1 19)) (c.1 1 19) = p3
  refine ab_go 4 [] (pc' := 46) (lo' := [some (.ref 8), some (.int (c.1 1 19))]) (st' := [.ref 19]) (h' := cs_H p3 rest) ckS_comeUp rfl ?_
  refine ab_callV (bc2 := 0) (bs2 := 0) (as := []) (rest := []) ckS_comeUp rfl (by decide +kernel) wP_comeUp (tP_comeUp (d := d + 1) (c := p3)) rfl rfl (by omega) ⟨Nat.le_refl _, Nat.le_refl _⟩ (Nat.le_of_ble_eq_true rfl) ?_
  rintro _ _ ⟨rfl, rfl⟩
  generalize e4 : fP_comeUp p3 = p4
  refine ab_go 4 [] (pc' := 53) (lo' := [some (.ref 8), some (.int (c.1 1 19))]) (st' := [.ref 21]) (h' := cs_H p4 rest) ckS_comeUp rfl ?_
  refine ab_callV (bc2 := 0) (bs2 := 0) (as := []) (rest := []) ckS_comeUp rfl (by decide +kernel) wH_disarm (tH_disarm (d := d + 1) (c := p4)) rfl rfl (by omega) ⟨Nat.le_refl _, Nat.le_refl _⟩ (Nat.le_of_ble_eq_true rfl) ?_
  rintro _ _ ⟨rfl, rfl⟩
  generalize e5 : fH_disarm p4 = p5
  refine ab_go 4 [] (pc' := 60) (lo' := [some (.ref 8), some (.int (c.1 1 19))]) (st' := [.ref 22]) (h' := cs_H p5 rest) ckS_comeUp rfl ?_
  refine ab_callV (bc2 := 0) (bs2 := 0) (as := []) (rest := []) ckS_comeUp rfl (by decide +kernel) wO_forgetSyncs (tO_forgetSyncs (d := d + 1) (c := p5)) rfl rfl (by omega) ⟨Nat.le_refl _, Nat.le_refl _⟩ (Nat.le_of_ble_eq_true rfl) ?_
  rintro _ _ ⟨rfl, rfl⟩
  generalize e6 : fO_forgetSyncs p5 = p6
  refine ab_go 11 [] (pc' := 79) (lo' := [some (.ref 8), some (.int (c.1 1 19))]) (st' := [.int (1 : Int32), .ref 10]) (h' := cs_H (cs_u (cs_u p6 0 1 (127 : Int32)) 0 2 (0 : Int32)) rest) ckS_comeUp rfl ?_
  rcases e7 : fB_setBus (cs_u (cs_u p6 0 1 (127 : Int32)) 0 2 (0 : Int32)) (1 : Int32) with _ | p7
  · exact ab_no hv (by simp only [fS_comeUp, e1, e2, ab_bd_s, e3, e4, e5, e6, e7, ab_bd_n])
  refine ab_callV (bc2 := 0) (bs2 := 0) (as := [_]) (rest := []) ckS_comeUp rfl (by decide +kernel) wB_setBus (tB_setBus (d := d + 1) (x1 := (1 : Int32)) (c := (cs_u (cs_u p6 0 1 (127 : Int32)) 0 2 (0 : Int32))) (v := p7) e7) rfl rfl (by omega) ⟨Nat.le_refl _, Nat.le_refl _⟩ (Nat.le_of_ble_eq_true rfl) ?_
  rintro _ _ ⟨rfl, rfl⟩
  refine ab_go 4 [] (pc' := 86) (lo' := [some (.ref 8), some (.int (c.1 1 19))]) (st' := [.ref 10]) (h' := cs_H p7 rest) ckS_comeUp rfl ?_
  refine ab_callV (bc2 := 0) (bs2 := 0) (as := []) (rest := []) ckS_comeUp rfl (by decide +kernel) wB_clear (tB_clear (d := d + 1) (c := p7)) rfl rfl (by omega) ⟨Nat.le_refl _, Nat.le_refl _⟩ (Nat.le_of_ble_eq_true rfl) ?_
  rintro _ _ ⟨rfl, rfl⟩
  generalize e8 : fB_clear p7 = p8
  refine ab_go 10 [] (pc' := 103) (lo' := [some (.ref 8), some (.int (c.1 1 19))]) (st' := [.long (0 : Int64), .int (1 : Int32), .int ((1792 : Int32) + (p8.1 0 0)), .ref 10]) (h' := cs_H p8 rest) ckS_comeUp rfl ?_
  rcases e9 : fB_send p8 ((1792 : Int32) + (p8.1 0 0)) (1 : Int32) (0 : Int64) with _ | p9
  · exact ab_no hv (by simp only [fS_comeUp, e1, e2, ab_bd_s, e3, e4, e5, e6, e7, ab_bd_s, e8, e9, ab_bd_n])
  refine ab_callV (bc2 := 0) (bs2 := 0) (as := [_, _, _]) (rest := []) ckS_comeUp rfl (by decide +kernel) wB_send (tB_send (d := d + 1) (x1 := ((1792 : Int32) + (p8.1 0 0))) (x2 := (1 : Int32)) (x3 := (0 : Int64)) (c := p8) (v := p9) e9) rfl rfl (by omega) ⟨Nat.le_refl _, Nat.le_refl _⟩ (Nat.le_of_ble_eq_true rfl) ?_
  rintro _ _ ⟨rfl, rfl⟩
  have e : fS_comeUp c = some p9 := by simp only [fS_comeUp, e1, e2, ab_bd_s, e3, e4, e5, e6, e7, ab_bd_s, e8, e9, ab_bd_s]
  obtain rfl := Option.some.inj (e.symm.trans hv)
  exact ab_vret ckS_comeUp rfl rfl ⟨rfl, rfl⟩
def fS_acceptNetwork (c : cs_S) (x1 : Int32) (x2 : Int64) : Option (Int32 × cs_S) := (if x1 = (2 : Int32) then (if ((((x2).toUInt64 >>> (((8 : Int32)).toInt64.toUInt64 &&& Int64.toUInt64 63)).toInt64).toInt32 &&& (255 : Int32)) = 0 then (if ((x2).toInt32 &&& (255 : Int32)) = (1 : Int32) then (let p1 := fS_enterOperating c; (some ((1 : Int32), p1))) else (if ((x2).toInt32 &&& (255 : Int32)) = (2 : Int32) then (some ((1 : Int32), (cs_u c 0 1 (4 : Int32)))) else (if ((x2).toInt32 &&& (255 : Int32)) = (128 : Int32) then (some ((1 : Int32), (cs_u c 0 1 (127 : Int32)))) else (if ((x2).toInt32 &&& (255 : Int32)) = (129 : Int32) then (ab_bd (fS_comeUp c) (fun p2 => (some ((1 : Int32), p2)))) else (some ((0 : Int32), c)))))) else (if ((((x2).toUInt64 >>> (((8 : Int32)).toInt64.toUInt64 &&& Int64.toUInt64 63)).toInt64).toInt32 &&& (255 : Int32)) = (c.1 0 0) then (if ((x2).toInt32 &&& (255 : Int32)) = (1 : Int32) then (let p3 := fS_enterOperating c; (some ((1 : Int32), p3))) else (if ((x2).toInt32 &&& (255 : Int32)) = (2 : Int32) then (some ((1 : Int32), (cs_u c 0 1 (4 : Int32)))) else (if ((x2).toInt32 &&& (255 : Int32)) = (128 : Int32) then (some ((1 : Int32), (cs_u c 0 1 (127 : Int32)))) else (if ((x2).toInt32 &&& (255 : Int32)) = (129 : Int32) then (ab_bd (fS_comeUp c) (fun p4 => (some ((1 : Int32), p4)))) else (some ((0 : Int32), c)))))) else (some ((0 : Int32), c)))) else (some ((0 : Int32), c)))
theorem tS_acceptNetwork {x1 : Int32} {x2 : Int64} (hX : cs_X X) {v : Int32 × cs_S} (hv : fS_acceptNetwork c x1 x2 = some v) : ab_M X mS_acceptNetwork (d + 3) 0 0 [.ref 8, .int x1, .long x2] (cs_H c rest) (fun r9 h9 => r9 = some (Value.int v.1) ∧ h9 = cs_H v.2 rest) := by
  refine ab_entry (by decide) (Nat.le_of_ble_eq_true rfl) ?_
  refine ab_go 11 [] (pc' := 13) (lo' := [some (.ref 8), some (.int x1), some (.long x2), none, some (.int ((((x2).toUInt64 >>> (((8 : Int32)).toInt64.toUInt64 &&& Int64.toUInt64 63)).toInt64).toInt32 &&& (255 : Int32)))]) (st' := [.int (2 : Int32), .int x1]) (h' := cs_H c rest) ckS_acceptNetwork rfl ?_
  refine ab_icmp_ne ckS_acceptNetwork rfl (fun (h1 : ¬ (x1 = (2 : Int32))) => ?_) (fun (h1 : x1 = (2 : Int32)) => ?_)
  · refine ab_go 3 [] (pc' := 31) (lo' := [some (.ref 8), some (.int x1), some (.long x2), none, some (.int ((((x2).toUInt64 >>> (((8 : Int32)).toInt64.toUInt64 &&& Int64.toUInt64 63)).toInt64).toInt32 &&& (255 : Int32)))]) (st' := [.int (0 : Int32)]) (h' := cs_H c rest) ckS_acceptNetwork rfl ?_
    have e : fS_acceptNetwork c x1 x2 = some ((0 : Int32), c) := by simp only [fS_acceptNetwork, if_neg h1]
    obtain rfl := Option.some.inj (e.symm.trans hv)
    exact ab_iret ckS_acceptNetwork rfl rfl ⟨rfl, rfl⟩
  · refine ab_go 3 [] (pc' := 18) (lo' := [some (.ref 8), some (.int x1), some (.long x2), none, some (.int ((((x2).toUInt64 >>> (((8 : Int32)).toInt64.toUInt64 &&& Int64.toUInt64 63)).toInt64).toInt32 &&& (255 : Int32)))]) (st' := [.int ((((x2).toUInt64 >>> (((8 : Int32)).toInt64.toUInt64 &&& Int64.toUInt64 63)).toInt64).toInt32 &&& (255 : Int32))]) (h' := cs_H c rest) ckS_acceptNetwork rfl ?_
    refine ab_if_eq ckS_acceptNetwork rfl (fun (h2 : ((((x2).toUInt64 >>> (((8 : Int32)).toInt64.toUInt64 &&& Int64.toUInt64 63)).toInt64).toInt32 &&& (255 : Int32)) = 0) => ?_) (fun (h2 : ¬ (((((x2).toUInt64 >>> (((8 : Int32)).toInt64.toUInt64 &&& Int64.toUInt64 63)).toInt64).toInt32 &&& (255 : Int32)) = 0)) => ?_)
    · refine ab_go 6 [] (pc' := 38) (lo' := [some (.ref 8), some (.int x1), some (.long x2), none, some (.int ((((x2).toUInt64 >>> (((8 : Int32)).toInt64.toUInt64 &&& Int64.toUInt64 63)).toInt64).toInt32 &&& (255 : Int32)))]) (st' := [.int ((x2).toInt32 &&& (255 : Int32))]) (h' := cs_H c rest) ckS_acceptNetwork rfl ?_
      by_cases h3 : ((x2).toInt32 &&& (255 : Int32)) = (1 : Int32)
      · refine ab_lsw (tgt := 80) (off := 42) ckS_acceptNetwork rfl (by decide) (by rw [h3]; decide) (by decide) ?_
        refine ab_go 3 [] (pc' := 81) (lo' := [some (.ref 8), some (.int x1), some (.long x2), none, some (.int ((((x2).toUInt64 >>> (((8 : Int32)).toInt64.toUInt64 &&& Int64.toUInt64 63)).toInt64).toInt32 &&& (255 : Int32)))]) (st' := [.ref 8]) (h' := cs_H c rest) ckS_acceptNetwork rfl ?_
        refine ab_callV (bc2 := 0) (bs2 := 0) (as := []) (rest := []) ckS_acceptNetwork rfl (by decide +kernel) wS_enterOperating (tS_enterOperating (d := d + 1) (c := c)) rfl rfl (by omega) ⟨Nat.le_refl _, Nat.le_refl _⟩ (Nat.le_of_ble_eq_true rfl) ?_
        rintro _ _ ⟨rfl, rfl⟩
        generalize e1 : fS_enterOperating c = p1
        refine ab_go 3 [] (pc' := 85) (lo' := [some (.ref 8), some (.int x1), some (.long x2), none, some (.int ((((x2).toUInt64 >>> (((8 : Int32)).toInt64.toUInt64 &&& Int64.toUInt64 63)).toInt64).toInt32 &&& (255 : Int32)))]) (st' := [.int (1 : Int32)]) (h' := cs_H p1 rest) ckS_acceptNetwork rfl ?_
        have e : fS_acceptNetwork c x1 x2 = some ((1 : Int32), p1) := by simp only [fS_acceptNetwork, if_pos h1, if_pos h2, if_pos h3, e1]
        obtain rfl := Option.some.inj (e.symm.trans hv)
        exact ab_iret ckS_acceptNetwork rfl rfl ⟨rfl, rfl⟩
      by_cases h4 : ((x2).toInt32 &&& (255 : Int32)) = (2 : Int32)
      · refine ab_lsw (tgt := 86) (off := 48) ckS_acceptNetwork rfl (by decide) (by rw [h4]; decide) (by decide) ?_
        refine ab_go 6 [] (pc' := 92) (lo' := [some (.ref 8), some (.int x1), some (.long x2), none, some (.int ((((x2).toUInt64 >>> (((8 : Int32)).toInt64.toUInt64 &&& Int64.toUInt64 63)).toInt64).toInt32 &&& (255 : Int32)))]) (st' := [.int (1 : Int32)]) (h' := cs_H (cs_u c 0 1 (4 : Int32)) rest) ckS_acceptNetwork rfl ?_
        have e : fS_acceptNetwork c x1 x2 = some ((1 : Int32), (cs_u c 0 1 (4 : Int32))) := by simp only [fS_acceptNetwork, if_pos h1, if_pos h2, if_neg h3, if_pos h4]
        obtain rfl := Option.some.inj (e.symm.trans hv)
        exact ab_iret ckS_acceptNetwork rfl rfl ⟨rfl, rfl⟩
      by_cases h5 : ((x2).toInt32 &&& (255 : Int32)) = (128 : Int32)
      · refine ab_lsw (tgt := 93) (off := 55) ckS_acceptNetwork rfl (by decide) (by rw [h5]; decide) (by decide) ?_
        refine ab_go 6 [] (pc' := 100) (lo' := [some (.ref 8), some (.int x1), some (.long x2), none, some (.int ((((x2).toUInt64 >>> (((8 : Int32)).toInt64.toUInt64 &&& Int64.toUInt64 63)).toInt64).toInt32 &&& (255 : Int32)))]) (st' := [.int (1 : Int32)]) (h' := cs_H (cs_u c 0 1 (127 : Int32)) rest) ckS_acceptNetwork rfl ?_
        have e : fS_acceptNetwork c x1 x2 = some ((1 : Int32), (cs_u c 0 1 (127 : Int32))) := by simp only [fS_acceptNetwork, if_pos h1, if_pos h2, if_neg h3, if_neg h4, if_pos h5]
        obtain rfl := Option.some.inj (e.symm.trans hv)
        exact ab_iret ckS_acceptNetwork rfl rfl ⟨rfl, rfl⟩
      by_cases h6 : ((x2).toInt32 &&& (255 : Int32)) = (129 : Int32)
      · refine ab_lsw (tgt := 101) (off := 63) ckS_acceptNetwork rfl (by decide) (by rw [h6]; decide) (by decide) ?_
        refine ab_go 3 [] (pc' := 102) (lo' := [some (.ref 8), some (.int x1), some (.long x2), none, some (.int ((((x2).toUInt64 >>> (((8 : Int32)).toInt64.toUInt64 &&& Int64.toUInt64 63)).toInt64).toInt32 &&& (255 : Int32)))]) (st' := [.ref 8]) (h' := cs_H c rest) ckS_acceptNetwork rfl ?_
        rcases e2 : fS_comeUp c with _ | p2
        · exact ab_no hv (by simp only [fS_acceptNetwork, if_pos h1, if_pos h2, if_neg h3, if_neg h4, if_neg h5, if_pos h6, e2, ab_bd_n])
        refine ab_callV (bc2 := 0) (bs2 := 0) (as := []) (rest := []) ckS_acceptNetwork rfl (by decide +kernel) wS_comeUp (tS_comeUp (d := d) (c := c) hX (v := p2) e2) rfl rfl (by omega) ⟨Nat.le_refl _, Nat.le_refl _⟩ (Nat.le_of_ble_eq_true rfl) ?_
        rintro _ _ ⟨rfl, rfl⟩
        refine ab_go 3 [] (pc' := 106) (lo' := [some (.ref 8), some (.int x1), some (.long x2), none, some (.int ((((x2).toUInt64 >>> (((8 : Int32)).toInt64.toUInt64 &&& Int64.toUInt64 63)).toInt64).toInt32 &&& (255 : Int32)))]) (st' := [.int (1 : Int32)]) (h' := cs_H p2 rest) ckS_acceptNetwork rfl ?_
        have e : fS_acceptNetwork c x1 x2 = some ((1 : Int32), p2) := by simp only [fS_acceptNetwork, if_pos h1, if_pos h2, if_neg h3, if_neg h4, if_neg h5, if_pos h6, e2, ab_bd_s]
        obtain rfl := Option.some.inj (e.symm.trans hv)
        exact ab_iret ckS_acceptNetwork rfl rfl ⟨rfl, rfl⟩
      refine ab_lsw (tgt := 107) ckS_acceptNetwork rfl (by decide) (off := 69) (by show Op.lookupswitch.offset [(1, 42), (2, 48), (128, 55), (129, 63)] 69 _ = _; rw [lv_osw h3 (by decide)]; rw [lv_osw h4 (by decide)]; rw [lv_osw h5 (by decide)]; rw [lv_osw h6 (by decide)]; rfl) (by decide) ?_
      refine ab_go 3 [] (pc' := 108) (lo' := [some (.ref 8), some (.int x1), some (.long x2), none, some (.int ((((x2).toUInt64 >>> (((8 : Int32)).toInt64.toUInt64 &&& Int64.toUInt64 63)).toInt64).toInt32 &&& (255 : Int32)))]) (st' := [.int (0 : Int32)]) (h' := cs_H c rest) ckS_acceptNetwork rfl ?_
      have e : fS_acceptNetwork c x1 x2 = some ((0 : Int32), c) := by simp only [fS_acceptNetwork, if_pos h1, if_pos h2, if_neg h3, if_neg h4, if_neg h5, if_neg h6]
      obtain rfl := Option.some.inj (e.symm.trans hv)
      exact ab_iret ckS_acceptNetwork rfl rfl ⟨rfl, rfl⟩
    · refine ab_go 5 [] (pc' := 27) (lo' := [some (.ref 8), some (.int x1), some (.long x2), none, some (.int ((((x2).toUInt64 >>> (((8 : Int32)).toInt64.toUInt64 &&& Int64.toUInt64 63)).toInt64).toInt32 &&& (255 : Int32)))]) (st' := [.int (c.1 0 0), .int ((((x2).toUInt64 >>> (((8 : Int32)).toInt64.toUInt64 &&& Int64.toUInt64 63)).toInt64).toInt32 &&& (255 : Int32))]) (h' := cs_H c rest) ckS_acceptNetwork rfl ?_
      refine ab_icmp_eq ckS_acceptNetwork rfl (fun (h7 : ((((x2).toUInt64 >>> (((8 : Int32)).toInt64.toUInt64 &&& Int64.toUInt64 63)).toInt64).toInt32 &&& (255 : Int32)) = (c.1 0 0)) => ?_) (fun (h7 : ¬ (((((x2).toUInt64 >>> (((8 : Int32)).toInt64.toUInt64 &&& Int64.toUInt64 63)).toInt64).toInt32 &&& (255 : Int32)) = (c.1 0 0))) => ?_)
      · refine ab_go 6 [] (pc' := 38) (lo' := [some (.ref 8), some (.int x1), some (.long x2), none, some (.int ((((x2).toUInt64 >>> (((8 : Int32)).toInt64.toUInt64 &&& Int64.toUInt64 63)).toInt64).toInt32 &&& (255 : Int32)))]) (st' := [.int ((x2).toInt32 &&& (255 : Int32))]) (h' := cs_H c rest) ckS_acceptNetwork rfl ?_
        by_cases h8 : ((x2).toInt32 &&& (255 : Int32)) = (1 : Int32)
        · refine ab_lsw (tgt := 80) (off := 42) ckS_acceptNetwork rfl (by decide) (by rw [h8]; decide) (by decide) ?_
          refine ab_go 3 [] (pc' := 81) (lo' := [some (.ref 8), some (.int x1), some (.long x2), none, some (.int ((((x2).toUInt64 >>> (((8 : Int32)).toInt64.toUInt64 &&& Int64.toUInt64 63)).toInt64).toInt32 &&& (255 : Int32)))]) (st' := [.ref 8]) (h' := cs_H c rest) ckS_acceptNetwork rfl ?_
          refine ab_callV (bc2 := 0) (bs2 := 0) (as := []) (rest := []) ckS_acceptNetwork rfl (by decide +kernel) wS_enterOperating (tS_enterOperating (d := d + 1) (c := c)) rfl rfl (by omega) ⟨Nat.le_refl _, Nat.le_refl _⟩ (Nat.le_of_ble_eq_true rfl) ?_
          rintro _ _ ⟨rfl, rfl⟩
          generalize e3 : fS_enterOperating c = p3
          refine ab_go 3 [] (pc' := 85) (lo' := [some (.ref 8), some (.int x1), some (.long x2), none, some (.int ((((x2).toUInt64 >>> (((8 : Int32)).toInt64.toUInt64 &&& Int64.toUInt64 63)).toInt64).toInt32 &&& (255 : Int32)))]) (st' := [.int (1 : Int32)]) (h' := cs_H p3 rest) ckS_acceptNetwork rfl ?_
          have e : fS_acceptNetwork c x1 x2 = some ((1 : Int32), p3) := by simp only [fS_acceptNetwork, if_pos h1, if_neg h2, if_pos h7, if_pos h8, e3]
          obtain rfl := Option.some.inj (e.symm.trans hv)
          exact ab_iret ckS_acceptNetwork rfl rfl ⟨rfl, rfl⟩
        by_cases h9 : ((x2).toInt32 &&& (255 : Int32)) = (2 : Int32)
        · refine ab_lsw (tgt := 86) (off := 48) ckS_acceptNetwork rfl (by decide) (by rw [h9]; decide) (by decide) ?_
          refine ab_go 6 [] (pc' := 92) (lo' := [some (.ref 8), some (.int x1), some (.long x2), none, some (.int ((((x2).toUInt64 >>> (((8 : Int32)).toInt64.toUInt64 &&& Int64.toUInt64 63)).toInt64).toInt32 &&& (255 : Int32)))]) (st' := [.int (1 : Int32)]) (h' := cs_H (cs_u c 0 1 (4 : Int32)) rest) ckS_acceptNetwork rfl ?_
          have e : fS_acceptNetwork c x1 x2 = some ((1 : Int32), (cs_u c 0 1 (4 : Int32))) := by simp only [fS_acceptNetwork, if_pos h1, if_neg h2, if_pos h7, if_neg h8, if_pos h9]
          obtain rfl := Option.some.inj (e.symm.trans hv)
          exact ab_iret ckS_acceptNetwork rfl rfl ⟨rfl, rfl⟩
        by_cases h10 : ((x2).toInt32 &&& (255 : Int32)) = (128 : Int32)
        · refine ab_lsw (tgt := 93) (off := 55) ckS_acceptNetwork rfl (by decide) (by rw [h10]; decide) (by decide) ?_
          refine ab_go 6 [] (pc' := 100) (lo' := [some (.ref 8), some (.int x1), some (.long x2), none, some (.int ((((x2).toUInt64 >>> (((8 : Int32)).toInt64.toUInt64 &&& Int64.toUInt64 63)).toInt64).toInt32 &&& (255 : Int32)))]) (st' := [.int (1 : Int32)]) (h' := cs_H (cs_u c 0 1 (127 : Int32)) rest) ckS_acceptNetwork rfl ?_
          have e : fS_acceptNetwork c x1 x2 = some ((1 : Int32), (cs_u c 0 1 (127 : Int32))) := by simp only [fS_acceptNetwork, if_pos h1, if_neg h2, if_pos h7, if_neg h8, if_neg h9, if_pos h10]
          obtain rfl := Option.some.inj (e.symm.trans hv)
          exact ab_iret ckS_acceptNetwork rfl rfl ⟨rfl, rfl⟩
        by_cases h11 : ((x2).toInt32 &&& (255 : Int32)) = (129 : Int32)
        · refine ab_lsw (tgt := 101) (off := 63) ckS_acceptNetwork rfl (by decide) (by rw [h11]; decide) (by decide) ?_
          refine ab_go 3 [] (pc' := 102) (lo' := [some (.ref 8), some (.int x1), some (.long x2), none, some (.int ((((x2).toUInt64 >>> (((8 : Int32)).toInt64.toUInt64 &&& Int64.toUInt64 63)).toInt64).toInt32 &&& (255 : Int32)))]) (st' := [.ref 8]) (h' := cs_H c rest) ckS_acceptNetwork rfl ?_
          rcases e4 : fS_comeUp c with _ | p4
          · exact ab_no hv (by simp only [fS_acceptNetwork, if_pos h1, if_neg h2, if_pos h7, if_neg h8, if_neg h9, if_neg h10, if_pos h11, e4, ab_bd_n])
          refine ab_callV (bc2 := 0) (bs2 := 0) (as := []) (rest := []) ckS_acceptNetwork rfl (by decide +kernel) wS_comeUp (tS_comeUp (d := d) (c := c) hX (v := p4) e4) rfl rfl (by omega) ⟨Nat.le_refl _, Nat.le_refl _⟩ (Nat.le_of_ble_eq_true rfl) ?_
          rintro _ _ ⟨rfl, rfl⟩
          refine ab_go 3 [] (pc' := 106) (lo' := [some (.ref 8), some (.int x1), some (.long x2), none, some (.int ((((x2).toUInt64 >>> (((8 : Int32)).toInt64.toUInt64 &&& Int64.toUInt64 63)).toInt64).toInt32 &&& (255 : Int32)))]) (st' := [.int (1 : Int32)]) (h' := cs_H p4 rest) ckS_acceptNetwork rfl ?_
          have e : fS_acceptNetwork c x1 x2 = some ((1 : Int32), p4) := by simp only [fS_acceptNetwork, if_pos h1, if_neg h2, if_pos h7, if_neg h8, if_neg h9, if_neg h10, if_pos h11, e4, ab_bd_s]
          obtain rfl := Option.some.inj (e.symm.trans hv)
          exact ab_iret ckS_acceptNetwork rfl rfl ⟨rfl, rfl⟩
        refine ab_lsw (tgt := 107) ckS_acceptNetwork rfl (by decide) (off := 69) (by show Op.lookupswitch.offset [(1, 42), (2, 48), (128, 55), (129, 63)] 69 _ = _; rw [lv_osw h8 (by decide)]; rw [lv_osw h9 (by decide)]; rw [lv_osw h10 (by decide)]; rw [lv_osw h11 (by decide)]; rfl) (by decide) ?_
        refine ab_go 3 [] (pc' := 108) (lo' := [some (.ref 8), some (.int x1), some (.long x2), none, some (.int ((((x2).toUInt64 >>> (((8 : Int32)).toInt64.toUInt64 &&& Int64.toUInt64 63)).toInt64).toInt32 &&& (255 : Int32)))]) (st' := [.int (0 : Int32)]) (h' := cs_H c rest) ckS_acceptNetwork rfl ?_
        have e : fS_acceptNetwork c x1 x2 = some ((0 : Int32), c) := by simp only [fS_acceptNetwork, if_pos h1, if_neg h2, if_pos h7, if_neg h8, if_neg h9, if_neg h10, if_neg h11]
        obtain rfl := Option.some.inj (e.symm.trans hv)
        exact ab_iret ckS_acceptNetwork rfl rfl ⟨rfl, rfl⟩
      · refine ab_go 3 [] (pc' := 31) (lo' := [some (.ref 8), some (.int x1), some (.long x2), none, some (.int ((((x2).toUInt64 >>> (((8 : Int32)).toInt64.toUInt64 &&& Int64.toUInt64 63)).toInt64).toInt32 &&& (255 : Int32)))]) (st' := [.int (0 : Int32)]) (h' := cs_H c rest) ckS_acceptNetwork rfl ?_
        have e : fS_acceptNetwork c x1 x2 = some ((0 : Int32), c) := by simp only [fS_acceptNetwork, if_pos h1, if_neg h2, if_neg h7]
        obtain rfl := Option.some.inj (e.symm.trans hv)
        exact ab_iret ckS_acceptNetwork rfl rfl ⟨rfl, rfl⟩
def fS_receive (c : cs_S) (x1 : Int32) (x2 : Int32) (x3 : Int64) : Option (Int32 × cs_S) := (if x1 < 0 then (some ((-1 : Int32), c)) else (if (2047 : Int32) < x1 then (some ((-1 : Int32), c)) else (if x2 < 0 then (some ((-1 : Int32), c)) else (if x2 ≤ (8 : Int32) then (ab_bd (fB_isBusOn c) (fun p1 => (if p1 = 0 then (some ((0 : Int32), c)) else (if x1 = 0 then (ab_bd (fS_acceptNetwork c x2 x3) (fun p6 => (some (p6.1, p6.2)))) else (if x1 = (128 : Int32) then (ab_bd (fS_acceptSync c) (fun p5 => (some (p5.1, p5.2)))) else (if x1 = ((512 : Int32) + (c.1 0 0)) then (ab_bd (fS_acceptIn c x2 x3) (fun p4 => (some (p4.1, p4.2)))) else (if x1 = ((1536 : Int32) + (c.1 0 0)) then (ab_bd (fS_acceptChannel c x2 x3) (fun p3 => (some (p3.1, p3.2)))) else (let p2 := fS_acceptHeartbeat c (x1 - (1792 : Int32)) x2; (some (p2.1, p2.2)))))))))) else (some ((-1 : Int32), c))))))
theorem tS_receive {x1 : Int32} {x2 : Int32} {x3 : Int64} (hX : cs_X X) {v : Int32 × cs_S} (hv : fS_receive c x1 x2 x3 = some v) : ab_M X mS_receive (d + 6) 0 0 [.ref 8, .int x1, .int x2, .long x3] (cs_H c rest) (fun r9 h9 => r9 = some (Value.int v.1) ∧ h9 = cs_H v.2 rest) := by
  refine ab_entry (by decide) (Nat.le_of_ble_eq_true rfl) ?_
  refine ab_go 3 [] (pc' := 1) (lo' := [some (.ref 8), some (.int x1), some (.int x2), some (.long x3), none]) (st' := [.int x1]) (h' := cs_H c rest) ckS_receive rfl ?_
  refine ab_if_lt ckS_receive rfl (fun (h1 : x1 < 0) => ?_) (fun (h1 : ¬ (x1 < 0)) => ?_)
  · refine ab_go 3 [] (pc' := 22) (lo' := [some (.ref 8), some (.int x1), some (.int x2), some (.long x3), none]) (st' := [.int (-1 : Int32)]) (h' := cs_H c rest) ckS_receive rfl ?_
    have e : fS_receive c x1 x2 x3 = some ((-1 : Int32), c) := by simp only [fS_receive, if_pos h1]
    obtain rfl := Option.some.inj (e.symm.trans hv)
    exact ab_iret ckS_receive rfl rfl ⟨rfl, rfl⟩
  · refine ab_go 4 [] (pc' := 8) (lo' := [some (.ref 8), some (.int x1), some (.int x2), some (.long x3), none]) (st' := [.int (2047 : Int32), .int x1]) (h' := cs_H c rest) ckS_receive rfl ?_
    refine ab_icmp_gt ckS_receive rfl (fun (h2 : (2047 : Int32) < x1) => ?_) (fun (h2 : ¬ ((2047 : Int32) < x1)) => ?_)
    · refine ab_go 3 [] (pc' := 22) (lo' := [some (.ref 8), some (.int x1), some (.int x2), some (.long x3), none]) (st' := [.int (-1 : Int32)]) (h' := cs_H c rest) ckS_receive rfl ?_
      have e : fS_receive c x1 x2 x3 = some ((-1 : Int32), c) := by simp only [fS_receive, if_neg h1, if_pos h2]
      obtain rfl := Option.some.inj (e.symm.trans hv)
      exact ab_iret ckS_receive rfl rfl ⟨rfl, rfl⟩
    · refine ab_go 3 [] (pc' := 12) (lo' := [some (.ref 8), some (.int x1), some (.int x2), some (.long x3), none]) (st' := [.int x2]) (h' := cs_H c rest) ckS_receive rfl ?_
      refine ab_if_lt ckS_receive rfl (fun (h3 : x2 < 0) => ?_) (fun (h3 : ¬ (x2 < 0)) => ?_)
      · refine ab_go 3 [] (pc' := 22) (lo' := [some (.ref 8), some (.int x1), some (.int x2), some (.long x3), none]) (st' := [.int (-1 : Int32)]) (h' := cs_H c rest) ckS_receive rfl ?_
        have e : fS_receive c x1 x2 x3 = some ((-1 : Int32), c) := by simp only [fS_receive, if_neg h1, if_neg h2, if_pos h3]
        obtain rfl := Option.some.inj (e.symm.trans hv)
        exact ab_iret ckS_receive rfl rfl ⟨rfl, rfl⟩
      · refine ab_go 4 [] (pc' := 18) (lo' := [some (.ref 8), some (.int x1), some (.int x2), some (.long x3), none]) (st' := [.int (8 : Int32), .int x2]) (h' := cs_H c rest) ckS_receive rfl ?_
        refine ab_icmp_le ckS_receive rfl (fun (h4 : x2 ≤ (8 : Int32)) => ?_) (fun (h4 : ¬ (x2 ≤ (8 : Int32))) => ?_)
        · refine ab_go 4 [] (pc' := 27) (lo' := [some (.ref 8), some (.int x1), some (.int x2), some (.long x3), none]) (st' := [.ref 10]) (h' := cs_H c rest) ckS_receive rfl ?_
          rcases e1 : fB_isBusOn c with _ | p1
          · exact ab_no hv (by simp only [fS_receive, if_neg h1, if_neg h2, if_neg h3, if_pos h4, e1, ab_bd_n])
          refine ab_callV (bc2 := 0) (bs2 := 0) (as := []) (rest := []) ckS_receive rfl (by decide +kernel) wB_isBusOn (tB_isBusOn (d := d + 5) (c := c) (v := p1) e1) rfl rfl (by omega) ⟨Nat.le_refl _, Nat.le_refl _⟩ (Nat.le_of_ble_eq_true rfl) ?_
          rintro _ _ ⟨rfl, rfl⟩
          refine ab_if_ne ckS_receive rfl (fun (h5 : ¬ (p1 = 0)) => ?_) (fun (h5 : p1 = 0) => ?_)
          · refine ab_go 3 [] (pc' := 36) (lo' := [some (.ref 8), some (.int x1), some (.int x2), some (.long x3), none]) (st' := [.int x1]) (h' := cs_H c rest) ckS_receive rfl ?_
            refine ab_if_ne ckS_receive rfl (fun (h6 : ¬ (x1 = 0)) => ?_) (fun (h6 : x1 = 0) => ?_)
            · refine ab_go 4 [] (pc' := 50) (lo' := [some (.ref 8), some (.int x1), some (.int x2), some (.long x3), none]) (st' := [.int (128 : Int32), .int x1]) (h' := cs_H c rest) ckS_receive rfl ?_
              refine ab_icmp_ne ckS_receive rfl (fun (h7 : ¬ (x1 = (128 : Int32))) => ?_) (fun (h7 : x1 = (128 : Int32)) => ?_)
              · refine ab_go 7 [] (pc' := 67) (lo' := [some (.ref 8), some (.int x1), some (.int x2), some (.long x3), none]) (st' := [.int ((512 : Int32) + (c.1 0 0)), .int x1]) (h' := cs_H c rest) ckS_receive rfl ?_
                refine ab_icmp_ne ckS_receive rfl (fun (h8 : ¬ (x1 = ((512 : Int32) + (c.1 0 0)))) => ?_) (fun (h8 : x1 = ((512 : Int32) + (c.1 0 0))) => ?_)
                · refine ab_go 7 [] (pc' := 86) (lo' := [some (.ref 8), some (.int x1), some (.int x2), some (.long x3), none]) (st' := [.int ((1536 : Int32) + (c.1 0 0)), .int x1]) (h' := cs_H c rest) ckS_receive rfl ?_
                  refine ab_icmp_ne ckS_receive rfl (fun (h9 : ¬ (x1 = ((1536 : Int32) + (c.1 0 0)))) => ?_) (fun (h9 : x1 = ((1536 : Int32) + (c.1 0 0))) => ?_)
                  · refine ab_go 7 [] (pc' := 103) (lo' := [some (.ref 8), some (.int x1), some (.int x2), some (.long x3), none]) (st' := [.int x2, .int (x1 - (1792 : Int32)), .ref 8]) (h' := cs_H c rest) ckS_receive rfl ?_
                    refine ab_callV (bc2 := 0) (bs2 := 0) (as := [_, _]) (rest := []) ckS_receive rfl (by decide +kernel) wS_acceptHeartbeat (tS_acceptHeartbeat (d := d + 4) (x1 := (x1 - (1792 : Int32))) (x2 := x2) (c := c)) rfl rfl (by omega) ⟨Nat.le_refl _, Nat.le_refl _⟩ (Nat.le_of_ble_eq_true rfl) ?_
                    rintro _ _ ⟨rfl, rfl⟩
                    generalize e2 : fS_acceptHeartbeat c (x1 - (1792 : Int32)) x2 = p2
                    have e : fS_receive c x1 x2 x3 = some (p2.1, p2.2) := by simp only [fS_receive, if_neg h1, if_neg h2, if_neg h3, if_pos h4, e1, ab_bd_s, if_neg h5, if_neg h6, if_neg h7, if_neg h8, if_neg h9, e2]
                    obtain rfl := Option.some.inj (e.symm.trans hv)
                    exact ab_iret ckS_receive rfl rfl ⟨rfl, rfl⟩
                  · refine ab_go 5 [] (pc' := 92) (lo' := [some (.ref 8), some (.int x1), some (.int x2), some (.long x3), none]) (st' := [.long x3, .int x2, .ref 8]) (h' := cs_H c rest) ckS_receive rfl ?_
                    rcases e3 : fS_acceptChannel c x2 x3 with _ | p3
                    · exact ab_no hv (by simp only [fS_receive, if_neg h1, if_neg h2, if_neg h3, if_pos h4, e1, ab_bd_s, if_neg h5, if_neg h6, if_neg h7, if_neg h8, if_pos h9, e3, ab_bd_n])
                    refine ab_callV (bc2 := 0) (bs2 := 0) (as := [_, _]) (rest := []) ckS_receive rfl (by decide +kernel) wS_acceptChannel (tS_acceptChannel (d := d) (x1 := x2) (x2 := x3) (c := c) hX (v := p3) e3) rfl rfl (by omega) ⟨Nat.le_refl _, Nat.le_refl _⟩ (Nat.le_of_ble_eq_true rfl) ?_
                    rintro _ _ ⟨rfl, rfl⟩
                    have e : fS_receive c x1 x2 x3 = some (p3.1, p3.2) := by simp only [fS_receive, if_neg h1, if_neg h2, if_neg h3, if_pos h4, e1, ab_bd_s, if_neg h5, if_neg h6, if_neg h7, if_neg h8, if_pos h9, e3, ab_bd_s]
                    obtain rfl := Option.some.inj (e.symm.trans hv)
                    exact ab_iret ckS_receive rfl rfl ⟨rfl, rfl⟩
                · refine ab_go 5 [] (pc' := 73) (lo' := [some (.ref 8), some (.int x1), some (.int x2), some (.long x3), none]) (st' := [.long x3, .int x2, .ref 8]) (h' := cs_H c rest) ckS_receive rfl ?_
                  rcases e4 : fS_acceptIn c x2 x3 with _ | p4
                  · exact ab_no hv (by simp only [fS_receive, if_neg h1, if_neg h2, if_neg h3, if_pos h4, e1, ab_bd_s, if_neg h5, if_neg h6, if_neg h7, if_pos h8, e4, ab_bd_n])
                  refine ab_callV (bc2 := 0) (bs2 := 0) (as := [_, _]) (rest := []) ckS_receive rfl (by decide +kernel) wS_acceptIn (tS_acceptIn (d := d + 2) (x1 := x2) (x2 := x3) (c := c) hX (v := p4) e4) rfl rfl (by omega) ⟨Nat.le_refl _, Nat.le_refl _⟩ (Nat.le_of_ble_eq_true rfl) ?_
                  rintro _ _ ⟨rfl, rfl⟩
                  have e : fS_receive c x1 x2 x3 = some (p4.1, p4.2) := by simp only [fS_receive, if_neg h1, if_neg h2, if_neg h3, if_pos h4, e1, ab_bd_s, if_neg h5, if_neg h6, if_neg h7, if_pos h8, e4, ab_bd_s]
                  obtain rfl := Option.some.inj (e.symm.trans hv)
                  exact ab_iret ckS_receive rfl rfl ⟨rfl, rfl⟩
              · refine ab_go 3 [] (pc' := 54) (lo' := [some (.ref 8), some (.int x1), some (.int x2), some (.long x3), none]) (st' := [.ref 8]) (h' := cs_H c rest) ckS_receive rfl ?_
                rcases e5 : fS_acceptSync c with _ | p5
                · exact ab_no hv (by simp only [fS_receive, if_neg h1, if_neg h2, if_neg h3, if_pos h4, e1, ab_bd_s, if_neg h5, if_neg h6, if_pos h7, e5, ab_bd_n])
                refine ab_callV (bc2 := 0) (bs2 := 0) (as := []) (rest := []) ckS_receive rfl (by decide +kernel) wS_acceptSync (tS_acceptSync (d := d + 1) (c := c) hX (v := p5) e5) rfl rfl (by omega) ⟨Nat.le_refl _, Nat.le_refl _⟩ (Nat.le_of_ble_eq_true rfl) ?_
                rintro _ _ ⟨rfl, rfl⟩
                have e : fS_receive c x1 x2 x3 = some (p5.1, p5.2) := by simp only [fS_receive, if_neg h1, if_neg h2, if_neg h3, if_pos h4, e1, ab_bd_s, if_neg h5, if_neg h6, if_pos h7, e5, ab_bd_s]
                obtain rfl := Option.some.inj (e.symm.trans hv)
                exact ab_iret ckS_receive rfl rfl ⟨rfl, rfl⟩
            · refine ab_go 5 [] (pc' := 42) (lo' := [some (.ref 8), some (.int x1), some (.int x2), some (.long x3), none]) (st' := [.long x3, .int x2, .ref 8]) (h' := cs_H c rest) ckS_receive rfl ?_
              rcases e6 : fS_acceptNetwork c x2 x3 with _ | p6
              · exact ab_no hv (by simp only [fS_receive, if_neg h1, if_neg h2, if_neg h3, if_pos h4, e1, ab_bd_s, if_neg h5, if_pos h6, e6, ab_bd_n])
              refine ab_callV (bc2 := 0) (bs2 := 0) (as := [_, _]) (rest := []) ckS_receive rfl (by decide +kernel) wS_acceptNetwork (tS_acceptNetwork (d := d + 2) (x1 := x2) (x2 := x3) (c := c) hX (v := p6) e6) rfl rfl (by omega) ⟨Nat.le_refl _, Nat.le_refl _⟩ (Nat.le_of_ble_eq_true rfl) ?_
              rintro _ _ ⟨rfl, rfl⟩
              have e : fS_receive c x1 x2 x3 = some (p6.1, p6.2) := by simp only [fS_receive, if_neg h1, if_neg h2, if_neg h3, if_pos h4, e1, ab_bd_s, if_neg h5, if_pos h6, e6, ab_bd_s]
              obtain rfl := Option.some.inj (e.symm.trans hv)
              exact ab_iret ckS_receive rfl rfl ⟨rfl, rfl⟩
          · refine ab_go 3 [] (pc' := 34) (lo' := [some (.ref 8), some (.int x1), some (.int x2), some (.long x3), none]) (st' := [.int (0 : Int32)]) (h' := cs_H c rest) ckS_receive rfl ?_
            have e : fS_receive c x1 x2 x3 = some ((0 : Int32), c) := by simp only [fS_receive, if_neg h1, if_neg h2, if_neg h3, if_pos h4, e1, ab_bd_s, if_pos h5]
            obtain rfl := Option.some.inj (e.symm.trans hv)
            exact ab_iret ckS_receive rfl rfl ⟨rfl, rfl⟩
        · refine ab_go 3 [] (pc' := 22) (lo' := [some (.ref 8), some (.int x1), some (.int x2), some (.long x3), none]) (st' := [.int (-1 : Int32)]) (h' := cs_H c rest) ckS_receive rfl ?_
          have e : fS_receive c x1 x2 x3 = some ((-1 : Int32), c) := by simp only [fS_receive, if_neg h1, if_neg h2, if_neg h3, if_neg h4]
          obtain rfl := Option.some.inj (e.symm.trans hv)
          exact ab_iret ckS_receive rfl rfl ⟨rfl, rfl⟩
def fS_tick (c : cs_S) (x1 : Int32) : Option (Int32 × cs_S) := (if x1 < (-1000000 : Int32) then (some ((0 : Int32), c)) else (if x1 ≤ (1000000 : Int32) then (ab_bd (fS_makeTick c x1) (fun p1 => (some ((1 : Int32), p1)))) else (some ((0 : Int32), c))))
theorem tS_tick {x1 : Int32} (hX : cs_X X) {v : Int32 × cs_S} (hv : fS_tick c x1 = some v) : ab_M X mS_tick (d + 6) 0 0 [.ref 8, .int x1] (cs_H c rest) (fun r9 h9 => r9 = some (Value.int v.1) ∧ h9 = cs_H v.2 rest) := by
  refine ab_entry (by decide) (Nat.le_of_ble_eq_true rfl) ?_
  refine ab_go 4 [] (pc' := 3) (lo' := [some (.ref 8), some (.int x1)]) (st' := [.int (-1000000 : Int32), .int x1]) (h' := cs_H c rest) ckS_tick rfl ?_
  refine ab_icmp_lt ckS_tick rfl (fun (h1 : x1 < (-1000000 : Int32)) => ?_) (fun (h1 : ¬ (x1 < (-1000000 : Int32))) => ?_)
  · refine ab_go 3 [] (pc' := 13) (lo' := [some (.ref 8), some (.int x1)]) (st' := [.int (0 : Int32)]) (h' := cs_H c rest) ckS_tick rfl ?_
    have e : fS_tick c x1 = some ((0 : Int32), c) := by simp only [fS_tick, if_pos h1]
    obtain rfl := Option.some.inj (e.symm.trans hv)
    exact ab_zret ckS_tick rfl rfl (Or.inl rfl) ⟨rfl, rfl⟩
  · refine ab_go 4 [] (pc' := 9) (lo' := [some (.ref 8), some (.int x1)]) (st' := [.int (1000000 : Int32), .int x1]) (h' := cs_H c rest) ckS_tick rfl ?_
    refine ab_icmp_le ckS_tick rfl (fun (h2 : x1 ≤ (1000000 : Int32)) => ?_) (fun (h2 : ¬ (x1 ≤ (1000000 : Int32))) => ?_)
    · refine ab_go 4 [] (pc' := 16) (lo' := [some (.ref 8), some (.int x1)]) (st' := [.int x1, .ref 8]) (h' := cs_H c rest) ckS_tick rfl ?_
      rcases e1 : fS_makeTick c x1 with _ | p1
      · exact ab_no hv (by simp only [fS_tick, if_neg h1, if_pos h2, e1, ab_bd_n])
      refine ab_callV (bc2 := 0) (bs2 := 0) (as := [_]) (rest := []) ckS_tick rfl (by decide +kernel) wS_makeTick (tS_makeTick (d := d) (x1 := x1) (c := c) hX (v := p1) e1) rfl rfl (by omega) ⟨Nat.le_refl _, Nat.le_refl _⟩ (Nat.le_of_ble_eq_true rfl) ?_
      rintro _ _ ⟨rfl, rfl⟩
      refine ab_go 3 [] (pc' := 20) (lo' := [some (.ref 8), some (.int x1)]) (st' := [.int (1 : Int32)]) (h' := cs_H p1 rest) ckS_tick rfl ?_
      have e : fS_tick c x1 = some ((1 : Int32), p1) := by simp only [fS_tick, if_neg h1, if_pos h2, e1, ab_bd_s]
      obtain rfl := Option.some.inj (e.symm.trans hv)
      exact ab_zret ckS_tick rfl rfl (Or.inr rfl) ⟨rfl, rfl⟩
    · refine ab_go 3 [] (pc' := 13) (lo' := [some (.ref 8), some (.int x1)]) (st' := [.int (0 : Int32)]) (h' := cs_H c rest) ckS_tick rfl ?_
      have e : fS_tick c x1 = some ((0 : Int32), c) := by simp only [fS_tick, if_neg h1, if_neg h2]
      obtain rfl := Option.some.inj (e.symm.trans hv)
      exact ab_zret ckS_tick rfl rfl (Or.inl rfl) ⟨rfl, rfl⟩
def fS_run_16 : Nat → cs_S → Int32 → Int32 → Int32 → Option (Int32 × cs_S)
  | 0, _, _, _, _ => none
  | n + 1, c, y1, y2, y3 => (if y1 ≤ y3 then (some (y2, c)) else (ab_bd (fS_makeTick c (fV_demanded c)) (fun p1 => (if (fP_isStageOn p1) = 0 then fS_run_16 n p1 y1 y2 (y3 + (1 : Int32)) else fS_run_16 n p1 y1 (y2 + (1 : Int32)) (y3 + (1 : Int32))))))
def fS_run (c : cs_S) (x1 : Int32) : Option (Int32 × cs_S) := (if x1 < 0 then (some ((-1 : Int32), c)) else (if x1 ≤ (100 : Int32) then fS_run_16 102 c x1 (0 : Int32) (0 : Int32) else (some ((-1 : Int32), c))))
theorem tS_run_16 (hX : cs_X X) (n : Nat)   : ∀ (c : cs_S) (y1 : Int32) (y2 : Int32) (y3 : Int32)  (v : Int32 × cs_S) (hv : fS_run_16 n c y1 y2 y3 = some v), ab_W X mS_run (d + 6) 0 0 16 [some (.ref 8), some (.int y1), some (.int y2), some (.int y3)] [] (cs_H c rest) (fun r9 h9 => r9 = some (Value.int v.1) ∧ h9 = cs_H v.2 rest) := by
  induction n with
  | zero =>
    intro c y1 y2 y3 v hv
    cases hv
  | succ n ih =>
    intro c y1 y2 y3 v hv
    refine ab_go 4 [16] (pc' := 18) (lo' := [some (.ref 8), some (.int y1), some (.int y2), some (.int y3)]) (st' := [.int y1, .int y3]) (h' := cs_H c rest) ckS_run rfl ?_
    refine ab_icmp_ge ckS_run rfl (fun (h1 : y1 ≤ y3) => ?_) (fun (h1 : ¬ (y1 ≤ y3)) => ?_)
    · refine ab_go 3 [16] (pc' := 52) (lo' := [some (.ref 8), some (.int y1), some (.int y2), some (.int y3)]) (st' := [.int y2]) (h' := cs_H c rest) ckS_run rfl ?_
      have e : fS_run_16 (n + 1) c y1 y2 y3 = some (y2, c) := by simp only [fS_run_16, if_pos h1]
      obtain rfl := Option.some.inj (e.symm.trans hv)
      exact ab_iret ckS_run rfl rfl ⟨rfl, rfl⟩
    · refine ab_go 5 [16] (pc' := 26) (lo' := [some (.ref 8), some (.int y1), some (.int y2), some (.int y3)]) (st' := [.ref 20, .ref 8]) (h' := cs_H c rest) ckS_run rfl ?_
      refine ab_callV (bc2 := 0) (bs2 := 0) (as := []) (rest := [_]) ckS_run rfl (by decide +kernel) wV_demanded (tV_demanded (d := d + 5) (c := c)) rfl rfl (by omega) ⟨Nat.le_refl _, Nat.le_refl _⟩ (Nat.le_of_ble_eq_true rfl) ?_
      rintro _ _ ⟨rfl, rfl⟩
      rcases e1 : fS_makeTick c (fV_demanded c) with _ | p1
      · exact ab_no hv (by simp only [fS_run_16, if_neg h1, e1, ab_bd_n])
      refine ab_callV (bc2 := 0) (bs2 := 0) (as := [_]) (rest := []) ckS_run rfl (by decide +kernel) wS_makeTick (tS_makeTick (d := d) (x1 := (fV_demanded c)) (c := c) hX (v := p1) e1) rfl rfl (by omega) ⟨Nat.le_refl _, Nat.le_refl _⟩ (Nat.le_of_ble_eq_true rfl) ?_
      rintro _ _ ⟨rfl, rfl⟩
      refine ab_go 4 [16] (pc' := 36) (lo' := [some (.ref 8), some (.int y1), some (.int y2), some (.int y3)]) (st' := [.ref 19]) (h' := cs_H p1 rest) ckS_run rfl ?_
      refine ab_callV (bc2 := 0) (bs2 := 0) (as := []) (rest := []) ckS_run rfl (by decide +kernel) wP_isStageOn (tP_isStageOn (d := d + 5) (c := p1)) rfl rfl (by omega) ⟨Nat.le_refl _, Nat.le_refl _⟩ (Nat.le_of_ble_eq_true rfl) ?_
      rintro _ _ ⟨rfl, rfl⟩
      refine ab_if_eq ckS_run rfl (fun (h2 : (fP_isStageOn p1) = 0) => ?_) (fun (h2 : ¬ ((fP_isStageOn p1) = 0)) => ?_)
      · refine ab_go 4 [16] (pc' := 16) (lo' := [some (.ref 8), some (.int y1), some (.int y2), some (.int (y3 + (1 : Int32)))]) (st' := []) (h' := cs_H p1 rest) ckS_run rfl ?_
        have e : fS_run_16 (n + 1) c y1 y2 y3 = fS_run_16 n p1 y1 y2 (y3 + (1 : Int32)) := by simp only [fS_run_16, if_neg h1, e1, ab_bd_s, if_pos h2]
        exact ab_W.weak (ih p1 y1 y2 (y3 + (1 : Int32)) v (e.symm.trans hv)) ⟨rfl, rfl, rfl, rfl, trivial⟩
      · refine ab_go 5 [16] (pc' := 16) (lo' := [some (.ref 8), some (.int y1), some (.int (y2 + (1 : Int32))), some (.int (y3 + (1 : Int32)))]) (st' := []) (h' := cs_H p1 rest) ckS_run rfl ?_
        have e : fS_run_16 (n + 1) c y1 y2 y3 = fS_run_16 n p1 y1 (y2 + (1 : Int32)) (y3 + (1 : Int32)) := by simp only [fS_run_16, if_neg h1, e1, ab_bd_s, if_neg h2]
        exact ab_W.weak (ih p1 y1 (y2 + (1 : Int32)) (y3 + (1 : Int32)) v (e.symm.trans hv)) ⟨rfl, rfl, rfl, rfl, trivial⟩
theorem tS_run {x1 : Int32} (hX : cs_X X) {v : Int32 × cs_S} (hv : fS_run c x1 = some v) : ab_M X mS_run (d + 6) 0 0 [.ref 8, .int x1] (cs_H c rest) (fun r9 h9 => r9 = some (Value.int v.1) ∧ h9 = cs_H v.2 rest) := by
  refine ab_entry (by decide) (Nat.le_of_ble_eq_true rfl) ?_
  refine ab_go 3 [16] (pc' := 1) (lo' := [some (.ref 8), some (.int x1), none, none]) (st' := [.int x1]) (h' := cs_H c rest) ckS_run rfl ?_
  refine ab_if_lt ckS_run rfl (fun (h1 : x1 < 0) => ?_) (fun (h1 : ¬ (x1 < 0)) => ?_)
  · refine ab_go 3 [16] (pc' := 11) (lo' := [some (.ref 8), some (.int x1), none, none]) (st' := [.int (-1 : Int32)]) (h' := cs_H c rest) ckS_run rfl ?_
    have e : fS_run c x1 = some ((-1 : Int32), c) := by simp only [fS_run, if_pos h1]
    obtain rfl := Option.some.inj (e.symm.trans hv)
    exact ab_iret ckS_run rfl rfl ⟨rfl, rfl⟩
  · refine ab_go 4 [16] (pc' := 7) (lo' := [some (.ref 8), some (.int x1), none, none]) (st' := [.int (100 : Int32), .int x1]) (h' := cs_H c rest) ckS_run rfl ?_
    refine ab_icmp_le ckS_run rfl (fun (h2 : x1 ≤ (100 : Int32)) => ?_) (fun (h2 : ¬ (x1 ≤ (100 : Int32))) => ?_)
    · refine ab_go 6 [16] (pc' := 16) (lo' := [some (.ref 8), some (.int x1), some (.int (0 : Int32)), some (.int (0 : Int32))]) (st' := []) (h' := cs_H c rest) ckS_run rfl ?_
      have e : fS_run c x1 = fS_run_16 102 c x1 (0 : Int32) (0 : Int32) := by simp only [fS_run, if_neg h1, if_pos h2]
      exact ab_W.weak (tS_run_16 hX 102 c x1 (0 : Int32) (0 : Int32) v (e.symm.trans hv)) ⟨rfl, rfl, rfl, rfl, trivial⟩
    · refine ab_go 3 [16] (pc' := 11) (lo' := [some (.ref 8), some (.int x1), none, none]) (st' := [.int (-1 : Int32)]) (h' := cs_H c rest) ckS_run rfl ?_
      have e : fS_run c x1 = some ((-1 : Int32), c) := by simp only [fS_run, if_neg h1, if_neg h2]
      obtain rfl := Option.some.inj (e.symm.trans hv)
      exact ab_iret ckS_run rfl rfl ⟨rfl, rfl⟩
def fS_bus (c : cs_S) (x1 : Int32) : Option (cs_S) := (ab_bd (fB_isBusOn c) (fun p1 => (if x1 = p1 then (some c) else (ab_bd (fB_setBus c x1) (fun p2 => (if x1 = 0 then (let p3 := fB_clear p2; (ab_bd (fS_fault p3 (33088 : Int32)) (fun p4 => (some p4)))) else (some p2)))))))
theorem tS_bus {x1 : Int32} {v : cs_S} (hv : fS_bus c x1 = some v) : ab_M X mS_bus (d + 3) 0 0 [.ref 8, .int x1] (cs_H c rest) (fun r9 h9 => r9 = none ∧ h9 = cs_H v rest) := by
  refine ab_entry (by decide) (Nat.le_of_ble_eq_true rfl) ?_
  refine ab_go 5 [] (pc' := 5) (lo' := [some (.ref 8), some (.int x1)]) (st' := [.ref 10, .int x1]) (h' := cs_H c rest) ckS_bus rfl ?_
  rcases e1 : fB_isBusOn c with _ | p1
  · exact ab_no hv (by simp only [fS_bus, e1, ab_bd_n])
  refine ab_callV (bc2 := 0) (bs2 := 0) (as := []) (rest := [_]) ckS_bus rfl (by decide +kernel) wB_isBusOn (tB_isBusOn (d := d + 2) (c := c) (v := p1) e1) rfl rfl (by omega) ⟨Nat.le_refl _, Nat.le_refl _⟩ (Nat.le_of_ble_eq_true rfl) ?_
  rintro _ _ ⟨rfl, rfl⟩
  refine ab_icmp_ne ckS_bus rfl (fun (h1 : ¬ (x1 = p1)) => ?_) (fun (h1 : x1 = p1) => ?_)
  · refine ab_go 5 [] (pc' := 17) (lo' := [some (.ref 8), some (.int x1)]) (st' := [.int x1, .ref 10]) (h' := cs_H c rest) ckS_bus rfl ?_
    rcases e2 : fB_setBus c x1 with _ | p2
    · exact ab_no hv (by simp only [fS_bus, e1, ab_bd_s, if_neg h1, e2, ab_bd_n])
    refine ab_callV (bc2 := 0) (bs2 := 0) (as := [_]) (rest := []) ckS_bus rfl (by decide +kernel) wB_setBus (tB_setBus (d := d + 2) (x1 := x1) (c := c) (v := p2) e2) rfl rfl (by omega) ⟨Nat.le_refl _, Nat.le_refl _⟩ (Nat.le_of_ble_eq_true rfl) ?_
    rintro _ _ ⟨rfl, rfl⟩
    refine ab_go 3 [] (pc' := 21) (lo' := [some (.ref 8), some (.int x1)]) (st' := [.int x1]) (h' := cs_H p2 rest) ckS_bus rfl ?_
    refine ab_if_ne ckS_bus rfl (fun (h2 : ¬ (x1 = 0)) => ?_) (fun (h2 : x1 = 0) => ?_)
    · have e : fS_bus c x1 = some p2 := by simp only [fS_bus, e1, ab_bd_s, if_neg h1, e2, ab_bd_s, if_neg h2]
      obtain rfl := Option.some.inj (e.symm.trans hv)
      exact ab_vret ckS_bus rfl rfl ⟨rfl, rfl⟩
    · refine ab_go 4 [] (pc' := 28) (lo' := [some (.ref 8), some (.int x1)]) (st' := [.ref 10]) (h' := cs_H p2 rest) ckS_bus rfl ?_
      refine ab_callV (bc2 := 0) (bs2 := 0) (as := []) (rest := []) ckS_bus rfl (by decide +kernel) wB_clear (tB_clear (d := d + 2) (c := p2)) rfl rfl (by omega) ⟨Nat.le_refl _, Nat.le_refl _⟩ (Nat.le_of_ble_eq_true rfl) ?_
      rintro _ _ ⟨rfl, rfl⟩
      generalize e3 : fB_clear p2 = p3
      refine ab_go 4 [] (pc' := 34) (lo' := [some (.ref 8), some (.int x1)]) (st' := [.int (33088 : Int32), .ref 8]) (h' := cs_H p3 rest) ckS_bus rfl ?_
      rcases e4 : fS_fault p3 (33088 : Int32) with _ | p4
      · exact ab_no hv (by simp only [fS_bus, e1, ab_bd_s, if_neg h1, e2, ab_bd_s, if_pos h2, e3, e4, ab_bd_n])
      refine ab_callV (bc2 := 0) (bs2 := 0) (as := [_]) (rest := []) ckS_bus rfl (by decide +kernel) wS_fault (tS_fault (d := d) (x1 := (33088 : Int32)) (c := p3) (v := p4) e4) rfl rfl (by omega) ⟨Nat.le_refl _, Nat.le_refl _⟩ (Nat.le_of_ble_eq_true rfl) ?_
      rintro _ _ ⟨rfl, rfl⟩
      have e : fS_bus c x1 = some p4 := by simp only [fS_bus, e1, ab_bd_s, if_neg h1, e2, ab_bd_s, if_pos h2, e3, e4, ab_bd_s]
      obtain rfl := Option.some.inj (e.symm.trans hv)
      exact ab_vret ckS_bus rfl rfl ⟨rfl, rfl⟩
  · have e : fS_bus c x1 = some c := by simp only [fS_bus, e1, ab_bd_s, if_pos h1]
    obtain rfl := Option.some.inj (e.symm.trans hv)
    exact ab_vret ckS_bus rfl rfl ⟨rfl, rfl⟩
def fS_restart (c : cs_S)  : Option (cs_S) := (ab_bd (fS_comeUp c) (fun p1 => (some p1)))
theorem tS_restart (hX : cs_X X) {v : cs_S} (hv : fS_restart c = some v) : ab_M X mS_restart (d + 3) 0 0 [.ref 8] (cs_H c rest) (fun r9 h9 => r9 = none ∧ h9 = cs_H v rest) := by
  refine ab_entry (by decide) (Nat.le_of_ble_eq_true rfl) ?_
  refine ab_go 3 [] (pc' := 1) (lo' := [some (.ref 8)]) (st' := [.ref 8]) (h' := cs_H c rest) ckS_restart rfl ?_
  rcases e1 : fS_comeUp c with _ | p1
  · exact ab_no hv (by simp only [fS_restart, e1, ab_bd_n])
  refine ab_callV (bc2 := 0) (bs2 := 0) (as := []) (rest := []) ckS_restart rfl (by decide +kernel) wS_comeUp (tS_comeUp (d := d) (c := c) hX (v := p1) e1) rfl rfl (by omega) ⟨Nat.le_refl _, Nat.le_refl _⟩ (Nat.le_of_ble_eq_true rfl) ?_
  rintro _ _ ⟨rfl, rfl⟩
  have e : fS_restart c = some p1 := by simp only [fS_restart, e1, ab_bd_s]
  obtain rfl := Option.some.inj (e.symm.trans hv)
  exact ab_vret ckS_restart rfl rfl ⟨rfl, rfl⟩
def fS_nextIdentifier (c : cs_S)  : Int32 := (fB_firstIdentifier c)
theorem tS_nextIdentifier : ab_M X mS_nextIdentifier (d + 1) 0 0 [.ref 8] (cs_H c rest) (fun r9 h9 => r9 = some (Value.int (fS_nextIdentifier c)) ∧ h9 = cs_H c rest) := by
  refine ab_entry (by decide) (Nat.le_of_ble_eq_true rfl) ?_
  refine ab_go 4 [] (pc' := 4) (lo' := [some (.ref 8)]) (st' := [.ref 10]) (h' := cs_H c rest) ckS_nextIdentifier rfl ?_
  refine ab_callV (bc2 := 0) (bs2 := 0) (as := []) (rest := []) ckS_nextIdentifier rfl (by decide +kernel) wB_firstIdentifier (tB_firstIdentifier (d := d) (c := c)) rfl rfl (by omega) ⟨Nat.le_refl _, Nat.le_refl _⟩ (Nat.le_of_ble_eq_true rfl) ?_
  rintro _ _ ⟨rfl, rfl⟩
  have e : fS_nextIdentifier c = (fB_firstIdentifier c) := by simp only [fS_nextIdentifier]
  exact ab_iret ckS_nextIdentifier rfl rfl ⟨(congrArg (fun q : Int32 => some (Value.int q)) e).symm, rfl⟩
def fS_nextLength (c : cs_S)  : Int32 := (fB_firstLength c)
theorem tS_nextLength : ab_M X mS_nextLength (d + 1) 0 0 [.ref 8] (cs_H c rest) (fun r9 h9 => r9 = some (Value.int (fS_nextLength c)) ∧ h9 = cs_H c rest) := by
  refine ab_entry (by decide) (Nat.le_of_ble_eq_true rfl) ?_
  refine ab_go 4 [] (pc' := 4) (lo' := [some (.ref 8)]) (st' := [.ref 10]) (h' := cs_H c rest) ckS_nextLength rfl ?_
  refine ab_callV (bc2 := 0) (bs2 := 0) (as := []) (rest := []) ckS_nextLength rfl (by decide +kernel) wB_firstLength (tB_firstLength (d := d) (c := c)) rfl rfl (by omega) ⟨Nat.le_refl _, Nat.le_refl _⟩ (Nat.le_of_ble_eq_true rfl) ?_
  rintro _ _ ⟨rfl, rfl⟩
  have e : fS_nextLength c = (fB_firstLength c) := by simp only [fS_nextLength]
  exact ab_iret ckS_nextLength rfl rfl ⟨(congrArg (fun q : Int32 => some (Value.int q)) e).symm, rfl⟩
def fS_nextData (c : cs_S)  : Option (Int64) := (ab_bd (fB_firstData c) (fun p1 => (some p1)))
theorem tS_nextData {v : Int64} (hv : fS_nextData c = some v) : ab_M X mS_nextData (d + 1) 0 0 [.ref 8] (cs_H c rest) (fun r9 h9 => r9 = some (Value.long v) ∧ h9 = cs_H c rest) := by
  refine ab_entry (by decide) (Nat.le_of_ble_eq_true rfl) ?_
  refine ab_go 4 [] (pc' := 4) (lo' := [some (.ref 8)]) (st' := [.ref 10]) (h' := cs_H c rest) ckS_nextData rfl ?_
  rcases e1 : fB_firstData c with _ | p1
  · exact ab_no hv (by simp only [fS_nextData, e1, ab_bd_n])
  refine ab_callV (bc2 := 0) (bs2 := 0) (as := []) (rest := []) ckS_nextData rfl (by decide +kernel) wB_firstData (tB_firstData (d := d) (c := c) (v := p1) e1) rfl rfl (by omega) ⟨Nat.le_refl _, Nat.le_refl _⟩ (Nat.le_of_ble_eq_true rfl) ?_
  rintro _ _ ⟨rfl, rfl⟩
  have e : fS_nextData c = some p1 := by simp only [fS_nextData, e1, ab_bd_s]
  obtain rfl := Option.some.inj (e.symm.trans hv)
  exact ab_lret ckS_nextData rfl rfl ⟨rfl, rfl⟩
def fS_take (c : cs_S)  : Option (Int32 × cs_S) := (ab_bd (fB_dropFirst c) (fun p1 => (if ab_z01 p1.1 = true then (some (p1.1, p1.2)) else none)))
theorem tS_take {v : Int32 × cs_S} (hv : fS_take c = some v) : ab_M X mS_take (d + 1) 0 0 [.ref 8] (cs_H c rest) (fun r9 h9 => r9 = some (Value.int v.1) ∧ h9 = cs_H v.2 rest) := by
  refine ab_entry (by decide) (Nat.le_of_ble_eq_true rfl) ?_
  refine ab_go 4 [] (pc' := 4) (lo' := [some (.ref 8)]) (st' := [.ref 10]) (h' := cs_H c rest) ckS_take rfl ?_
  rcases e1 : fB_dropFirst c with _ | p1
  · exact ab_no hv (by simp only [fS_take, e1, ab_bd_n])
  refine ab_callV (bc2 := 0) (bs2 := 0) (as := []) (rest := []) ckS_take rfl (by decide +kernel) wB_dropFirst (tB_dropFirst (d := d) (c := c) (v := p1) e1) rfl rfl (by omega) ⟨Nat.le_refl _, Nat.le_refl _⟩ (Nat.le_of_ble_eq_true rfl) ?_
  rintro _ _ ⟨rfl, rfl⟩
  by_cases h1 : ab_z01 p1.1 = true
  case neg => exact ab_no hv (by simp only [fS_take, e1, ab_bd_s, if_neg h1])
  have e : fS_take c = some (p1.1, p1.2) := by simp only [fS_take, e1, ab_bd_s, if_pos h1]
  obtain rfl := Option.some.inj (e.symm.trans hv)
  exact ab_zret ckS_take rfl rfl (ab_z01_ok h1) ⟨rfl, rfl⟩
def fS_waiting (c : cs_S)  : Int32 := (fB_size c)
theorem tS_waiting : ab_M X mS_waiting (d + 1) 0 0 [.ref 8] (cs_H c rest) (fun r9 h9 => r9 = some (Value.int (fS_waiting c)) ∧ h9 = cs_H c rest) := by
  refine ab_entry (by decide) (Nat.le_of_ble_eq_true rfl) ?_
  refine ab_go 4 [] (pc' := 4) (lo' := [some (.ref 8)]) (st' := [.ref 10]) (h' := cs_H c rest) ckS_waiting rfl ?_
  refine ab_callV (bc2 := 0) (bs2 := 0) (as := []) (rest := []) ckS_waiting rfl (by decide +kernel) wB_size (tB_size (d := d) (c := c)) rfl rfl (by omega) ⟨Nat.le_refl _, Nat.le_refl _⟩ (Nat.le_of_ble_eq_true rfl) ?_
  rintro _ _ ⟨rfl, rfl⟩
  have e : fS_waiting c = (fB_size c) := by simp only [fS_waiting]
  exact ab_iret ckS_waiting rfl rfl ⟨(congrArg (fun q : Int32 => some (Value.int q)) e).symm, rfl⟩
def fS_lost (c : cs_S)  : Int32 := (fB_lostFrames c)
theorem tS_lost : ab_M X mS_lost (d + 1) 0 0 [.ref 8] (cs_H c rest) (fun r9 h9 => r9 = some (Value.int (fS_lost c)) ∧ h9 = cs_H c rest) := by
  refine ab_entry (by decide) (Nat.le_of_ble_eq_true rfl) ?_
  refine ab_go 4 [] (pc' := 4) (lo' := [some (.ref 8)]) (st' := [.ref 10]) (h' := cs_H c rest) ckS_lost rfl ?_
  refine ab_callV (bc2 := 0) (bs2 := 0) (as := []) (rest := []) ckS_lost rfl (by decide +kernel) wB_lostFrames (tB_lostFrames (d := d) (c := c)) rfl rfl (by omega) ⟨Nat.le_refl _, Nat.le_refl _⟩ (Nat.le_of_ble_eq_true rfl) ?_
  rintro _ _ ⟨rfl, rfl⟩
  have e : fS_lost c = (fB_lostFrames c) := by simp only [fS_lost]
  exact ab_iret ckS_lost rfl rfl ⟨(congrArg (fun q : Int32 => some (Value.int q)) e).symm, rfl⟩
def fS_object (c : cs_S) (x1 : Int32) (x2 : Int32) : Option (Int32 × cs_S) := (ab_bd (fC_find x1 x2) (fun p1 => (if p1 = (-1 : Int32) then (some ((0 : Int32), c)) else (ab_bd (fC_kind p1) (fun p2 => (if p2 = (1 : Int32) then (some ((0 : Int32), c)) else (ab_bd (fS_refreshStatus c) (fun p3 => (if ab_inb p1 30 = true then (some ((p3.1 1 (p1).toNatClampNeg), p3)) else none)))))))))
theorem tS_object {x1 : Int32} {x2 : Int32} (hX : cs_X X) {v : Int32 × cs_S} (hv : fS_object c x1 x2 = some v) : ab_M X mS_object (d + 4) 0 0 [.ref 8, .int x1, .int x2] (cs_H c rest) (fun r9 h9 => r9 = some (Value.int v.1) ∧ h9 = cs_H v.2 rest) := by
  refine ab_entry (by decide) (Nat.le_of_ble_eq_true rfl) ?_
  refine ab_go 4 [] (pc' := 2) (lo' := [some (.ref 8), some (.int x1), some (.int x2), none]) (st' := [.int x2, .int x1]) (h' := cs_H c rest) ckS_object rfl ?_
  rcases e1 : fC_find x1 x2 with _ | p1
  · exact ab_no hv (by simp only [fS_object, e1, ab_bd_n])
  refine ab_callS (bc2 := 0) (bs2 := 0) (as := [_, _]) (rest := []) ckS_object rfl (by decide +kernel) wC_find (tC_find (d := d + 3) (x1 := x1) (x2 := x2) hX (v := p1) e1) (by omega) ⟨Nat.le_refl _, Nat.le_refl _⟩ (Nat.le_of_ble_eq_true rfl) ?_
  rintro _ _ ⟨rfl, rfl⟩
  refine ab_go 5 [] (pc' := 8) (lo' := [some (.ref 8), some (.int x1), some (.int x2), some (.int p1)]) (st' := [.int (-1 : Int32), .int p1]) (h' := cs_H c rest) ckS_object rfl ?_
  refine ab_icmp_eq ckS_object rfl (fun (h1 : p1 = (-1 : Int32)) => ?_) (fun (h1 : ¬ (p1 = (-1 : Int32))) => ?_)
  · refine ab_go 3 [] (pc' := 20) (lo' := [some (.ref 8), some (.int x1), some (.int x2), some (.int p1)]) (st' := [.int (0 : Int32)]) (h' := cs_H c rest) ckS_object rfl ?_
    have e : fS_object c x1 x2 = some ((0 : Int32), c) := by simp only [fS_object, e1, ab_bd_s, if_pos h1]
    obtain rfl := Option.some.inj (e.symm.trans hv)
    exact ab_iret ckS_object rfl rfl ⟨rfl, rfl⟩
  · refine ab_go 3 [] (pc' := 12) (lo' := [some (.ref 8), some (.int x1), some (.int x2), some (.int p1)]) (st' := [.int p1]) (h' := cs_H c rest) ckS_object rfl ?_
    rcases e2 : fC_kind p1 with _ | p2
    · exact ab_no hv (by simp only [fS_object, e1, ab_bd_s, if_neg h1, e2, ab_bd_n])
    refine ab_callS (bc2 := 0) (bs2 := 0) (as := [_]) (rest := []) ckS_object rfl (by decide +kernel) wC_kind (tC_kind (d := d + 3) (x1 := p1) hX (v := p2) e2) (by omega) ⟨Nat.le_refl _, Nat.le_refl _⟩ (Nat.le_of_ble_eq_true rfl) ?_
    rintro _ _ ⟨rfl, rfl⟩
    refine ab_go 3 [] (pc' := 16) (lo' := [some (.ref 8), some (.int x1), some (.int x2), some (.int p1)]) (st' := [.int (1 : Int32), .int p2]) (h' := cs_H c rest) ckS_object rfl ?_
    refine ab_icmp_ne ckS_object rfl (fun (h2 : ¬ (p2 = (1 : Int32))) => ?_) (fun (h2 : p2 = (1 : Int32)) => ?_)
    · refine ab_go 3 [] (pc' := 22) (lo' := [some (.ref 8), some (.int x1), some (.int x2), some (.int p1)]) (st' := [.ref 8]) (h' := cs_H c rest) ckS_object rfl ?_
      rcases e3 : fS_refreshStatus c with _ | p3
      · exact ab_no hv (by simp only [fS_object, e1, ab_bd_s, if_neg h1, e2, ab_bd_s, if_neg h2, e3, ab_bd_n])
      refine ab_callV (bc2 := 0) (bs2 := 0) (as := []) (rest := []) ckS_object rfl (by decide +kernel) wS_refreshStatus (tS_refreshStatus (d := d) (c := c) hX (v := p3) e3) rfl rfl (by omega) ⟨Nat.le_refl _, Nat.le_refl _⟩ (Nat.le_of_ble_eq_true rfl) ?_
      rintro _ _ ⟨rfl, rfl⟩
      refine ab_go 5 [] (pc' := 30) (lo' := [some (.ref 8), some (.int x1), some (.int x2), some (.int p1)]) (st' := [.int p1, .ref 9]) (h' := cs_H p3 rest) ckS_object rfl ?_
      by_cases h3 : ab_inb p1 30 = true
      case neg => exact ab_no hv (by simp only [fS_object, e1, ab_bd_s, if_neg h1, e2, ab_bd_s, if_neg h2, e3, ab_bd_s, if_neg h3])
      refine ab_iald ckS_object rfl rfl (ab_inb_ok h3) ?_
      have e : fS_object c x1 x2 = some ((p3.1 1 (p1).toNatClampNeg), p3) := by simp only [fS_object, e1, ab_bd_s, if_neg h1, e2, ab_bd_s, if_neg h2, e3, ab_bd_s, if_pos h3]
      obtain rfl := Option.some.inj (e.symm.trans hv)
      exact ab_iret ckS_object rfl rfl ⟨rfl, rfl⟩
    · refine ab_go 3 [] (pc' := 20) (lo' := [some (.ref 8), some (.int x1), some (.int x2), some (.int p1)]) (st' := [.int (0 : Int32)]) (h' := cs_H c rest) ckS_object rfl ?_
      have e : fS_object c x1 x2 = some ((0 : Int32), c) := by simp only [fS_object, e1, ab_bd_s, if_neg h1, e2, ab_bd_s, if_pos h2]
      obtain rfl := Option.some.inj (e.symm.trans hv)
      exact ab_iret ckS_object rfl rfl ⟨rfl, rfl⟩
def fS_network (c : cs_S)  : Int32 := (c.1 0 1)
theorem tS_network : ab_M X mS_network (d) 0 0 [.ref 8] (cs_H c rest) (fun r9 h9 => r9 = some (Value.int (fS_network c)) ∧ h9 = cs_H c rest) := by
  refine ab_entry (by decide) (Nat.le_of_ble_eq_true rfl) ?_
  refine ab_go 4 [] (pc' := 4) (lo' := [some (.ref 8)]) (st' := [.int (c.1 0 1)]) (h' := cs_H c rest) ckS_network rfl ?_
  have e : fS_network c = (c.1 0 1) := by simp only [fS_network]
  exact ab_iret ckS_network rfl rfl ⟨(congrArg (fun q : Int32 => some (Value.int q)) e).symm, rfl⟩
def fS_power (c : cs_S)  : Int32 := (fP_current c)
theorem tS_power : ab_M X mS_power (d + 1) 0 0 [.ref 8] (cs_H c rest) (fun r9 h9 => r9 = some (Value.int (fS_power c)) ∧ h9 = cs_H c rest) := by
  refine ab_entry (by decide) (Nat.le_of_ble_eq_true rfl) ?_
  refine ab_go 4 [] (pc' := 4) (lo' := [some (.ref 8)]) (st' := [.ref 19]) (h' := cs_H c rest) ckS_power rfl ?_
  refine ab_callV (bc2 := 0) (bs2 := 0) (as := []) (rest := []) ckS_power rfl (by decide +kernel) wP_current (tP_current (d := d) (c := c)) rfl rfl (by omega) ⟨Nat.le_refl _, Nat.le_refl _⟩ (Nat.le_of_ble_eq_true rfl) ?_
  rintro _ _ ⟨rfl, rfl⟩
  have e : fS_power c = (fP_current c) := by simp only [fS_power]
  exact ab_iret ckS_power rfl rfl ⟨(congrArg (fun q : Int32 => some (Value.int q)) e).symm, rfl⟩
def fS_speed (c : cs_S)  : Int32 := (c.1 1 21)
theorem tS_speed : ab_M X mS_speed (d) 0 0 [.ref 8] (cs_H c rest) (fun r9 h9 => r9 = some (Value.int (fS_speed c)) ∧ h9 = cs_H c rest) := by
  refine ab_entry (by decide) (Nat.le_of_ble_eq_true rfl) ?_
  refine ab_go 6 [] (pc' := 7) (lo' := [some (.ref 8)]) (st' := [.int (c.1 1 21)]) (h' := cs_H c rest) ckS_speed rfl ?_
  have e : fS_speed c = (c.1 1 21) := by simp only [fS_speed]
  exact ab_iret ckS_speed rfl rfl ⟨(congrArg (fun q : Int32 => some (Value.int q)) e).symm, rfl⟩
def fS_position (c : cs_S)  : Int32 := (fV_demanded c)
theorem tS_position : ab_M X mS_position (d + 1) 0 0 [.ref 8] (cs_H c rest) (fun r9 h9 => r9 = some (Value.int (fS_position c)) ∧ h9 = cs_H c rest) := by
  refine ab_entry (by decide) (Nat.le_of_ble_eq_true rfl) ?_
  refine ab_go 4 [] (pc' := 4) (lo' := [some (.ref 8)]) (st' := [.ref 20]) (h' := cs_H c rest) ckS_position rfl ?_
  refine ab_callV (bc2 := 0) (bs2 := 0) (as := []) (rest := []) ckS_position rfl (by decide +kernel) wV_demanded (tV_demanded (d := d) (c := c)) rfl rfl (by omega) ⟨Nat.le_refl _, Nat.le_refl _⟩ (Nat.le_of_ble_eq_true rfl) ?_
  rintro _ _ ⟨rfl, rfl⟩
  have e : fS_position c = (fV_demanded c) := by simp only [fS_position]
  exact ab_iret ckS_position rfl rfl ⟨(congrArg (fun q : Int32 => some (Value.int q)) e).symm, rfl⟩
def fS_word (c : cs_S) (x1 : Int32) (x2 : Int32) : Option (Int32) := (ab_bd (fT_wordAt c x1 x2) (fun p1 => (some p1)))
theorem tS_word {x1 : Int32} {x2 : Int32} {v : Int32} (hv : fS_word c x1 x2 = some v) : ab_M X mS_word (d + 1) 0 0 [.ref 8, .int x1, .int x2] (cs_H c rest) (fun r9 h9 => r9 = some (Value.int v) ∧ h9 = cs_H c rest) := by
  refine ab_entry (by decide) (Nat.le_of_ble_eq_true rfl) ?_
  refine ab_go 6 [] (pc' := 6) (lo' := [some (.ref 8), some (.int x1), some (.int x2)]) (st' := [.int x2, .int x1, .ref 14]) (h' := cs_H c rest) ckS_word rfl ?_
  rcases e1 : fT_wordAt c x1 x2 with _ | p1
  · exact ab_no hv (by simp only [fS_word, e1, ab_bd_n])
  refine ab_callV (bc2 := 0) (bs2 := 0) (as := [_, _]) (rest := []) ckS_word rfl (by decide +kernel) wT_wordAt (tT_wordAt (d := d) (x1 := x1) (x2 := x2) (c := c) (v := p1) e1) rfl rfl (by omega) ⟨Nat.le_refl _, Nat.le_refl _⟩ (Nat.le_of_ble_eq_true rfl) ?_
  rintro _ _ ⟨rfl, rfl⟩
  have e : fS_word c x1 x2 = some p1 := by simp only [fS_word, e1, ab_bd_s]
  obtain rfl := Option.some.inj (e.symm.trans hv)
  exact ab_iret ckS_word rfl rfl ⟨rfl, rfl⟩
end LEAF
end
