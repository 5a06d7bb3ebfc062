section
-- ===== PART A: goes FIRST, ahead of the names: the tables' words, and 'selects' of the private methods out of them =====
/-- a private method of a class that the tables say can be made, by its rows of tables_1 -/
def lw_okq (q : MethodName × Nat) : Prop := (q.1.cls ≠ "java/lang/invoke/MethodHandle" ∧ q.1.cls ≠ "java/lang/invoke/VarHandle") ∧ Cond.instantiable q.1.cls q.2 ∈ tables_1 ∧ Cond.privateMethod q.1 ∈ tables_1 ∧ Cond.instanceMethod q.1 ∈ tables_1
theorem lw_p0 : lw_okq (⟨"BusServo", "comeUp", "()V"⟩, 10) := ⟨⟨by decide +kernel, by decide +kernel⟩, List.mem_of_getElem? (i := 14) (by decide +kernel), List.mem_of_getElem? (i := 131) (by decide +kernel), List.mem_of_getElem? (i := 132) (by decide +kernel)⟩
theorem lw_p1 : lw_okq (⟨"BusServo", "acceptNetwork", "(IJ)I"⟩, 10) := ⟨⟨by decide +kernel, by decide +kernel⟩, List.mem_of_getElem? (i := 14) (by decide +kernel), List.mem_of_getElem? (i := 220) (by decide +kernel), List.mem_of_getElem? (i := 221) (by decide +kernel)⟩
theorem lw_p2 : lw_okq (⟨"BusServo", "enterOperating", "()V"⟩, 10) := ⟨⟨by decide +kernel, by decide +kernel⟩, List.mem_of_getElem? (i := 14) (by decide +kernel), List.mem_of_getElem? (i := 224) (by decide +kernel), List.mem_of_getElem? (i := 225) (by decide +kernel)⟩
theorem lw_p3 : lw_okq (⟨"BusServo", "acceptSync", "()I"⟩, 10) := ⟨⟨by decide +kernel, by decide +kernel⟩, List.mem_of_getElem? (i := 14) (by decide +kernel), List.mem_of_getElem? (i := 232) (by decide +kernel), List.mem_of_getElem? (i := 233) (by decide +kernel)⟩
theorem lw_p4 : lw_okq (⟨"BusServo", "refreshStatus", "()V"⟩, 10) := ⟨⟨by decide +kernel, by decide +kernel⟩, List.mem_of_getElem? (i := 14) (by decide +kernel), List.mem_of_getElem? (i := 240) (by decide +kernel), List.mem_of_getElem? (i := 241) (by decide +kernel)⟩
theorem lw_p5 : lw_okq (⟨"BusServo$Motion", "positionAim", "()I"⟩, 2) := ⟨⟨by decide +kernel, by decide +kernel⟩, List.mem_of_getElem? (i := 83) (by decide +kernel), List.mem_of_getElem? (i := 258) (by decide +kernel), List.mem_of_getElem? (i := 259) (by decide +kernel)⟩
theorem lw_p6 : lw_okq (⟨"BusServo", "sendOut", "(JI)V"⟩, 10) := ⟨⟨by decide +kernel, by decide +kernel⟩, List.mem_of_getElem? (i := 14) (by decide +kernel), List.mem_of_getElem? (i := 285) (by decide +kernel), List.mem_of_getElem? (i := 286) (by decide +kernel)⟩
theorem lw_p7 : lw_okq (⟨"BusServo", "acceptIn", "(IJ)I"⟩, 10) := ⟨⟨by decide +kernel, by decide +kernel⟩, List.mem_of_getElem? (i := 14) (by decide +kernel), List.mem_of_getElem? (i := 293) (by decide +kernel), List.mem_of_getElem? (i := 294) (by decide +kernel)⟩
theorem lw_p8 : lw_okq (⟨"BusServo", "acceptChannel", "(IJ)I"⟩, 10) := ⟨⟨by decide +kernel, by decide +kernel⟩, List.mem_of_getElem? (i := 14) (by decide +kernel), List.mem_of_getElem? (i := 315) (by decide +kernel), List.mem_of_getElem? (i := 316) (by decide +kernel)⟩
theorem lw_p9 : lw_okq (⟨"BusServo", "sendAnswer", "(JII)V"⟩, 10) := ⟨⟨by decide +kernel, by decide +kernel⟩, List.mem_of_getElem? (i := 14) (by decide +kernel), List.mem_of_getElem? (i := 333) (by decide +kernel), List.mem_of_getElem? (i := 334) (by decide +kernel)⟩
theorem lw_p10 : lw_okq (⟨"BusServo", "answerRead", "(JI)V"⟩, 10) := ⟨⟨by decide +kernel, by decide +kernel⟩, List.mem_of_getElem? (i := 14) (by decide +kernel), List.mem_of_getElem? (i := 338) (by decide +kernel), List.mem_of_getElem? (i := 339) (by decide +kernel)⟩
theorem lw_p11 : lw_okq (⟨"BusServo", "answerWrite", "(JII)V"⟩, 10) := ⟨⟨by decide +kernel, by decide +kernel⟩, List.mem_of_getElem? (i := 14) (by decide +kernel), List.mem_of_getElem? (i := 351) (by decide +kernel), List.mem_of_getElem? (i := 352) (by decide +kernel)⟩
theorem lw_p12 : lw_okq (⟨"BusServo", "refusalOfWrite", "(III)I"⟩, 10) := ⟨⟨by decide +kernel, by decide +kernel⟩, List.mem_of_getElem? (i := 14) (by decide +kernel), List.mem_of_getElem? (i := 356) (by decide +kernel), List.mem_of_getElem? (i := 357) (by decide +kernel)⟩
theorem lw_p13 : lw_okq (⟨"BusServo", "isWrittenNow", "(I)Z"⟩, 10) := ⟨⟨by decide +kernel, by decide +kernel⟩, List.mem_of_getElem? (i := 14) (by decide +kernel), List.mem_of_getElem? (i := 362) (by decide +kernel), List.mem_of_getElem? (i := 363) (by decide +kernel)⟩
theorem lw_p14 : lw_okq (⟨"BusServo", "refusalOfSave", "(II)I"⟩, 10) := ⟨⟨by decide +kernel, by decide +kernel⟩, List.mem_of_getElem? (i := 14) (by decide +kernel), List.mem_of_getElem? (i := 378) (by decide +kernel), List.mem_of_getElem? (i := 379) (by decide +kernel)⟩
theorem lw_p15 : lw_okq (⟨"BusServo", "write", "(II)V"⟩, 10) := ⟨⟨by decide +kernel, by decide +kernel⟩, List.mem_of_getElem? (i := 14) (by decide +kernel), List.mem_of_getElem? (i := 398) (by decide +kernel), List.mem_of_getElem? (i := 399) (by decide +kernel)⟩
def lw_privs_1 : List (MethodName × Nat) := [(⟨"BusServo", "comeUp", "()V"⟩, 10), (⟨"BusServo", "acceptNetwork", "(IJ)I"⟩, 10), (⟨"BusServo", "enterOperating", "()V"⟩, 10), (⟨"BusServo", "acceptSync", "()I"⟩, 10), (⟨"BusServo", "refreshStatus", "()V"⟩, 10), (⟨"BusServo$Motion", "positionAim", "()I"⟩, 2), (⟨"BusServo", "sendOut", "(JI)V"⟩, 10), (⟨"BusServo", "acceptIn", "(IJ)I"⟩, 10), (⟨"BusServo", "acceptChannel", "(IJ)I"⟩, 10), (⟨"BusServo", "sendAnswer", "(JII)V"⟩, 10), (⟨"BusServo", "answerRead", "(JI)V"⟩, 10), (⟨"BusServo", "answerWrite", "(JII)V"⟩, 10), (⟨"BusServo", "refusalOfWrite", "(III)I"⟩, 10), (⟨"BusServo", "isWrittenNow", "(I)Z"⟩, 10), (⟨"BusServo", "refusalOfSave", "(II)I"⟩, 10), (⟨"BusServo", "write", "(II)V"⟩, 10)]
theorem lw_r1 : ∀ q ∈ lw_privs_1, lw_okq q := List.forall_mem_cons.mpr ⟨lw_p0, List.forall_mem_cons.mpr ⟨lw_p1, List.forall_mem_cons.mpr ⟨lw_p2, List.forall_mem_cons.mpr ⟨lw_p3, List.forall_mem_cons.mpr ⟨lw_p4, List.forall_mem_cons.mpr ⟨lw_p5, List.forall_mem_cons.mpr ⟨lw_p6, List.forall_mem_cons.mpr ⟨lw_p7, List.forall_mem_cons.mpr ⟨lw_p8, List.forall_mem_cons.mpr ⟨lw_p9, List.forall_mem_cons.mpr ⟨lw_p10, List.forall_mem_cons.mpr ⟨lw_p11, List.forall_mem_cons.mpr ⟨lw_p12, List.forall_mem_cons.mpr ⟨lw_p13, List.forall_mem_cons.mpr ⟨lw_p14, List.forall_mem_cons.mpr ⟨lw_p15, fun _ h => absurd h List.not_mem_nil⟩⟩⟩⟩⟩⟩⟩⟩⟩⟩⟩⟩⟩⟩⟩⟩
theorem lw_p16 : lw_okq (⟨"BusServo$Store", "begin", "()V"⟩, 4) := ⟨⟨by decide +kernel, by decide +kernel⟩, List.mem_of_getElem? (i := 49) (by decide +kernel), List.mem_of_getElem? (i := 406) (by decide +kernel), List.mem_of_getElem? (i := 407) (by decide +kernel)⟩
theorem lw_p17 : lw_okq (⟨"BusServo", "acceptHeartbeat", "(II)I"⟩, 10) := ⟨⟨by decide +kernel, by decide +kernel⟩, List.mem_of_getElem? (i := 14) (by decide +kernel), List.mem_of_getElem? (i := 414) (by decide +kernel), List.mem_of_getElem? (i := 415) (by decide +kernel)⟩
theorem lw_p18 : lw_okq (⟨"BusServo", "watchTime", "()I"⟩, 10) := ⟨⟨by decide +kernel, by decide +kernel⟩, List.mem_of_getElem? (i := 14) (by decide +kernel), List.mem_of_getElem? (i := 418) (by decide +kernel), List.mem_of_getElem? (i := 419) (by decide +kernel)⟩
theorem lw_p19 : lw_okq (⟨"BusServo", "makeTick", "(I)V"⟩, 10) := ⟨⟨by decide +kernel, by decide +kernel⟩, List.mem_of_getElem? (i := 14) (by decide +kernel), List.mem_of_getElem? (i := 432) (by decide +kernel), List.mem_of_getElem? (i := 433) (by decide +kernel)⟩
theorem lw_p20 : lw_okq (⟨"BusServo", "beat", "()V"⟩, 10) := ⟨⟨by decide +kernel, by decide +kernel⟩, List.mem_of_getElem? (i := 14) (by decide +kernel), List.mem_of_getElem? (i := 440) (by decide +kernel), List.mem_of_getElem? (i := 441) (by decide +kernel)⟩
theorem lw_p21 : lw_okq (⟨"BusServo", "fault", "(I)V"⟩, 10) := ⟨⟨by decide +kernel, by decide +kernel⟩, List.mem_of_getElem? (i := 14) (by decide +kernel), List.mem_of_getElem? (i := 450) (by decide +kernel), List.mem_of_getElem? (i := 451) (by decide +kernel)⟩
theorem lw_p22 : lw_okq (⟨"BusServo", "sendEmergency", "(I)V"⟩, 10) := ⟨⟨by decide +kernel, by decide +kernel⟩, List.mem_of_getElem? (i := 14) (by decide +kernel), List.mem_of_getElem? (i := 460) (by decide +kernel), List.mem_of_getElem? (i := 461) (by decide +kernel)⟩
theorem lw_p23 : lw_okq (⟨"BusServo", "obeyControl", "()V"⟩, 10) := ⟨⟨by decide +kernel, by decide +kernel⟩, List.mem_of_getElem? (i := 14) (by decide +kernel), List.mem_of_getElem? (i := 471) (by decide +kernel), List.mem_of_getElem? (i := 472) (by decide +kernel)⟩
theorem lw_p24 : lw_okq (⟨"BusServo$Power", "stateAfter", "(IZ)I"⟩, 2) := ⟨⟨by decide +kernel, by decide +kernel⟩, List.mem_of_getElem? (i := 70) (by decide +kernel), List.mem_of_getElem? (i := 483) (by decide +kernel), List.mem_of_getElem? (i := 484) (by decide +kernel)⟩
theorem lw_p25 : lw_okq (⟨"BusServo", "move", "(I)V"⟩, 10) := ⟨⟨by decide +kernel, by decide +kernel⟩, List.mem_of_getElem? (i := 14) (by decide +kernel), List.mem_of_getElem? (i := 496) (by decide +kernel), List.mem_of_getElem? (i := 497) (by decide +kernel)⟩
theorem lw_p26 : lw_okq (⟨"BusServo$Motion", "approach", "(II)V"⟩, 2) := ⟨⟨by decide +kernel, by decide +kernel⟩, List.mem_of_getElem? (i := 83) (by decide +kernel), List.mem_of_getElem? (i := 504) (by decide +kernel), List.mem_of_getElem? (i := 505) (by decide +kernel)⟩
theorem lw_p27 : lw_okq (⟨"BusServo$Motion", "moveWith", "(I)V"⟩, 2) := ⟨⟨by decide +kernel, by decide +kernel⟩, List.mem_of_getElem? (i := 83) (by decide +kernel), List.mem_of_getElem? (i := 511) (by decide +kernel), List.mem_of_getElem? (i := 512) (by decide +kernel)⟩
theorem lw_p28 : lw_okq (⟨"BusServo$Motion", "fastestThatStops", "(II)I"⟩, 2) := ⟨⟨by decide +kernel, by decide +kernel⟩, List.mem_of_getElem? (i := 83) (by decide +kernel), List.mem_of_getElem? (i := 516) (by decide +kernel), List.mem_of_getElem? (i := 517) (by decide +kernel)⟩
theorem lw_p29 : lw_okq (⟨"BusServo$Motion", "speedAim", "()I"⟩, 2) := ⟨⟨by decide +kernel, by decide +kernel⟩, List.mem_of_getElem? (i := 83) (by decide +kernel), List.mem_of_getElem? (i := 523) (by decide +kernel), List.mem_of_getElem? (i := 524) (by decide +kernel)⟩
theorem lw_p30 : lw_okq (⟨"BusServo", "sendOutWhenDue", "()V"⟩, 10) := ⟨⟨by decide +kernel, by decide +kernel⟩, List.mem_of_getElem? (i := 14) (by decide +kernel), List.mem_of_getElem? (i := 535) (by decide +kernel), List.mem_of_getElem? (i := 536) (by decide +kernel)⟩
theorem lw_p31 : lw_okq (⟨"BusServoModel", "row", "(IIIIIII)V"⟩, 31) := ⟨⟨by decide +kernel, by decide +kernel⟩, List.mem_of_getElem? (i := 643) (by decide +kernel), List.mem_of_getElem? (i := 652) (by decide +kernel), List.mem_of_getElem? (i := 653) (by decide +kernel)⟩
def lw_privs_2 : List (MethodName × Nat) := [(⟨"BusServo$Store", "begin", "()V"⟩, 4), (⟨"BusServo", "acceptHeartbeat", "(II)I"⟩, 10), (⟨"BusServo", "watchTime", "()I"⟩, 10), (⟨"BusServo", "makeTick", "(I)V"⟩, 10), (⟨"BusServo", "beat", "()V"⟩, 10), (⟨"BusServo", "fault", "(I)V"⟩, 10), (⟨"BusServo", "sendEmergency", "(I)V"⟩, 10), (⟨"BusServo", "obeyControl", "()V"⟩, 10), (⟨"BusServo$Power", "stateAfter", "(IZ)I"⟩, 2), (⟨"BusServo", "move", "(I)V"⟩, 10), (⟨"BusServo$Motion", "approach", "(II)V"⟩, 2), (⟨"BusServo$Motion", "moveWith", "(I)V"⟩, 2), (⟨"BusServo$Motion", "fastestThatStops", "(II)I"⟩, 2), (⟨"BusServo$Motion", "speedAim", "()I"⟩, 2), (⟨"BusServo", "sendOutWhenDue", "()V"⟩, 10), (⟨"BusServoModel", "row", "(IIIIIII)V"⟩, 31)]
theorem lw_r2 : ∀ q ∈ lw_privs_2, lw_okq q := List.forall_mem_cons.mpr ⟨lw_p16, List.forall_mem_cons.mpr ⟨lw_p17, List.forall_mem_cons.mpr ⟨lw_p18, List.forall_mem_cons.mpr ⟨lw_p19, List.forall_mem_cons.mpr ⟨lw_p20, List.forall_mem_cons.mpr ⟨lw_p21, List.forall_mem_cons.mpr ⟨lw_p22, List.forall_mem_cons.mpr ⟨lw_p23, List.forall_mem_cons.mpr ⟨lw_p24, List.forall_mem_cons.mpr ⟨lw_p25, List.forall_mem_cons.mpr ⟨lw_p26, List.forall_mem_cons.mpr ⟨lw_p27, List.forall_mem_cons.mpr ⟨lw_p28, List.forall_mem_cons.mpr ⟨lw_p29, List.forall_mem_cons.mpr ⟨lw_p30, List.forall_mem_cons.mpr ⟨lw_p31, fun _ h => absurd h List.not_mem_nil⟩⟩⟩⟩⟩⟩⟩⟩⟩⟩⟩⟩⟩⟩⟩⟩
theorem lw_p32 : lw_okq (⟨"BusServoModel", "send", "(IIJ)V"⟩, 31) := ⟨⟨by decide +kernel, by decide +kernel⟩, List.mem_of_getElem? (i := 643) (by decide +kernel), List.mem_of_getElem? (i := 689) (by decide +kernel), List.mem_of_getElem? (i := 690) (by decide +kernel)⟩
theorem lw_p33 : lw_okq (⟨"BusServoModel", "next", "()I"⟩, 31) := ⟨⟨by decide +kernel, by decide +kernel⟩, List.mem_of_getElem? (i := 643) (by decide +kernel), List.mem_of_getElem? (i := 796) (by decide +kernel), List.mem_of_getElem? (i := 797) (by decide +kernel)⟩
theorem lw_p34 : lw_okq (⟨"BusServoModel", "fault", "(I)V"⟩, 31) := ⟨⟨by decide +kernel, by decide +kernel⟩, List.mem_of_getElem? (i := 643) (by decide +kernel), List.mem_of_getElem? (i := 825) (by decide +kernel), List.mem_of_getElem? (i := 826) (by decide +kernel)⟩
theorem lw_p35 : lw_okq (⟨"BusServoModel", "emergency", "(I)V"⟩, 31) := ⟨⟨by decide +kernel, by decide +kernel⟩, List.mem_of_getElem? (i := 643) (by decide +kernel), List.mem_of_getElem? (i := 830) (by decide +kernel), List.mem_of_getElem? (i := 831) (by decide +kernel)⟩
theorem lw_p36 : lw_okq (⟨"BusServoModel", "state", "(II)I"⟩, 31) := ⟨⟨by decide +kernel, by decide +kernel⟩, List.mem_of_getElem? (i := 643) (by decide +kernel), List.mem_of_getElem? (i := 839) (by decide +kernel), List.mem_of_getElem? (i := 840) (by decide +kernel)⟩
theorem lw_p37 : lw_okq (⟨"BusServoModel", "sync", "()I"⟩, 31) := ⟨⟨by decide +kernel, by decide +kernel⟩, List.mem_of_getElem? (i := 643) (by decide +kernel), List.mem_of_getElem? (i := 843) (by decide +kernel), List.mem_of_getElem? (i := 844) (by decide +kernel)⟩
theorem lw_p38 : lw_okq (⟨"BusServoModel", "out", "()V"⟩, 31) := ⟨⟨by decide +kernel, by decide +kernel⟩, List.mem_of_getElem? (i := 643) (by decide +kernel), List.mem_of_getElem? (i := 847) (by decide +kernel), List.mem_of_getElem? (i := 848) (by decide +kernel)⟩
theorem lw_p39 : lw_okq (⟨"BusServoModel", "gathered", "()J"⟩, 31) := ⟨⟨by decide +kernel, by decide +kernel⟩, List.mem_of_getElem? (i := 643) (by decide +kernel), List.mem_of_getElem? (i := 851) (by decide +kernel), List.mem_of_getElem? (i := 852) (by decide +kernel)⟩
theorem lw_p40 : lw_okq (⟨"BusServoModel", "find", "(I)I"⟩, 31) := ⟨⟨by decide +kernel, by decide +kernel⟩, List.mem_of_getElem? (i := 643) (by decide +kernel), List.mem_of_getElem? (i := 855) (by decide +kernel), List.mem_of_getElem? (i := 856) (by decide +kernel)⟩
theorem lw_p41 : lw_okq (⟨"BusServoModel", "look", "(I)I"⟩, 31) := ⟨⟨by decide +kernel, by decide +kernel⟩, List.mem_of_getElem? (i := 643) (by decide +kernel), List.mem_of_getElem? (i := 859) (by decide +kernel), List.mem_of_getElem? (i := 860) (by decide +kernel)⟩
theorem lw_p42 : lw_okq (⟨"BusServoModel", "aim", "()I"⟩, 31) := ⟨⟨by decide +kernel, by decide +kernel⟩, List.mem_of_getElem? (i := 643) (by decide +kernel), List.mem_of_getElem? (i := 863) (by decide +kernel), List.mem_of_getElem? (i := 864) (by decide +kernel)⟩
theorem lw_p43 : lw_okq (⟨"BusServoModel", "size", "(I)I"⟩, 31) := ⟨⟨by decide +kernel, by decide +kernel⟩, List.mem_of_getElem? (i := 643) (by decide +kernel), List.mem_of_getElem? (i := 875) (by decide +kernel), List.mem_of_getElem? (i := 876) (by decide +kernel)⟩
theorem lw_p44 : lw_okq (⟨"BusServoModel", "mapped", "(IJ)I"⟩, 31) := ⟨⟨by decide +kernel, by decide +kernel⟩, List.mem_of_getElem? (i := 643) (by decide +kernel), List.mem_of_getElem? (i := 879) (by decide +kernel), List.mem_of_getElem? (i := 880) (by decide +kernel)⟩
theorem lw_p45 : lw_okq (⟨"BusServoModel", "channel", "(J)I"⟩, 31) := ⟨⟨by decide +kernel, by decide +kernel⟩, List.mem_of_getElem? (i := 643) (by decide +kernel), List.mem_of_getElem? (i := 886) (by decide +kernel), List.mem_of_getElem? (i := 887) (by decide +kernel)⟩
theorem lw_p46 : lw_okq (⟨"BusServoModel", "isIndex", "(I)Z"⟩, 31) := ⟨⟨by decide +kernel, by decide +kernel⟩, List.mem_of_getElem? (i := 643) (by decide +kernel), List.mem_of_getElem? (i := 891) (by decide +kernel), List.mem_of_getElem? (i := 892) (by decide +kernel)⟩
theorem lw_p47 : lw_okq (⟨"BusServoModel", "refusal", "(III)I"⟩, 31) := ⟨⟨by decide +kernel, by decide +kernel⟩, List.mem_of_getElem? (i := 643) (by decide +kernel), List.mem_of_getElem? (i := 898) (by decide +kernel), List.mem_of_getElem? (i := 899) (by decide +kernel)⟩
def lw_privs_3 : List (MethodName × Nat) := [(⟨"BusServoModel", "send", "(IIJ)V"⟩, 31), (⟨"BusServoModel", "next", "()I"⟩, 31), (⟨"BusServoModel", "fault", "(I)V"⟩, 31), (⟨"BusServoModel", "emergency", "(I)V"⟩, 31), (⟨"BusServoModel", "state", "(II)I"⟩, 31), (⟨"BusServoModel", "sync", "()I"⟩, 31), (⟨"BusServoModel", "out", "()V"⟩, 31), (⟨"BusServoModel", "gathered", "()J"⟩, 31), (⟨"BusServoModel", "find", "(I)I"⟩, 31), (⟨"BusServoModel", "look", "(I)I"⟩, 31), (⟨"BusServoModel", "aim", "()I"⟩, 31), (⟨"BusServoModel", "size", "(I)I"⟩, 31), (⟨"BusServoModel", "mapped", "(IJ)I"⟩, 31), (⟨"BusServoModel", "channel", "(J)I"⟩, 31), (⟨"BusServoModel", "isIndex", "(I)Z"⟩, 31), (⟨"BusServoModel", "refusal", "(III)I"⟩, 31)]
theorem lw_r3 : ∀ q ∈ lw_privs_3, lw_okq q := List.forall_mem_cons.mpr ⟨lw_p32, List.forall_mem_cons.mpr ⟨lw_p33, List.forall_mem_cons.mpr ⟨lw_p34, List.forall_mem_cons.mpr ⟨lw_p35, List.forall_mem_cons.mpr ⟨lw_p36, List.forall_mem_cons.mpr ⟨lw_p37, List.forall_mem_cons.mpr ⟨lw_p38, List.forall_mem_cons.mpr ⟨lw_p39, List.forall_mem_cons.mpr ⟨lw_p40, List.forall_mem_cons.mpr ⟨lw_p41, List.forall_mem_cons.mpr ⟨lw_p42, List.forall_mem_cons.mpr ⟨lw_p43, List.forall_mem_cons.mpr ⟨lw_p44, List.forall_mem_cons.mpr ⟨lw_p45, List.forall_mem_cons.mpr ⟨lw_p46, List.forall_mem_cons.mpr ⟨lw_p47, fun _ h => absurd h List.not_mem_nil⟩⟩⟩⟩⟩⟩⟩⟩⟩⟩⟩⟩⟩⟩⟩⟩
theorem lw_p48 : lw_okq (⟨"BusServoModel", "stage", "()Z"⟩, 31) := ⟨⟨by decide +kernel, by decide +kernel⟩, List.mem_of_getElem? (i := 643) (by decide +kernel), List.mem_of_getElem? (i := 904) (by decide +kernel), List.mem_of_getElem? (i := 905) (by decide +kernel)⟩
theorem lw_p49 : lw_okq (⟨"BusServoModel", "entries", "(II)I"⟩, 31) := ⟨⟨by decide +kernel, by decide +kernel⟩, List.mem_of_getElem? (i := 643) (by decide +kernel), List.mem_of_getElem? (i := 915) (by decide +kernel), List.mem_of_getElem? (i := 916) (by decide +kernel)⟩
theorem lw_p50 : lw_okq (⟨"BusServoModel", "write", "(II)V"⟩, 31) := ⟨⟨by decide +kernel, by decide +kernel⟩, List.mem_of_getElem? (i := 643) (by decide +kernel), List.mem_of_getElem? (i := 921) (by decide +kernel), List.mem_of_getElem? (i := 922) (by decide +kernel)⟩
theorem lw_p51 : lw_okq (⟨"BusServoModel", "begin", "(Z)V"⟩, 31) := ⟨⟨by decide +kernel, by decide +kernel⟩, List.mem_of_getElem? (i := 643) (by decide +kernel), List.mem_of_getElem? (i := 925) (by decide +kernel), List.mem_of_getElem? (i := 926) (by decide +kernel)⟩
theorem lw_p52 : lw_okq (⟨"BusServoModel", "step", "(I)V"⟩, 31) := ⟨⟨by decide +kernel, by decide +kernel⟩, List.mem_of_getElem? (i := 643) (by decide +kernel), List.mem_of_getElem? (i := 936) (by decide +kernel), List.mem_of_getElem? (i := 937) (by decide +kernel)⟩
theorem lw_p53 : lw_okq (⟨"BusServoModel", "writeWord", "()V"⟩, 31) := ⟨⟨by decide +kernel, by decide +kernel⟩, List.mem_of_getElem? (i := 643) (by decide +kernel), List.mem_of_getElem? (i := 940) (by decide +kernel), List.mem_of_getElem? (i := 941) (by decide +kernel)⟩
theorem lw_p54 : lw_okq (⟨"BusServoModel", "order", "()I"⟩, 31) := ⟨⟨by decide +kernel, by decide +kernel⟩, List.mem_of_getElem? (i := 643) (by decide +kernel), List.mem_of_getElem? (i := 945) (by decide +kernel), List.mem_of_getElem? (i := 946) (by decide +kernel)⟩
theorem lw_p55 : lw_okq (⟨"BusServoModel", "obey", "(I)V"⟩, 31) := ⟨⟨by decide +kernel, by decide +kernel⟩, List.mem_of_getElem? (i := 643) (by decide +kernel), List.mem_of_getElem? (i := 949) (by decide +kernel), List.mem_of_getElem? (i := 950) (by decide +kernel)⟩
theorem lw_p56 : lw_okq (⟨"BusServoModel", "move", "(I)V"⟩, 31) := ⟨⟨by decide +kernel, by decide +kernel⟩, List.mem_of_getElem? (i := 643) (by decide +kernel), List.mem_of_getElem? (i := 953) (by decide +kernel), List.mem_of_getElem? (i := 954) (by decide +kernel)⟩
theorem lw_p57 : lw_okq (⟨"BusServoModel", "towards", "(I)I"⟩, 31) := ⟨⟨by decide +kernel, by decide +kernel⟩, List.mem_of_getElem? (i := 643) (by decide +kernel), List.mem_of_getElem? (i := 957) (by decide +kernel), List.mem_of_getElem? (i := 958) (by decide +kernel)⟩
theorem lw_p58 : lw_okq (⟨"BusServoModel", "outByTime", "()V"⟩, 31) := ⟨⟨by decide +kernel, by decide +kernel⟩, List.mem_of_getElem? (i := 643) (by decide +kernel), List.mem_of_getElem? (i := 967) (by decide +kernel), List.mem_of_getElem? (i := 968) (by decide +kernel)⟩
def lw_privs_4 : List (MethodName × Nat) := [(⟨"BusServoModel", "stage", "()Z"⟩, 31), (⟨"BusServoModel", "entries", "(II)I"⟩, 31), (⟨"BusServoModel", "write", "(II)V"⟩, 31), (⟨"BusServoModel", "begin", "(Z)V"⟩, 31), (⟨"BusServoModel", "step", "(I)V"⟩, 31), (⟨"BusServoModel", "writeWord", "()V"⟩, 31), (⟨"BusServoModel", "order", "()I"⟩, 31), (⟨"BusServoModel", "obey", "(I)V"⟩, 31), (⟨"BusServoModel", "move", "(I)V"⟩, 31), (⟨"BusServoModel", "towards", "(I)I"⟩, 31), (⟨"BusServoModel", "outByTime", "()V"⟩, 31)]
theorem lw_r4 : ∀ q ∈ lw_privs_4, lw_okq q := List.forall_mem_cons.mpr ⟨lw_p48, List.forall_mem_cons.mpr ⟨lw_p49, List.forall_mem_cons.mpr ⟨lw_p50, List.forall_mem_cons.mpr ⟨lw_p51, List.forall_mem_cons.mpr ⟨lw_p52, List.forall_mem_cons.mpr ⟨lw_p53, List.forall_mem_cons.mpr ⟨lw_p54, List.forall_mem_cons.mpr ⟨lw_p55, List.forall_mem_cons.mpr ⟨lw_p56, List.forall_mem_cons.mpr ⟨lw_p57, List.forall_mem_cons.mpr ⟨lw_p58, fun _ h => absurd h List.not_mem_nil⟩⟩⟩⟩⟩⟩⟩⟩⟩⟩⟩
def lw_privs : List (MethodName × Nat) := lw_privs_1 ++ (lw_privs_2 ++ (lw_privs_3 ++ (lw_privs_4)))
def lw_tbl : List Cond := k2_sels lw_privs ++ tables_1
theorem lw_privs_ok : ∀ q ∈ lw_privs, lw_okq q := by
  show ∀ q ∈ lw_privs_1 ++ (lw_privs_2 ++ (lw_privs_3 ++ (lw_privs_4))), lw_okq q
  exact List.forall_mem_append.mpr ⟨lw_r1, List.forall_mem_append.mpr ⟨lw_r2, List.forall_mem_append.mpr ⟨lw_r3, lw_r4⟩⟩⟩
-- classes: fields (declaring class, name, descriptor, final), by the order of the words
def abT0 : u_T := fun k => match k with
  | 0 => ("BusServo", "node", "I", true)
  | 1 => ("BusServo", "values", "[I", true)
  | 2 => ("BusServo", "mailbox", "LBusServo$Mailbox;", true)
  | 3 => ("BusServo", "store", "LBusServo$Store;", true)
  | 4 => ("BusServo", "power", "LBusServo$Power;", true)
  | 5 => ("BusServo", "motion", "LBusServo$Motion;", true)
  | 6 => ("BusServo", "watch", "LBusServo$Watch;", true)
  | 7 => ("BusServo", "out", "LBusServo$OutRecord;", true)
  | 8 => ("BusServo", "networkState", "I", false)
  | _ => ("BusServo", "beatCount", "I", false)
def abT1 : u_T := fun k => match k with
  | 0 => ("BusServo$Mailbox", "identifiers", "[I", true)
  | 1 => ("BusServo$Mailbox", "lengths", "[I", true)
  | 2 => ("BusServo$Mailbox", "contents", "[J", true)
  | 3 => ("BusServo$Mailbox", "count", "I", false)
  | 4 => ("BusServo$Mailbox", "lostCount", "I", false)
  | _ => ("BusServo$Mailbox", "busOn", "Z", false)
def abT2 : u_T := fun k => match k with
  | 0 => ("BusServo$Store", "banks", "[[I", true)
  | 1 => ("BusServo$Store", "saved", "[I", true)
  | 2 => ("BusServo$Store", "into", "I", false)
  | _ => ("BusServo$Store", "nextWord", "I", false)
def abT3 : u_T := fun k => match k with
  | 0 => ("BusServo$Power", "state", "I", false)
  | _ => ("BusServo$Power", "resetBitBefore", "Z", false)
def abT4 : u_T := fun k => match k with
  | 0 => ("BusServo$Motion", "values", "[I", true)
  | _ => ("BusServo$Motion", "demand", "I", false)
def abT5 : u_T := fun k => match k with
  | 0 => ("BusServo$Watch", "armed", "Z", false)
  | _ => ("BusServo$Watch", "count", "I", false)
def abT6 : u_T := fun k => match k with
  | 0 => ("BusServo$OutRecord", "sent", "Z", false)
  | 1 => ("BusServo$OutRecord", "ticksAgo", "I", false)
  | 2 => ("BusServo$OutRecord", "lastData", "J", false)
  | 3 => ("BusServo$OutRecord", "lastLength", "I", false)
  | _ => ("BusServo$OutRecord", "syncs", "I", false)
def abT7 : u_T := fun k => match k with
  | 0 => ("BusServoModel", "key", "[I", true)
  | 1 => ("BusServoModel", "bytes", "[I", true)
  | 2 => ("BusServoModel", "kind", "[I", true)
  | 3 => ("BusServoModel", "start", "[I", true)
  | 4 => ("BusServoModel", "least", "[I", true)
  | 5 => ("BusServoModel", "most", "[I", true)
  | 6 => ("BusServoModel", "value", "[I", true)
  | 7 => ("BusServoModel", "boxId", "[I", true)
  | 8 => ("BusServoModel", "boxLength", "[I", true)
  | 9 => ("BusServoModel", "boxData", "[J", true)
  | 10 => ("BusServoModel", "waits", "I", false)
  | 11 => ("BusServoModel", "lost", "I", false)
  | 12 => ("BusServoModel", "words", "[I", true)
  | 13 => ("BusServoModel", "saved", "[I", true)
  | 14 => ("BusServoModel", "saving", "I", false)
  | 15 => ("BusServoModel", "into", "I", false)
  | 16 => ("BusServoModel", "way", "[I", true)
  | 17 => ("BusServoModel", "node", "I", false)
  | 18 => ("BusServoModel", "network", "I", false)
  | 19 => ("BusServoModel", "power", "I", false)
  | 20 => ("BusServoModel", "place", "I", false)
  | 21 => ("BusServoModel", "live", "Z", false)
  | 22 => ("BusServoModel", "armed", "Z", false)
  | 23 => ("BusServoModel", "wasSeven", "Z", false)
  | 24 => ("BusServoModel", "sent", "Z", false)
  | 25 => ("BusServoModel", "beats", "I", false)
  | 26 => ("BusServoModel", "watched", "I", false)
  | 27 => ("BusServoModel", "syncs", "I", false)
  | 28 => ("BusServoModel", "ago", "I", false)
  | 29 => ("BusServoModel", "outLength", "I", false)
  | _ => ("BusServoModel", "outData", "J", false)
abbrev vwCl : List vw_C := [("BusServo", abT0, 10), ("BusServo$Mailbox", abT1, 6), ("BusServo$Store", abT2, 4), ("BusServo$Power", abT3, 2), ("BusServo$Motion", abT4, 2), ("BusServo$Watch", abT5, 2), ("BusServo$OutRecord", abT6, 5), ("BusServoModel", abT7, 31)]
abbrev ab_NT : Nat := 8
def ab_hosts : List String := ["BusServo"]
def ab_sts : List (String × String × String × Nat) := [("BusServo$Catalog", "TABLE", "[I", 0), ("BusServo$Catalog", "KEPT", "[I", 1), ("BusServo$Power", "STATUS_BITS", "[I", 2)]
end
section
/-! An abstract state of the machine (values whose references are places in a list of cells; locals by place; operand stack), and rows over it: a run of plain instructions is one computation; calls by contract. -/
def ab_tb : List Cond := lw_tbl.filter goodWord
theorem ab_in {w : Cond} (h : w ∈ lw_tbl) (hg : goodWord w = true) : w ∈ ab_tb := List.mem_filter.mpr ⟨h, hg⟩
def ab_isN (w : Cond) : Bool := match w with
  | .methodLinkNest .. => true
  | _ => false
def ab_nst : List Cond := lw_tbl.filter ab_isN
abbrev ab_C : Type := Launch × va_G × (Nat → ClassId) × Nat × (Nat → Nat) × List (Nat × (Nat → Int32))
abbrev ab_H : Type := List va_E
abbrev ab_Lo : Type := List (Option Value)
abbrev ab_Mt : Type := MethodName × ByteArray × Nat × Option FieldType
abbrev ab_J : Type := Instr × Nat × Value × Nat × Nat
def ab_tys (X : ab_C) : List (ClassId × FieldType) := [(X.2.2.1 0, .int), (X.2.2.1 1, .long), (X.2.2.1 2, .array .int)]
def ab_b (X : ab_C) : Nat := X.2.2.2.1
def ab_A (X : ab_C) : Nat → Prop := fun q => ab_b X ≤ q
def ab_ad (X : ab_C) (k : Nat) : Nat := if k < ab_NT then X.2.2.2.2.1 k else ab_b X + (k - ab_NT)
def ab_v (X : ab_C) (v : Value) : Value := match v with
  | .ref k => .ref (ab_ad X k)
  | .int x => .int x
  | .long x => .long x
  | .float x => .float x
  | .double x => .double x
  | .null => .null
  | .retAddr x => .retAddr x
def ab_c (X : ab_C) (c : va_E) : va_E := match c with
  | .inl (t, n, .inl f) => .inl (X.2.2.1 t, n, .inl f)
  | .inl (t, n, .inr (.inl f)) => .inl (X.2.2.1 t, n, .inr (.inl f))
  | .inl (t, n, .inr (.inr (.inl f))) => .inl (X.2.2.1 t, n, .inr (.inr (.inl f)))
  | .inl (t, n, .inr (.inr (.inr (.inl f)))) => .inl (X.2.2.1 t, n, .inr (.inr (.inr (.inl f))))
  | .inl (t, n, .inr (.inr (.inr (.inr f)))) => .inl (X.2.2.1 t, n, .inr (.inr (.inr (.inr (fun j => (f j).map (ab_ad X))))))
  | .inr (ci, fs) => .inr (ci, fs.map (ab_v X))
def ab_ws (X : ab_C) (h : ab_H) : va_W := h.mapIdx (fun k c => (ab_b X + k, ab_c X c))
def ab_Rel (X : ab_C) (h : ab_H) (H : Heap) : Prop := H.size = ab_b X + h.length ∧ va_P X.2.1 vwCl (ab_ws X h) H
def ab_Ok (X : ab_C) (U : State) : Prop := va_K X.2.1 vwCl (ab_tys X) U ∧ (∀ (j n : Nat) (f : Nat → Int32), X.2.2.2.2.2[j]? = some (n, f) → va_T .int (X.2.2.2.2.1 j) n (fun i => .int (f i)) (ab_A X) U U.heap) ∧ (∀ q ∈ ab_sts, va_Z q.1 q.2.1 q.2.2.1 (.ref (X.2.2.2.2.1 q.2.2.2)) (ab_A X) U U.heap) ∧ ab_b X ≤ U.heap.size ∧ (∀ w ∈ ab_nst, va_Nw w U) ∧ ∃ k : Class, U.vm.classes[X.2.2.1 2]? = some k ∧ k.kind = .array (X.2.2.1 0) (.array .int)
def ab_LR (X : ab_C) (ls : Array Slot) (n : Nat) (lo : ab_Lo) : Prop := lo.length = n ∧ ∃ lv : List (Nat × Value), lv_has ls n lv ∧ ∀ (i : Nat) (v : Value), lo[i]? = some (some v) → (i, ab_v X v) ∈ lv
def ab_Fx (X : ab_C) (M : ab_Mt) (d : Nat) (p : Program) (R : Room) (s : State) (m : MethodId) (args : Array Value) (meth : Method) (c : Code) : Prop :=
  p.tables.exec = Jvm.exec ∧ c.code = M.2.1 ∧ meth.sig.returnType = M.2.2.2 ∧ c.maxLocals = M.2.2.1 ∧ s.vm.findClass M.1.cls = some m.cls ∧ (∀ w ∈ ab_tb, w.before args s = true) ∧ meth.locks = false ∧ meth.name = M.1.name ∧ ab_Ok X s ∧ d ≤ R.frames ∧ 64 * d ≤ R.locals
def ab_Mv (X : ab_C) (M : ab_Mt) (R : Room) (bc bs : Nat) (lo : ab_Lo) (h : ab_H) (s : State) (H : Heap) (locs : List Loc) (cells slots : Nat) (ls : Array Slot) : Prop :=
  cells + bc ≤ R.cells ∧ slots + bs ≤ R.slots ∧ va_S (ab_A X) s.heap H locs ∧ ab_Rel X h H ∧ ab_LR X ls M.2.2.1 lo
def ab_Q (X : ab_C) (Q : Option Value → ab_H → Prop) : Array Value → State → Outcome → State → Prop := fun _ s o t => ∃ (r : Option Value) (h : ab_H), o = .returned (r.map (ab_v X)) ∧ Q r h ∧ ab_Rel X h t.heap ∧ va_F (ab_A X) s t
/-- from this frame the method comes to its end, with an answer and a heap of which Q holds -/
def ab_W (X : ab_C) (M : ab_Mt) (d bc bs pc : Nat) (lo : ab_Lo) (st : List Value) (h : ab_H) (Q : Option Value → ab_H → Prop) : Prop :=
  ∀ (p : Program) (e : Env) (R : Room) (s : State) (m : MethodId) (args : Array Value) (below : List Frame) (meth : Method) (c : Code) (H : Heap) (locs : List Loc) (cells slots : Nat) (ls : Array Slot),
    ab_Fx X M d p R s m args meth c → ab_Mv X M R bc bs lo h s H locs cells slots ls →
    W p X.1 e R s m args below meth c H locs cells slots (MQ below (ab_Q X Q) args s R.cells R.slots (ab_A X)) (F0 m pc ls (st.map (ab_v X)))
def ab_wsM (M : ab_Mt) : List Cond := Cond.code M.1 M.2.1 M.2.2.1 M.2.2.2 :: ab_tb
/-- a method's contract: called with these values and this heap it returns, and Q holds of answer and heap -/
def ab_M (X : ab_C) (M : ab_Mt) (d bc bs : Nat) (as : List Value) (h : ab_H) (Q : Option Value → ab_H → Prop) : Prop :=
  Met X.1 M.1 (ab_wsM M) { frames := d, cells := bc, slots := bs, locals := 64 * d } (va_Pc (as.map (ab_v X)) (fun U => ab_Ok X U ∧ ab_Rel X h U.heap)) (ab_Q X Q) bc bs (ab_A X)

theorem ab_v_cat (X : ab_C) (v : Value) : (ab_v X v).category = v.category := by cases v <;> rfl
theorem ab_ws_get (X : ab_C) (h : ab_H) (k : Nat) : (ab_ws X h)[k]? = (h[k]?).map (fun c => (ab_b X + k, ab_c X c)) := by
  simp [ab_ws, List.getElem?_mapIdx]
theorem ab_ws_at {X : ab_C} {h : ab_H} {k : Nat} {c : va_E} (hk : h[k]? = some c) : (ab_ws X h)[k]? = some (ab_b X + k, ab_c X c) := by rw [ab_ws_get, hk]; rfl
theorem ab_ws_set (X : ab_C) (h : ab_H) (k : Nat) (c : va_E) : (ab_ws X h).set k (ab_b X + k, ab_c X c) = ab_ws X (h.set k c) := by
  apply List.ext_getElem?
  intro j
  rw [ab_ws_get]
  by_cases hj : k = j
  · subst hj
    by_cases hl : k < h.length
    · have hl' : k < (ab_ws X h).length := by simp [ab_ws, hl]
      rw [List.getElem?_set_self hl', List.getElem?_set_self hl]; rfl
    · have hl' : ¬ k < (ab_ws X h).length := by simp [ab_ws]; omega
      rw [List.getElem?_eq_none (by simp; omega), List.getElem?_eq_none (by simp; omega)]; rfl
  · rw [List.getElem?_set_ne hj, List.getElem?_set_ne hj, ab_ws_get]
theorem ab_ws_push (X : ab_C) (h : ab_H) (c : va_E) : ab_ws X h ++ [(ab_b X + h.length, ab_c X c)] = ab_ws X (h ++ [c]) := by
  simp [ab_ws, List.mapIdx_append]
theorem ab_ws_D (X : ab_C) (h : ab_H) : va_D (ab_A X) (ab_ws X h) := by
  refine ⟨fun i j p q hi hj e => ?_, fun k q hk => ?_⟩
  · rw [ab_ws_get] at hi hj
    cases hx : h[i]? with
    | none => rw [hx] at hi; cases hi
    | some x =>
      cases hy : h[j]? with
      | none => rw [hy] at hj; cases hj
      | some y =>
        rw [hx] at hi; rw [hy] at hj
        cases hi; cases hj
        have e' : ab_b X + i = ab_b X + j := e
        omega
  · rw [ab_ws_get] at hk
    cases hx : h[k]? with
    | none => rw [hx] at hk; cases hk
    | some x =>
      rw [hx] at hk; cases hk
      exact Nat.le_add_right _ _
theorem ab_LR.get {X : ab_C} {ls : Array Slot} {n : Nat} {lo : ab_Lo} (h : ab_LR X ls n lo) {i : Nat} {v : Value} (hi : lo[i]? = some (some v)) : ls[i]? = some (.val (ab_v X v)) := by
  obtain ⟨-, lv, h1, h2⟩ := h
  exact h1.2.2 _ (h2 i v hi)
/-- storing: the place before it is cleared if a long stands there -/
def ab_clr (lo : ab_Lo) (i : Nat) : ab_Lo := match i with
  | 0 => lo
  | j + 1 => match lo[j]? with
    | some (some v) => if v.category = 2 then lo.set j none else lo
    | _ => lo
def ab_set1 (lo : ab_Lo) (i : Nat) (v : Value) : ab_Lo := (ab_clr lo i).set i (some v)
def ab_set2 (lo : ab_Lo) (i : Nat) (v : Value) : ab_Lo := ((ab_clr lo i).set i (some v)).set (i + 1) none
theorem ab_clr_len (lo : ab_Lo) (i : Nat) : (ab_clr lo i).length = lo.length := by
  cases i with
  | zero => rfl
  | succ j =>
    simp only [ab_clr]
    split
    · split <;> simp
    · rfl
theorem ab_clr_get {lo : ab_Lo} {i j : Nat} {v : Value} (h : (ab_clr lo i)[j]? = some (some v)) : lo[j]? = some (some v) ∧ ¬ (j + 1 = i ∧ v.category = 2) := by
  cases i with
  | zero => exact ⟨h, fun q => by omega⟩
  | succ k =>
    simp only [ab_clr] at h
    split at h
    · rename_i w hw
      split at h
      · rename_i hc
        by_cases hj : k = j
        · subst hj
          have hl : k < lo.length := (List.getElem?_eq_some_iff.mp hw).1
          rw [List.getElem?_set_self hl] at h
          cases h
        · rw [List.getElem?_set_ne hj] at h
          exact ⟨h, fun q => by omega⟩
      · rename_i hc
        refine ⟨h, fun q => ?_⟩
        have hj : j = k := by omega
        subst hj
        rw [hw] at h
        cases h
        exact hc q.2
    · rename_i hn
      refine ⟨h, fun q => ?_⟩
      have hj : j = k := by omega
      subst hj
      exact hn v h
theorem ab_LR.of1 {X : ab_C} {ls : Array Slot} {n : Nat} {lo : ab_Lo} {lv : List (Nat × Value)} {i : Nat} {v : Value} (hn : lo.length = n) (h2 : ∀ (i : Nat) (v : Value), lo[i]? = some (some v) → (i, ab_v X v) ∈ lv) (hi : i < lo.length) (h' : lv_has ls n ((i, ab_v X v) :: lv.filter (fun q => !(q.1 == i) && !(q.1 + 1 == i && q.2.category == 2)))) : ab_LR X ls n (ab_set1 lo i v) := by
  refine ⟨by simp [ab_set1, ab_clr_len, hn], _, h', fun j w hw => ?_⟩
  unfold ab_set1 at hw
  by_cases hj : i = j
  · subst hj
    rw [List.getElem?_set_self (by rw [ab_clr_len]; omega)] at hw
    cases hw
    exact List.mem_cons_self
  · rw [List.getElem?_set_ne hj] at hw
    obtain ⟨g1, g2⟩ := ab_clr_get hw
    refine List.mem_cons_of_mem _ (List.mem_filter.mpr ⟨h2 j w g1, ?_⟩)
    have e1 : (j == i) = false := by simp; exact fun q => hj q.symm
    have e3 : (j + 1 == i && (ab_v X w).category == 2) = false := by
      by_cases hq : j + 1 = i
      · have hc : ¬ w.category = 2 := fun q => g2 ⟨hq, q⟩
        rw [ab_v_cat]
        simp [hc]
      · simp [hq]
    simp only [e1, e3, Bool.not_false, Bool.and_self]
theorem ab_LR.of2 {X : ab_C} {ls : Array Slot} {n : Nat} {lo : ab_Lo} {lv : List (Nat × Value)} {i : Nat} {v : Value} (hn : lo.length = n) (h2 : ∀ (i : Nat) (v : Value), lo[i]? = some (some v) → (i, ab_v X v) ∈ lv) (hi : i + 1 < lo.length) (h' : lv_has ls n ((i, ab_v X v) :: lv.filter (fun q => !(q.1 == i) && (!(q.1 == i + 1) && !(q.1 + 1 == i && q.2.category == 2))))) : ab_LR X ls n (ab_set2 lo i v) := by
  refine ⟨by simp [ab_set2, ab_clr_len, hn], _, h', fun j w hw => ?_⟩
  have hj1 : i + 1 ≠ j := by
    intro q
    subst q
    unfold ab_set2 at hw
    rw [List.getElem?_set_self (by simp [ab_clr_len]; omega)] at hw
    cases hw
  unfold ab_set2 at hw
  rw [List.getElem?_set_ne hj1] at hw
  by_cases hj : i = j
  · subst hj
    rw [List.getElem?_set_self (by rw [ab_clr_len]; omega)] at hw
    cases hw
    exact List.mem_cons_self
  · rw [List.getElem?_set_ne hj] at hw
    obtain ⟨g1, g2⟩ := ab_clr_get hw
    refine List.mem_cons_of_mem _ (List.mem_filter.mpr ⟨h2 j w g1, ?_⟩)
    have e1 : (j == i) = false := by simp; exact fun q => hj q.symm
    have e2 : (j == i + 1) = false := by simp; exact fun q => hj1 q.symm
    have e3 : (j + 1 == i && (ab_v X w).category == 2) = false := by
      by_cases hq : j + 1 = i
      · have hc : ¬ w.category = 2 := fun q => g2 ⟨hq, q⟩
        rw [ab_v_cat]
        simp [hc]
      · simp [hq]
    simp only [e1, e2, e3, Bool.not_false, Bool.and_self]
end
section
/-! One plain instruction: what it does to locals, stack and heap (none: it isn't plain, or isn't at home here); j = (instruction, length, constant, class number, field place) -/
abbrev ab_R3 : Type := Option (ab_Lo × List Value × ab_H)
def ab_at (h : ab_H) (k : Nat) : Option va_E := if k < ab_NT then none else h[k - ab_NT]?
def ab_ldI (lo : ab_Lo) (i : Nat) (st : List Value) (h : ab_H) : ab_R3 := match lo[i]? with
  | some (some (.int x)) => some (lo, .int x :: st, h)
  | _ => none
def ab_ldL (lo : ab_Lo) (i : Nat) (st : List Value) (h : ab_H) : ab_R3 := match lo[i]? with
  | some (some (.long x)) => some (lo, .long x :: st, h)
  | _ => none
def ab_ldA (lo : ab_Lo) (i : Nat) (st : List Value) (h : ab_H) : ab_R3 := match lo[i]? with
  | some (some (.ref x)) => some (lo, .ref x :: st, h)
  | _ => none
def ab_stI (lo : ab_Lo) (i : Nat) (st : List Value) (h : ab_H) : ab_R3 := match st with
  | .int x :: r => if i < lo.length then some (ab_set1 lo i (.int x), r, h) else none
  | _ => none
def ab_stL (lo : ab_Lo) (i : Nat) (st : List Value) (h : ab_H) : ab_R3 := match st with
  | .long x :: r => if i + 1 < lo.length then some (ab_set2 lo i (.long x), r, h) else none
  | _ => none
def ab_stA (lo : ab_Lo) (i : Nat) (st : List Value) (h : ab_H) : ab_R3 := match st with
  | .ref x :: r => if i < lo.length then some (ab_set1 lo i (.ref x), r, h) else none
  | _ => none
def ab_i2 (lo : ab_Lo) (st : List Value) (h : ab_H) (f : Int32 → Int32 → Int32) : ab_R3 := match st with
  | .int y :: .int x :: r => some (lo, .int (f x y) :: r, h)
  | _ => none
def ab_l2 (lo : ab_Lo) (st : List Value) (h : ab_H) (f : Int64 → Int64 → Int64) : ab_R3 := match st with
  | .long y :: .long x :: r => some (lo, .long (f x y) :: r, h)
  | _ => none
def ab_ls (lo : ab_Lo) (st : List Value) (h : ab_H) (f : Int64 → Int32 → Int64) : ab_R3 := match st with
  | .int y :: .long x :: r => some (lo, .long (f x y) :: r, h)
  | _ => none
def ab_i1 (lo : ab_Lo) (st : List Value) (h : ab_H) (f : Int32 → Value) : ab_R3 := match st with
  | .int x :: r => some (lo, f x :: r, h)
  | _ => none
def ab_l1 (lo : ab_Lo) (st : List Value) (h : ab_H) (f : Int64 → Value) : ab_R3 := match st with
  | .long x :: r => some (lo, f x :: r, h)
  | _ => none
def ab_lc (lo : ab_Lo) (st : List Value) (h : ab_H) : ab_R3 := match st with
  | .long y :: .long x :: r => some (lo, .int (lg_cmp x y) :: r, h)
  | _ => none
def ab_inc (lo : ab_Lo) (i : Nat) (cv : Value) (st : List Value) (h : ab_H) : ab_R3 := match lo[i]?, cv with
  | some (some (.int x)), .int y => if i < lo.length then some (ab_set1 lo i (.int (x + y)), st, h) else none
  | _, _ => none
def ab_dup (lo : ab_Lo) (st : List Value) (h : ab_H) : ab_R3 := match st with
  | .int x :: r => some (lo, .int x :: .int x :: r, h)
  | .ref x :: r => some (lo, .ref x :: .ref x :: r, h)
  | _ => none
def ab_dup2 (lo : ab_Lo) (st : List Value) (h : ab_H) : ab_R3 := match st with
  | .int x :: .int y :: r => some (lo, .int x :: .int y :: .int x :: .int y :: r, h)
  | .int x :: .ref y :: r => some (lo, .int x :: .ref y :: .int x :: .ref y :: r, h)
  | _ => none
def ab_dupx1 (lo : ab_Lo) (st : List Value) (h : ab_H) : ab_R3 := match st with
  | .int x :: .int y :: r => some (lo, .int x :: .int y :: .int x :: r, h)
  | .int x :: .ref y :: r => some (lo, .int x :: .ref y :: .int x :: r, h)
  | _ => none
def ab_dupx2 (lo : ab_Lo) (st : List Value) (h : ab_H) : ab_R3 := match st with
  | .int x :: .int y :: .ref z :: r => some (lo, .int x :: .int y :: .ref z :: .int x :: r, h)
  | _ => none
def ab_pop (lo : ab_Lo) (st : List Value) (h : ab_H) : ab_R3 := match st with
  | .int _ :: r => some (lo, r, h)
  | .ref _ :: r => some (lo, r, h)
  | _ => none
/-- may this field hold this value, as it stands -/
def ab_fit (ty : FieldType) (v : Value) : Bool := match ty, v with
  | .int, .int _ => true
  | .long, .long _ => true
  | .object _, .ref _ => true
  | .array _, .ref _ => true
  | .boolean, .int x => x == 0 || x == 1
  | _, _ => false
def ab_fty (ci k : Nat) : FieldType := match vwCl[ci]? with
  | some q => (parseFieldDescriptor (q.2.1 k).2.2.1).getD .int
  | none => .int
/-- an index that is a number within -/
def ab_inb (i : Int32) (n : Nat) : Bool := decide (0 ≤ i.toInt) && decide (i.toInt < n)
def ab_ial (lo : ab_Lo) (st : List Value) (h : ab_H) : ab_R3 := match st with
  | .int i :: .ref a :: r => match ab_at h a with
    | some (.inl (t, n, .inl f)) => if t = 0 ∧ ab_inb i n = true then some (lo, .int (f i.toNatClampNeg) :: r, h) else none
    | _ => none
  | _ => none
def ab_ias (lo : ab_Lo) (st : List Value) (h : ab_H) : ab_R3 := match st with
  | .int x :: .int i :: .ref a :: r => match ab_at h a with
    | some (.inl (t, n, .inl f)) => if t = 0 ∧ ab_inb i n = true then some (lo, r, h.set (a - ab_NT) (.inl (0, n, .inl (upd f i.toNatClampNeg x)))) else none
    | _ => none
  | _ => none
def ab_aal (lo : ab_Lo) (st : List Value) (h : ab_H) : ab_R3 := match st with
  | .int i :: .ref a :: r => match ab_at h a with
    | some (.inl (t, n, .inr (.inr (.inr (.inr f))))) => if t = 2 ∧ ab_inb i n = true then match f i.toNatClampNeg with
      | some q => some (lo, .ref q :: r, h)
      | none => none
      else none
    | _ => none
  | _ => none
def ab_div (lo : ab_Lo) (st : List Value) (h : ab_H) : ab_R3 := match st with
  | .int y :: .int x :: r => if y = 0 then none else some (lo, .int (x / y) :: r, h)
  | _ => none
def ab_rem (lo : ab_Lo) (st : List Value) (h : ab_H) : ab_R3 := match st with
  | .int y :: .int x :: r => if y = 0 then none else some (lo, .int (x - x / y * y) :: r, h)
  | _ => none
def ab_gf (lo : ab_Lo) (st : List Value) (h : ab_H) (ci k : Nat) : ab_R3 := match st with
  | .ref a :: r => match ab_at h a with
    | some (.inr (c, fs)) => if c = ci then match fs[k]? with
      | some v => some (lo, v :: r, h)
      | none => none
      else none
    | _ => none
  | _ => none
def ab_pu (lo : ab_Lo) (st : List Value) (h : ab_H) (ci k : Nat) : ab_R3 := match st with
  | v :: .ref a :: r => match ab_at h a with
    | some (.inr (c, fs)) => if c = ci ∧ k < fs.length ∧ ab_fit (ab_fty ci k) v = true then some (lo, r, h.set (a - ab_NT) (.inr (c, fs.set k v))) else none
    | _ => none
  | _ => none
def ab_step (j : ab_J) (lo : ab_Lo) (st : List Value) (h : ab_H) : ab_R3 := match j.1 with
  | .iconst _ => some (lo, j.2.2.1 :: st, h)
  | .bipush _ => some (lo, j.2.2.1 :: st, h)
  | .sipush _ => some (lo, j.2.2.1 :: st, h)
  | .ldc _ => some (lo, j.2.2.1 :: st, h)
  | .ldc_w _ => some (lo, j.2.2.1 :: st, h)
  | .lconst _ => some (lo, j.2.2.1 :: st, h)
  | .ldc2_w _ => some (lo, j.2.2.1 :: st, h)
  | .iload_n i => ab_ldI lo i.val st h
  | .iload i => ab_ldI lo i st h
  | .istore_n i => ab_stI lo i.val st h
  | .istore i => ab_stI lo i st h
  | .lload_n i => ab_ldL lo i.val st h
  | .lload i => ab_ldL lo i st h
  | .lstore_n i => ab_stL lo i.val st h
  | .lstore i => ab_stL lo i st h
  | .aload_n i => ab_ldA lo i.val st h
  | .aload i => ab_ldA lo i st h
  | .astore_n i => ab_stA lo i.val st h
  | .astore i => ab_stA lo i st h
  | .iinc i _ => ab_inc lo i j.2.2.1 st h
  | .iadd => ab_i2 lo st h (fun x y => x + y)
  | .isub => ab_i2 lo st h (fun x y => x - y)
  | .imul => ab_i2 lo st h (fun x y => x * y)
  | .iand => ab_i2 lo st h (fun x y => x &&& y)
  | .ior => ab_i2 lo st h (fun x y => x ||| y)
  | .ixor => ab_i2 lo st h (fun x y => x ^^^ y)
  | .ishl => ab_i2 lo st h (fun x y => x <<< (y &&& 31))
  | .ishr => ab_i2 lo st h (fun x y => x >>> (y &&& 31))
  | .iushr => ab_i2 lo st h (fun x y => (x.toUInt32 >>> (y.toUInt32 &&& Int32.toUInt32 31)).toInt32)
  | .ladd => ab_l2 lo st h (fun x y => x + y)
  | .lsub => ab_l2 lo st h (fun x y => x - y)
  | .lmul => ab_l2 lo st h (fun x y => x * y)
  | .land => ab_l2 lo st h (fun x y => x &&& y)
  | .lor => ab_l2 lo st h (fun x y => x ||| y)
  | .lxor => ab_l2 lo st h (fun x y => x ^^^ y)
  | .lshl => ab_ls lo st h (fun x y => x <<< (y.toInt64 &&& 63))
  | .lshr => ab_ls lo st h (fun x y => x >>> (y.toInt64 &&& 63))
  | .lushr => ab_ls lo st h (fun x y => (x.toUInt64 >>> (y.toInt64.toUInt64 &&& Int64.toUInt64 63)).toInt64)
  | .ineg => ab_i1 lo st h (fun x => .int (-x))
  | .i2l => ab_i1 lo st h (fun x => .long x.toInt64)
  | .i2b => ab_i1 lo st h (fun x => .int x.toInt8.toInt32)
  | .i2s => ab_i1 lo st h (fun x => .int x.toInt16.toInt32)
  | .i2c => ab_i1 lo st h (fun x => .int (x.toUInt32 % 65536).toInt32)
  | .lneg => ab_l1 lo st h (fun x => .long (-x))
  | .l2i => ab_l1 lo st h (fun x => .int x.toInt32)
  | .lcmp => ab_lc lo st h
  | .dup => ab_dup lo st h
  | .dup2 => ab_dup2 lo st h
  | .dup_x1 => ab_dupx1 lo st h
  | .dup_x2 => ab_dupx2 lo st h
  | .pop => ab_pop lo st h
  | .iaload => if j.2.2.2.1 = 1 then ab_ial lo st h else none
  | .iastore => if j.2.2.2.1 = 1 then ab_ias lo st h else none
  | .aaload => if j.2.2.2.1 = 1 then ab_aal lo st h else none
  | .idiv => if j.2.2.2.1 = 1 then ab_div lo st h else none
  | .irem => if j.2.2.2.1 = 1 then ab_rem lo st h else none
  | .getfield _ => ab_gf lo st h j.2.2.2.1 j.2.2.2.2
  | .putfield _ => ab_pu lo st h j.2.2.2.1 j.2.2.2.2
  | .getstatic _ => if j.2.2.2.2 < ab_NT then some (lo, .ref j.2.2.2.2 :: st, h) else none
  | _ => none
/-- the field that 'own' links at idx is field k of class number ci: by the tables' words -/
def ab_fl (own : String) (idx ci k : Nat) : Bool := match vwCl[ci]? with
  | some q => decide (k < q.2.2) && decide (Cond.fieldLink own idx (q.2.1 k).1 (q.2.1 k).2.1 (q.2.1 k).2.2.1 ∈ lw_tbl)
  | none => false
def ab_pf (y : MethodName) (idx ci k : Nat) : Bool := match vwCl[ci]? with
  | some q => if (q.2.1 k).2.2.2 = true then decide (k < q.2.2) && (y.name == "<init>") && ((q.2.1 k).1 == y.cls) && decide (Cond.fieldLink y.cls idx (q.2.1 k).1 (q.2.1 k).2.1 (q.2.1 k).2.2.1 ∈ lw_tbl) else ab_fl y.cls idx ci k
  | none => false
def ab_cI (own : String) (i : Nat) (cv : Value) : Bool := match cv with
  | .int v => decide (Cond.constant own i v ∈ lw_tbl)
  | _ => false
def ab_cL (own : String) (i : Nat) (cv : Value) : Bool := match cv with
  | .long v => decide (Cond.constantLong own i v ∈ lw_tbl)
  | _ => false
theorem ab_cI_inv {own : String} {i : Nat} {cv : Value} (h : ab_cI own i cv = true) : ∃ v, cv = .int v ∧ Cond.constant own i v ∈ lw_tbl := by
  unfold ab_cI at h
  split at h
  · rename_i v
    exact ⟨v, rfl, of_decide_eq_true h⟩
  · cases h
theorem ab_cL_inv {own : String} {i : Nat} {cv : Value} (h : ab_cL own i cv = true) : ∃ v, cv = .long v ∧ Cond.constantLong own i v ∈ lw_tbl := by
  unfold ab_cL at h
  split at h
  · rename_i v
    exact ⟨v, rfl, of_decide_eq_true h⟩
  · cases h
/-- the plain instruction's length is as it should be, and the words that it needs are there -/
def ab_ck1 (y : MethodName) (j : ab_J) : Bool := match j.1 with
  | .iconst n => j.2.1 == 1 && decide (j.2.2.1 = .int (Int32.ofInt n))
  | .bipush n => j.2.1 == 2 && decide (j.2.2.1 = .int (Int8.ofInt n).toInt32)
  | .sipush n => j.2.1 == 3 && decide (j.2.2.1 = .int (Int16.ofInt n).toInt32)
  | .lconst n => j.2.1 == 1 && decide (j.2.2.1 = .long (Int64.ofNat n.val))
  | .ldc i => j.2.1 == 2 && ab_cI y.cls i j.2.2.1
  | .ldc_w i => j.2.1 == 3 && ab_cI y.cls i j.2.2.1
  | .ldc2_w i => j.2.1 == 3 && ab_cL y.cls i j.2.2.1
  | .iinc _ n => (j.2.1 == 3 || j.2.1 == 6) && decide (j.2.2.1 = .int (Int32.ofInt n))
  | .iload _ => j.2.1 == 2
  | .lload _ => j.2.1 == 2
  | .aload _ => j.2.1 == 2
  | .istore _ => j.2.1 == 2
  | .lstore _ => j.2.1 == 2
  | .astore _ => j.2.1 == 2
  | .getfield i => j.2.1 == 3 && ab_fl y.cls i j.2.2.2.1 j.2.2.2.2
  | .putfield i => j.2.1 == 3 && ab_pf y i j.2.2.2.1 j.2.2.2.2
  | .getstatic i => j.2.1 == 3 && ab_sts.any (fun q => q.2.2.2 == j.2.2.2.2 && decide (Cond.fieldLink y.cls i q.1 q.2.1 q.2.2.1 ∈ lw_tbl))
  | _ => j.2.1 == 1
theorem ab_ldI_inv {lo lo' : ab_Lo} {i : Nat} {st st' : List Value} {h h' : ab_H} (hs : ab_ldI lo i st h = some (lo', st', h')) : ∃ x, lo[i]? = some (some (.int x)) ∧ lo' = lo ∧ st' = .int x :: st ∧ h' = h := by
  unfold ab_ldI at hs
  split at hs
  · rename_i x hx0
    cases hs
    exact ⟨x, hx0, rfl, rfl, rfl⟩
  · cases hs
theorem ab_ldL_inv {lo lo' : ab_Lo} {i : Nat} {st st' : List Value} {h h' : ab_H} (hs : ab_ldL lo i st h = some (lo', st', h')) : ∃ x, lo[i]? = some (some (.long x)) ∧ lo' = lo ∧ st' = .long x :: st ∧ h' = h := by
  unfold ab_ldL at hs
  split at hs
  · rename_i x hx0
    cases hs
    exact ⟨x, hx0, rfl, rfl, rfl⟩
  · cases hs
theorem ab_ldA_inv {lo lo' : ab_Lo} {i : Nat} {st st' : List Value} {h h' : ab_H} (hs : ab_ldA lo i st h = some (lo', st', h')) : ∃ x, lo[i]? = some (some (.ref x)) ∧ lo' = lo ∧ st' = .ref x :: st ∧ h' = h := by
  unfold ab_ldA at hs
  split at hs
  · rename_i x hx0
    cases hs
    exact ⟨x, hx0, rfl, rfl, rfl⟩
  · cases hs
theorem ab_stI_inv {lo lo' : ab_Lo} {i : Nat} {st st' : List Value} {h h' : ab_H} (hs : ab_stI lo i st h = some (lo', st', h')) : ∃ x, st = .int x :: st' ∧ i < lo.length ∧ lo' = ab_set1 lo i (.int x) ∧ h' = h := by
  unfold ab_stI at hs
  split at hs
  · rename_i x r
    split at hs
    · rename_i hi
      cases hs
      exact ⟨x, rfl, hi, rfl, rfl⟩
    · cases hs
  · cases hs
theorem ab_stL_inv {lo lo' : ab_Lo} {i : Nat} {st st' : List Value} {h h' : ab_H} (hs : ab_stL lo i st h = some (lo', st', h')) : ∃ x, st = .long x :: st' ∧ i + 1 < lo.length ∧ lo' = ab_set2 lo i (.long x) ∧ h' = h := by
  unfold ab_stL at hs
  split at hs
  · rename_i x r
    split at hs
    · rename_i hi
      cases hs
      exact ⟨x, rfl, hi, rfl, rfl⟩
    · cases hs
  · cases hs
theorem ab_stA_inv {lo lo' : ab_Lo} {i : Nat} {st st' : List Value} {h h' : ab_H} (hs : ab_stA lo i st h = some (lo', st', h')) : ∃ x, st = .ref x :: st' ∧ i < lo.length ∧ lo' = ab_set1 lo i (.ref x) ∧ h' = h := by
  unfold ab_stA at hs
  split at hs
  · rename_i x r
    split at hs
    · rename_i hi
      cases hs
      exact ⟨x, rfl, hi, rfl, rfl⟩
    · cases hs
  · cases hs
theorem ab_i2_inv {lo lo' : ab_Lo} {st st' : List Value} {h h' : ab_H} {f : Int32 → Int32 → Int32} (hs : ab_i2 lo st h f = some (lo', st', h')) : ∃ x y r, st = .int y :: .int x :: r ∧ lo' = lo ∧ st' = .int (f x y) :: r ∧ h' = h := by
  unfold ab_i2 at hs
  split at hs
  · rename_i y x r
    cases hs
    exact ⟨x, y, r, rfl, rfl, rfl, rfl⟩
  · cases hs
theorem ab_l2_inv {lo lo' : ab_Lo} {st st' : List Value} {h h' : ab_H} {f : Int64 → Int64 → Int64} (hs : ab_l2 lo st h f = some (lo', st', h')) : ∃ x y r, st = .long y :: .long x :: r ∧ lo' = lo ∧ st' = .long (f x y) :: r ∧ h' = h := by
  unfold ab_l2 at hs
  split at hs
  · rename_i y x r
    cases hs
    exact ⟨x, y, r, rfl, rfl, rfl, rfl⟩
  · cases hs
theorem ab_ls_inv {lo lo' : ab_Lo} {st st' : List Value} {h h' : ab_H} {f : Int64 → Int32 → Int64} (hs : ab_ls lo st h f = some (lo', st', h')) : ∃ x y r, st = .int y :: .long x :: r ∧ lo' = lo ∧ st' = .long (f x y) :: r ∧ h' = h := by
  unfold ab_ls at hs
  split at hs
  · rename_i y x r
    cases hs
    exact ⟨x, y, r, rfl, rfl, rfl, rfl⟩
  · cases hs
theorem ab_i1_inv {lo lo' : ab_Lo} {st st' : List Value} {h h' : ab_H} {f : Int32 → Value} (hs : ab_i1 lo st h f = some (lo', st', h')) : ∃ x r, st = .int x :: r ∧ lo' = lo ∧ st' = f x :: r ∧ h' = h := by
  unfold ab_i1 at hs
  split at hs
  · rename_i x r
    cases hs
    exact ⟨x, r, rfl, rfl, rfl, rfl⟩
  · cases hs
theorem ab_l1_inv {lo lo' : ab_Lo} {st st' : List Value} {h h' : ab_H} {f : Int64 → Value} (hs : ab_l1 lo st h f = some (lo', st', h')) : ∃ x r, st = .long x :: r ∧ lo' = lo ∧ st' = f x :: r ∧ h' = h := by
  unfold ab_l1 at hs
  split at hs
  · rename_i x r
    cases hs
    exact ⟨x, r, rfl, rfl, rfl, rfl⟩
  · cases hs
theorem ab_lc_inv {lo lo' : ab_Lo} {st st' : List Value} {h h' : ab_H} (hs : ab_lc lo st h = some (lo', st', h')) : ∃ x y r, st = .long y :: .long x :: r ∧ lo' = lo ∧ st' = .int (lg_cmp x y) :: r ∧ h' = h := by
  unfold ab_lc at hs
  split at hs
  · rename_i y x r
    cases hs
    exact ⟨x, y, r, rfl, rfl, rfl, rfl⟩
  · cases hs
theorem ab_inc_inv {lo lo' : ab_Lo} {i : Nat} {cv : Value} {st st' : List Value} {h h' : ab_H} (hs : ab_inc lo i cv st h = some (lo', st', h')) : ∃ x y, lo[i]? = some (some (.int x)) ∧ cv = .int y ∧ i < lo.length ∧ lo' = ab_set1 lo i (.int (x + y)) ∧ st' = st ∧ h' = h := by
  unfold ab_inc at hs
  split at hs
  · rename_i x y hx0
    split at hs
    · rename_i hi
      cases hs
      exact ⟨x, y, hx0, rfl, hi, rfl, rfl, rfl⟩
    · cases hs
  · cases hs
theorem ab_gf_inv {lo lo' : ab_Lo} {ci k : Nat} {st st' : List Value} {h h' : ab_H} (hs : ab_gf lo st h ci k = some (lo', st', h')) : ∃ a r fs v, st = .ref a :: r ∧ ¬ a < ab_NT ∧ h[a - ab_NT]? = some (.inr (ci, fs)) ∧ fs[k]? = some v ∧ lo' = lo ∧ st' = v :: r ∧ h' = h := by
  unfold ab_gf ab_at at hs
  split at hs
  · rename_i a r
    split at hs
    · rename_i c fs hc
      split at hc
      · cases hc
      · rename_i ha
        split at hs
        · rename_i hci
          subst hci
          split at hs
          · rename_i v hv
            cases hs
            exact ⟨a, r, fs, v, rfl, ha, hc, hv, rfl, rfl, rfl⟩
          · cases hs
        · cases hs
    · cases hs
  · cases hs
theorem ab_pu_inv {lo lo' : ab_Lo} {ci k : Nat} {st st' : List Value} {h h' : ab_H} (hs : ab_pu lo st h ci k = some (lo', st', h')) : ∃ a fs v, st = v :: .ref a :: st' ∧ ¬ a < ab_NT ∧ h[a - ab_NT]? = some (.inr (ci, fs)) ∧ k < fs.length ∧ ab_fit (ab_fty ci k) v = true ∧ lo' = lo ∧ h' = h.set (a - ab_NT) (.inr (ci, fs.set k v)) := by
  unfold ab_pu ab_at at hs
  split at hs
  · rename_i v a r
    split at hs
    · rename_i c fs hc
      split at hc
      · cases hc
      · rename_i ha
        split at hs
        · rename_i hci
          obtain ⟨rfl, hk, hf⟩ := hci
          cases hs
          exact ⟨a, fs, v, rfl, ha, hc, hk, hf, rfl, rfl⟩
        · cases hs
    · cases hs
  · cases hs
theorem ab_fit_ok {X : ab_C} {ty : FieldType} {v : Value} (h : ab_fit ty v = true) : narrow ty (ab_v X v) = ab_v X v ∧ fits ty (ab_v X v) = true := by
  unfold ab_fit at h
  split at h
  · exact ⟨rfl, rfl⟩
  · exact ⟨rfl, rfl⟩
  · exact ⟨rfl, rfl⟩
  · exact ⟨rfl, rfl⟩
  · rename_i x
    simp only [Bool.or_eq_true, beq_iff_eq] at h
    rcases h with rfl | rfl
    · exact ⟨show narrow .boolean (.int 0) = .int 0 by decide, show fits .boolean (.int 0) = true by decide⟩
    · exact ⟨show narrow .boolean (.int 1) = .int 1 by decide, show fits .boolean (.int 1) = true by decide⟩
  · cases h
theorem ab_at_own {h : ab_H} {a : Nat} {c : va_E} (hc : ab_at h a = some c) : ¬ a < ab_NT ∧ h[a - ab_NT]? = some c := by
  unfold ab_at at hc
  split at hc
  · cases hc
  · rename_i ha
    exact ⟨ha, hc⟩
theorem ab_ad_tab {X : ab_C} {a : Nat} (ha : a < ab_NT) : ab_v X (.ref a) = .ref (X.2.2.2.2.1 a) := by
  show Value.ref (ab_ad X a) = _
  unfold ab_ad
  rw [if_pos ha]
theorem ab_inb_ok {i : Int32} {n : Nat} (h : ab_inb i n = true) : vp_in i n := by
  unfold ab_inb at h
  simp only [Bool.and_eq_true, decide_eq_true_eq] at h
  exact vp_in_iff.mpr h
theorem ab_ial_inv {lo lo' : ab_Lo} {st st' : List Value} {h h' : ab_H} (hs : ab_ial lo st h = some (lo', st', h')) : ∃ i a r n f, st = .int i :: .ref a :: r ∧ ab_at h a = some (.inl (0, n, .inl f)) ∧ vp_in i n ∧ lo' = lo ∧ st' = .int (f i.toNatClampNeg) :: r ∧ h' = h := by
  unfold ab_ial at hs
  split at hs
  · rename_i i a r
    split at hs
    · rename_i t n f hc
      split at hs
      · rename_i hg
        obtain ⟨rfl, hg⟩ := hg
        cases hs
        exact ⟨i, a, r, n, f, rfl, hc, ab_inb_ok hg, rfl, rfl, rfl⟩
      · cases hs
    · cases hs
  · cases hs
theorem ab_ias_inv {lo lo' : ab_Lo} {st st' : List Value} {h h' : ab_H} (hs : ab_ias lo st h = some (lo', st', h')) : ∃ i x a n f, st = .int x :: .int i :: .ref a :: st' ∧ ab_at h a = some (.inl (0, n, .inl f)) ∧ vp_in i n ∧ lo' = lo ∧ h' = h.set (a - ab_NT) (.inl (0, n, .inl (upd f i.toNatClampNeg x))) := by
  unfold ab_ias at hs
  split at hs
  · rename_i x i a r
    split at hs
    · rename_i t n f hc
      split at hs
      · rename_i hg
        obtain ⟨rfl, hg⟩ := hg
        cases hs
        exact ⟨i, x, a, n, f, rfl, hc, ab_inb_ok hg, rfl, rfl⟩
      · cases hs
    · cases hs
  · cases hs
theorem ab_aal_inv {lo lo' : ab_Lo} {st st' : List Value} {h h' : ab_H} (hs : ab_aal lo st h = some (lo', st', h')) : ∃ i a r n f q, st = .int i :: .ref a :: r ∧ ab_at h a = some (.inl (2, n, .inr (.inr (.inr (.inr f))))) ∧ vp_in i n ∧ f i.toNatClampNeg = some q ∧ lo' = lo ∧ st' = .ref q :: r ∧ h' = h := by
  unfold ab_aal at hs
  split at hs
  · rename_i i a r
    split at hs
    · rename_i t n f hc
      split at hs
      · rename_i hg
        obtain ⟨rfl, hg⟩ := hg
        split at hs
        · rename_i q hq
          cases hs
          exact ⟨i, a, r, n, f, q, rfl, hc, ab_inb_ok hg, hq, rfl, rfl, rfl⟩
        · cases hs
      · cases hs
    · cases hs
  · cases hs
theorem ab_div_inv {lo lo' : ab_Lo} {st st' : List Value} {h h' : ab_H} (hs : ab_div lo st h = some (lo', st', h')) : ∃ x y r, st = .int y :: .int x :: r ∧ ¬ y = 0 ∧ lo' = lo ∧ st' = .int (x / y) :: r ∧ h' = h := by
  unfold ab_div at hs
  split at hs
  · rename_i y x r
    split at hs
    · cases hs
    · rename_i hy
      cases hs
      exact ⟨x, y, r, rfl, hy, rfl, rfl, rfl⟩
  · cases hs
theorem ab_rem_inv {lo lo' : ab_Lo} {st st' : List Value} {h h' : ab_H} (hs : ab_rem lo st h = some (lo', st', h')) : ∃ x y r, st = .int y :: .int x :: r ∧ ¬ y = 0 ∧ lo' = lo ∧ st' = .int (x - x / y * y) :: r ∧ h' = h := by
  unfold ab_rem at hs
  split at hs
  · rename_i y x r
    split at hs
    · cases hs
    · rename_i hy
      cases hs
      exact ⟨x, y, r, rfl, hy, rfl, rfl, rfl⟩
  · cases hs
end
section
/-! The plain instructions keep the machine in step -/
def ab_tyq (q : vw_C) (k : Nat) : FieldType := (parseFieldDescriptor (q.2.1 k).2.2.1).getD .int
def ab_clsB (q : vw_C) : Bool := (u_ws q.1 q.2.1 q.2.2).all (fun w => decide (w ∈ lw_tbl) && goodWord w) && ((List.range q.2.2).all (fun k => decide (parseFieldDescriptor (q.2.1 k).2.2.1 = some (ab_tyq q k))) && (List.range q.2.2).all (fun a => (List.range q.2.2).all (fun b => decide (a = b) || decide ((q.2.1 a).2.1 ≠ (q.2.1 b).2.1))))
theorem ab_clsB_ok : vwCl.all ab_clsB = true := by decide +kernel
theorem ab_cls {ci : Nat} {C : String} {T : u_T} {N : Nat} (h : vwCl[ci]? = some (C, T, N)) : (∀ w ∈ u_ws C T N, w ∈ ab_tb) ∧ (∀ k, k < N → parseFieldDescriptor (T k).2.2.1 = some (ab_tyq (C, T, N) k)) ∧ (∀ a, a < N → ∀ b, b < N → a ≠ b → (T a).2.1 ≠ (T b).2.1) := by
  have h1 := List.all_eq_true.mp ab_clsB_ok _ (List.mem_of_getElem? h)
  unfold ab_clsB at h1
  simp only [Bool.and_eq_true, List.all_eq_true, decide_eq_true_eq, List.mem_range, Bool.or_eq_true] at h1
  exact ⟨fun w hw => ab_in (h1.1 w hw).1 (h1.1 w hw).2, h1.2.1, fun a ha b hb hne => (h1.2.2 a ha b hb).resolve_left hne⟩
theorem ab_fl_inv {own : String} {idx ci k : Nat} (h : ab_fl own idx ci k = true) : ∃ (C : String) (T : u_T) (N : Nat), vwCl[ci]? = some (C, T, N) ∧ k < N ∧ Cond.fieldLink own idx (T k).1 (T k).2.1 (T k).2.2.1 ∈ lw_tbl := by
  unfold ab_fl at h
  split at h
  · rename_i q hq
    obtain ⟨C, T, N⟩ := q
    simp only [Bool.and_eq_true, decide_eq_true_eq] at h
    exact ⟨C, T, N, hq, h.1, h.2⟩
  · cases h
theorem ab_ad_own {X : ab_C} {a : Nat} (ha : ¬ a < ab_NT) : ab_v X (.ref a) = .ref (ab_b X + (a - ab_NT)) := by
  show Value.ref (ab_ad X a) = _
  unfold ab_ad
  rw [if_neg ha]
/-- an object's cell, and a field of it -/
theorem ab_obj {X : ab_C} {h : ab_H} {H : Heap} {s : State} (hK : va_K X.2.1 vwCl (ab_tys X) s) (hRel : ab_Rel X h H) {k ci : Nat} {fs : List Value} (hc0 : h[k]? = some (.inr (ci, fs))) {C : String} {T : u_T} {N : Nat} (hcl : vwCl[ci]? = some (C, T, N)) :
    ∃ cell : Cell, H[ab_b X + k]? = some cell ∧ cell.cls = X.2.1.1 ci ∧ cell.vm = .none ∧ (∀ j, j < N → cell.slots[X.2.1.2 ci j]? = some (vp_V (fs.map (ab_v X)) j)) := by
  have h0 : va_at X.2.1 vwCl (ab_b X + k, .inr (ci, fs.map (ab_v X))) H := hRel.2 k _ (ab_ws_at hc0)
  obtain ⟨r, h1, cell, q1, q2, q3, q4⟩ := h0
  have hr : r = (C, T, N) := Option.some.inj (h1.symm.trans hcl)
  subst hr
  exact ⟨cell, q1, q2, q3, q4⟩
/-- a cell changed, all others as they were -/
theorem ab_Rel.set {X : ab_C} {h : ab_H} {H H1 : Heap} (hRel : ab_Rel X h H) {k : Nat} {c0 c1 : va_E} (hc0 : h[k]? = some c0) (he : va_at X.2.1 vwCl (ab_b X + k, ab_c X c1) H1) (hz : H1.size = H.size) (oq : ∀ q : Nat, q ≠ ab_b X + k → H1[q]? = H[q]?) : ab_Rel X (h.set k c1) H1 := by
  refine ⟨by rw [hz, List.length_set]; exact hRel.1, ?_⟩
  rw [← ab_ws_set]
  exact hRel.2.set (ab_ws_D X h) (ab_ws_at hc0) he oq
theorem ab_pf_inv {y : MethodName} {idx ci k : Nat} (h : ab_pf y idx ci k = true) : ∃ (C : String) (T : u_T) (N : Nat), vwCl[ci]? = some (C, T, N) ∧ k < N ∧ (((T k).2.2.2 = true ∧ y.name = "<init>" ∧ (T k).1 = y.cls ∧ Cond.fieldLink y.cls idx (T k).1 (T k).2.1 (T k).2.2.1 ∈ lw_tbl) ∨ ((T k).2.2.2 = false ∧ Cond.fieldLink y.cls idx (T k).1 (T k).2.1 (T k).2.2.1 ∈ lw_tbl)) := by
  unfold ab_pf at h
  split at h
  · rename_i q hq
    obtain ⟨C, T, N⟩ := q
    split at h
    · rename_i hf
      simp only [Bool.and_eq_true, decide_eq_true_eq, beq_iff_eq] at h
      exact ⟨C, T, N, hq, h.1.1.1, Or.inl ⟨hf, h.1.1.2, h.1.2, h.2⟩⟩
    · rename_i hf
      obtain ⟨C', T', N', hq', hk, hl⟩ := ab_fl_inv h
      have e : (C', T', N') = (C, T, N) := Option.some.inj (hq'.symm.trans hq)
      cases e
      exact ⟨C, T, N, hq, hk, Or.inr ⟨by simpa using hf, hl⟩⟩
  · cases h
section ABP
variable {p : Program} {l : Launch} {e : Env} {R : Room} {s : State} {m : MethodId} {args : Array Value} {below : List Frame} {meth : Method} {c : Code} {H : Heap} {locs : List Loc} {cells slots : Nat} {Q : State → Prop}
variable {cc : ByteArray} {pc : Nat} {ls : Array Slot} {rest : List Value}
/-- putfield, the three ways that a field is linked -/
theorem ab_putf {X : ab_C} {h : ab_H} {y : MethodName} (hx : p.tables.exec = Jvm.exec) (hb : c.code = cc) (hts : ∀ w ∈ ab_tb, w.before args s = true) (hown : s.vm.findClass y.cls = some m.cls) (hnm : meth.name = y.name) (hK : va_K X.2.1 vwCl (ab_tys X) s) (hRel : ab_Rel X h H) (hS : va_S (ab_A X) s.heap H locs)
    {k ci idx kf : Nat} {fs : List Value} {v : Value} (hc0 : h[k]? = some (.inr (ci, fs))) (hck : ab_pf y idx ci kf = true) (hkl : kf < fs.length) (hfit : ∀ ty, ty = ab_fty ci kf → narrow ty (ab_v X v) = ab_v X v ∧ fits ty (ab_v X v) = true) (hdg : decode cc pc = .ok (.putfield idx, 3))
    (kk : ∀ (H1 : Heap) (locs1 : List Loc), ab_Rel X (h.set k (.inr (ci, fs.set kf v))) H1 → va_S (ab_A X) s.heap H1 locs1 → W p l e R s m args below meth c H1 locs1 cells slots Q (F0 m (pc + 3) ls rest)) : W p l e R s m args below meth c H locs cells slots Q (F0 m pc ls (ab_v X v :: .ref (ab_b X + k) :: rest)) := by
  obtain ⟨C, T, N, hcl, hkN, hl⟩ := ab_pf_inv hck
  obtain ⟨hin, hty, hnms⟩ := ab_cls hcl
  obtain ⟨cell, q1, q2, q3, q4⟩ := ab_obj hK hRel hc0 hcl
  obtain ⟨hSl, hfc, kC, hkC, hkind⟩ := hK.1 ci _ hcl
  obtain ⟨cf, kc, fi, f, hi, hsl⟩ := hSl kf hkN
  have hap := va_apart (own := y.cls) hts hin (ab_tyq (C, T, N)) hty hnms hK hcl
  have hst := (u_facts hfc hkC (u_lays hts hin hkN) hi).1
  have htyE : ab_fty ci kf = ab_tyq (C, T, N) kf := by unfold ab_fty; rw [hcl]; rfl
  obtain ⟨hn, hf⟩ := hfit _ htyE.symm
  have hd := hty kf hkN
  have fin : ∀ H' : Heap, H'[ab_b X + k]? = some (cell.setSlot f.slot (ab_v X v)) → H'.size = H.size → (∀ q, q ≠ ab_b X + k → H'[q]? = H[q]?) → W p l e R s m args below meth c H' (locs ++ [⟨ab_b X + k, f.slot⟩]) cells slots Q (F0 m (pc + 3) ls rest) := by
    intro H' e1 e2 e3
    rw [hsl] at e1 ⊢
    refine kk H' _ (hRel.set hc0 ⟨_, hcl, ?_⟩ e2 e3) (hS.put e2 e3 (Nat.le_add_right _ _))
    refine t_OB.to (V := updV (vp_V (fs.map (ab_v X))) kf (ab_v X v)) ⟨_, e1, q2, q3, t_set q4 hap hkN (ab_v X v)⟩ (fun j _ => ?_)
    rw [vp_updV_set (by rw [List.length_map]; exact hkl), ← List.map_set]
  rcases hl with ⟨hfin, hyn, hyc, hlk⟩ | ⟨hfin, hlk⟩
  · have hlay := hts _ (hin _ (u_in_lay hkN))
    unfold u_lay at hlay
    rw [if_pos hfin] at hlay
    have hcf : m.cls = cf := by
      obtain ⟨_, _, c', _, _, _, -, -, hf', -, -, -, hown2, -⟩ := Cond.laysFinal_spec hlay
      have e1 : c' = cf := by have := hi.symm.trans hf'; simp at this; exact this.1.symm
      rw [hyc] at hown2
      rw [← e1]; exact Option.some.inj (hown.symm.trans hown2)
    exact W.putFinK hx hb hown (hts _ (ab_in hlk rfl)) hi hst hcf (hnm.trans hyn) (by rw [q2]; exact u_fits hfc hkC hkind (Or.inr hlay) hi hd hn hf) q1 q3 (by rw [hsl]; exact k2_hasslot (q4 kf hkN)) rfl rfl hdg fin
  · have hlay := hts _ (hin _ (u_in_lay hkN))
    unfold u_lay at hlay
    rw [if_neg (by rw [hfin]; decide)] at hlay
    have h6 := u_store hfc hkC hkind hlay hi hd hn hf
    exact W.putK hx hb (f := f) ⟨hown, hts _ (ab_in hlk rfl), ⟨_, _, _, hi⟩, hst⟩ (by rw [q2]; exact h6) q1 q3 (by rw [hsl]; exact k2_hasslot (q4 kf hkN)) rfl rfl hdg fin
theorem ab_Wiast {X : ab_C} {h : ab_H} (hx : p.tables.exec = Jvm.exec) (hb : c.code = cc) (hK : va_K X.2.1 vwCl (ab_tys X) s) (hRel : ab_Rel X h H) (hS : va_S (ab_A X) s.heap H locs) {k n : Nat} {f : Nat → Int32} {i x : Int32} (hc1 : h[k]? = some (.inl (0, n, .inl f))) (hin : vp_in i n) (hd : decode cc pc = .ok (.iastore, 1))
    (kk : ∀ (H1 : Heap) (locs1 : List Loc), ab_Rel X (h.set k (.inl (0, n, .inl (upd f i.toNatClampNeg x)))) H1 → va_S (ab_A X) s.heap H1 locs1 → W p l e R s m args below meth c H1 locs1 cells slots Q (F0 m (pc + 1) ls rest)) : W p l e R s m args below meth c H locs cells slots Q (F0 m pc ls (.int x :: .int i :: .ref (ab_b X + k) :: rest)) := by
  have hcell : H[ab_b X + k]? = some (arrV (X.2.2.1 0) n (fun j => .int (f j))) := hRel.2 _ _ (ab_ws_at hc1)
  refine W.iast hx hb hcell ((hK.2 0 _ rfl).1 n (fun j => .int (f j))) (fun q => by cases q) (by rw [arrV_size]; exact hin) rfl rfl hd fun H1 e1 z oq => ?_
  refine kk H1 _ (hRel.set hc1 ?_ z oq) (hS.put z oq (Nat.le_add_right _ _))
  show H1[ab_b X + k]? = some (arrV (X.2.2.1 0) n (fun j => .int (upd f i.toNatClampNeg x j)))
  rw [e1, arrV_store]
  congr 2
  funext q
  by_cases hq : q = i.toNatClampNeg <;> simp [updV, upd, hq]
theorem ab_Wlast {X : ab_C} {h : ab_H} (hx : p.tables.exec = Jvm.exec) (hb : c.code = cc) (hK : va_K X.2.1 vwCl (ab_tys X) s) (hRel : ab_Rel X h H) (hS : va_S (ab_A X) s.heap H locs) {k n : Nat} {f : Nat → Int64} {i : Int32} {x : Int64} (hc1 : h[k]? = some (.inl (1, n, .inr (.inl f)))) (hin : vp_in i n) (hd : decode cc pc = .ok (.lastore, 1))
    (kk : ∀ (H1 : Heap) (locs1 : List Loc), ab_Rel X (h.set k (.inl (1, n, .inr (.inl (vp_updL f i.toNatClampNeg x))))) H1 → va_S (ab_A X) s.heap H1 locs1 → W p l e R s m args below meth c H1 locs1 cells slots Q (F0 m (pc + 1) ls rest)) : W p l e R s m args below meth c H locs cells slots Q (F0 m pc ls (.long x :: .int i :: .ref (ab_b X + k) :: rest)) := by
  have hcell : H[ab_b X + k]? = some (arrV (X.2.2.1 1) n (fun j => .long (f j))) := hRel.2 _ _ (ab_ws_at hc1)
  refine W.last hx hb hcell ((hK.2 1 _ rfl).1 n (fun j => .long (f j))) (fun q => by cases q) (by rw [arrV_size]; exact hin) rfl rfl hd fun H1 e1 z oq => ?_
  refine kk H1 _ (hRel.set hc1 ?_ z oq) (hS.put z oq (Nat.le_add_right _ _))
  show H1[ab_b X + k]? = some (arrV (X.2.2.1 1) n (fun j => .long (vp_updL f i.toNatClampNeg x j)))
  rw [e1, arrV_store]
  congr 2
  funext q
  by_cases hq : q = i.toNatClampNeg <;> simp [updV, vp_updL, hq]
theorem ab_Waald {X : ab_C} {h : ab_H} (hx : p.tables.exec = Jvm.exec) (hb : c.code = cc) (hK : va_K X.2.1 vwCl (ab_tys X) s) (hRel : ab_Rel X h H) {k n : Nat} {f : Nat → Option Nat} {i : Int32} (hc1 : h[k]? = some (.inl (2, n, .inr (.inr (.inr (.inr f)))))) (hin : vp_in i n) {q : Nat} (hq : f i.toNatClampNeg = some q) (hd : decode cc pc = .ok (.aaload, 1))
    (kk : W p l e R s m args below meth c H locs cells slots Q (F0 m (pc + 1) ls (ab_v X (.ref q) :: rest))) : W p l e R s m args below meth c H locs cells slots Q (F0 m pc ls (.int i :: .ref (ab_b X + k) :: rest)) := by
  have hcell : H[ab_b X + k]? = some (arrV (X.2.2.1 2) n (fun j => va_rf ((f j).map (ab_ad X)))) := hRel.2 _ _ (ab_ws_at hc1)
  have hlt : i.toNatClampNeg < n := Nat.not_le.mp fun q => hin (Or.inr q)
  refine W.aald (v := ab_v X (.ref q)) (ty := .array .int) hx hb hcell ((hK.2 2 _ rfl).1 n _) rfl (fun q => by cases q) (by rw [arrV_size]; exact hin) (by rw [arrV_read _ _ hlt, hq]; rfl) rfl rfl hd kk
end ABP

set_option maxHeartbeats 4000000 in
theorem ab_step_ok {X : ab_C} {M : ab_Mt} {d bc bs pc : Nat} {lo lo' : ab_Lo} {st st' : List Value} {h h' : ab_H} {Q : Option Value → ab_H → Prop} {j : ab_J} (hd : decode M.2.1 pc = .ok (j.1, j.2.1)) (hc : ab_ck1 M.1 j = true) (hs : ab_step j lo st h = some (lo', st', h')) (k : ab_W X M d bc bs (pc + j.2.1) lo' st' h' Q) : ab_W X M d bc bs pc lo st h Q := by
  obtain ⟨ins, len, cv, ci, kf⟩ := j
  intro p e R s m args below meth c H locs cells slots ls F V
  have k := fun H locs ls V => k p e R s m args below meth c H locs cells slots ls F V
  obtain ⟨hx, hb, hr, hml, hown, hts, hlk, hnm, hok, hfr, hlo⟩ := F
  obtain ⟨v1, v2, hS, hRel, hLR⟩ := V
  dsimp only at hd
  cases ins with
  | iconst n =>
    have hs : some (lo, cv :: st, h) = some (lo', st', h') := hs
    cases hs
    have hc : (len == 1 && decide (cv = .int (Int32.ofInt n))) = true := hc
    simp only [Bool.and_eq_true, beq_iff_eq, decide_eq_true_eq] at hc
    obtain ⟨rfl, rfl⟩ := hc
    exact lv_iconst hx hb hd rfl (k H locs ls ⟨v1, v2, hS, hRel, hLR⟩)
  | bipush n =>
    have hs : some (lo, cv :: st, h) = some (lo', st', h') := hs
    cases hs
    have hc : (len == 2 && decide (cv = .int (Int8.ofInt n).toInt32)) = true := hc
    simp only [Bool.and_eq_true, beq_iff_eq, decide_eq_true_eq] at hc
    obtain ⟨rfl, rfl⟩ := hc
    exact lv_bipush hx hb hd rfl (k H locs ls ⟨v1, v2, hS, hRel, hLR⟩)
  | sipush n =>
    have hs : some (lo, cv :: st, h) = some (lo', st', h') := hs
    cases hs
    have hc : (len == 3 && decide (cv = .int (Int16.ofInt n).toInt32)) = true := hc
    simp only [Bool.and_eq_true, beq_iff_eq, decide_eq_true_eq] at hc
    obtain ⟨rfl, rfl⟩ := hc
    exact lv_sipush hx hb hd rfl (k H locs ls ⟨v1, v2, hS, hRel, hLR⟩)
  | lconst n =>
    have hs : some (lo, cv :: st, h) = some (lo', st', h') := hs
    cases hs
    have hc : (len == 1 && decide (cv = .long (Int64.ofNat n.val))) = true := hc
    simp only [Bool.and_eq_true, beq_iff_eq, decide_eq_true_eq] at hc
    obtain ⟨rfl, rfl⟩ := hc
    exact lv_lconst hx hb hd rfl (k H locs ls ⟨v1, v2, hS, hRel, hLR⟩)
  | ldc i =>
    have hs : some (lo, cv :: st, h) = some (lo', st', h') := hs
    cases hs
    have hc : (len == 2 && ab_cI M.1.cls i cv) = true := hc
    simp only [Bool.and_eq_true, beq_iff_eq] at hc
    obtain ⟨rfl, hc⟩ := hc
    obtain ⟨v, rfl, hcm⟩ := ab_cI_inv hc
    exact lv_ldc hx hb hown (hts _ (ab_in hcm rfl)) hd (k H locs ls ⟨v1, v2, hS, hRel, hLR⟩)
  | ldc_w i =>
    have hs : some (lo, cv :: st, h) = some (lo', st', h') := hs
    cases hs
    have hc : (len == 3 && ab_cI M.1.cls i cv) = true := hc
    simp only [Bool.and_eq_true, beq_iff_eq] at hc
    obtain ⟨rfl, hc⟩ := hc
    obtain ⟨v, rfl, hcm⟩ := ab_cI_inv hc
    exact lv_ldcw hx hb hown (hts _ (ab_in hcm rfl)) hd (k H locs ls ⟨v1, v2, hS, hRel, hLR⟩)
  | ldc2_w i =>
    have hs : some (lo, cv :: st, h) = some (lo', st', h') := hs
    cases hs
    have hc : (len == 3 && ab_cL M.1.cls i cv) = true := hc
    simp only [Bool.and_eq_true, beq_iff_eq] at hc
    obtain ⟨rfl, hc⟩ := hc
    obtain ⟨v, rfl, hcm⟩ := ab_cL_inv hc
    exact lv_ldc2 hx hb hown (hts _ (ab_in hcm rfl)) hd (k H locs ls ⟨v1, v2, hS, hRel, hLR⟩)
  | iload_n i =>
    obtain ⟨x, hx0, rfl, rfl, rfl⟩ := ab_ldI_inv (i := i.val) hs
    obtain rfl : len = 1 := eq_of_beq (show (len == 1) = true from hc)
    exact lv_iload_n hx hb hd rfl (hLR.get hx0) (k H locs ls ⟨v1, v2, hS, hRel, hLR⟩)
  | iload i =>
    obtain ⟨x, hx0, rfl, rfl, rfl⟩ := ab_ldI_inv (i := i) hs
    obtain rfl : len = 2 := eq_of_beq (show (len == 2) = true from hc)
    exact lv_iload hx hb hd (hLR.get hx0) (k H locs ls ⟨v1, v2, hS, hRel, hLR⟩)
  | lload_n i =>
    obtain ⟨x, hx0, rfl, rfl, rfl⟩ := ab_ldL_inv (i := i.val) hs
    obtain rfl : len = 1 := eq_of_beq (show (len == 1) = true from hc)
    exact lv_lload_n hx hb hd rfl (hLR.get hx0) (k H locs ls ⟨v1, v2, hS, hRel, hLR⟩)
  | lload i =>
    obtain ⟨x, hx0, rfl, rfl, rfl⟩ := ab_ldL_inv (i := i) hs
    obtain rfl : len = 2 := eq_of_beq (show (len == 2) = true from hc)
    exact lv_lload hx hb hd (hLR.get hx0) (k H locs ls ⟨v1, v2, hS, hRel, hLR⟩)
  | aload_n i =>
    obtain ⟨x, hx0, rfl, rfl, rfl⟩ := ab_ldA_inv (i := i.val) hs
    obtain rfl : len = 1 := eq_of_beq (show (len == 1) = true from hc)
    exact lv_aload_n hx hb hd rfl (hLR.get hx0) (k H locs ls ⟨v1, v2, hS, hRel, hLR⟩)
  | aload i =>
    obtain ⟨x, hx0, rfl, rfl, rfl⟩ := ab_ldA_inv (i := i) hs
    obtain rfl : len = 2 := eq_of_beq (show (len == 2) = true from hc)
    exact lv_aload hx hb hd (hLR.get hx0) (k H locs ls ⟨v1, v2, hS, hRel, hLR⟩)
  | istore_n i =>
    obtain ⟨x, rfl, hi, rfl, rfl⟩ := ab_stI_inv (i := i.val) hs
    obtain rfl : len = 1 := eq_of_beq (show (len == 1) = true from hc)
    obtain ⟨hn, lv, h1, h2⟩ := hLR
    exact lv_istore_n hx hb hd rfl h1 (by omega) rfl (fun ls' g => k H locs ls' ⟨v1, v2, hS, hRel, ab_LR.of1 (v := .int x) hn h2 hi g⟩)
  | istore i =>
    obtain ⟨x, rfl, hi, rfl, rfl⟩ := ab_stI_inv (i := i) hs
    obtain rfl : len = 2 := eq_of_beq (show (len == 2) = true from hc)
    obtain ⟨hn, lv, h1, h2⟩ := hLR
    exact lv_istore hx hb hd h1 (by omega) rfl (fun ls' g => k H locs ls' ⟨v1, v2, hS, hRel, ab_LR.of1 (v := .int x) hn h2 hi g⟩)
  | lstore_n i =>
    obtain ⟨x, rfl, hi, rfl, rfl⟩ := ab_stL_inv (i := i.val) hs
    obtain rfl : len = 1 := eq_of_beq (show (len == 1) = true from hc)
    obtain ⟨hn, lv, h1, h2⟩ := hLR
    exact lv_lstore_n hx hb hd rfl h1 (by omega) rfl (fun ls' g => k H locs ls' ⟨v1, v2, hS, hRel, ab_LR.of2 (v := .long x) hn h2 hi g⟩)
  | lstore i =>
    obtain ⟨x, rfl, hi, rfl, rfl⟩ := ab_stL_inv (i := i) hs
    obtain rfl : len = 2 := eq_of_beq (show (len == 2) = true from hc)
    obtain ⟨hn, lv, h1, h2⟩ := hLR
    exact lv_lstore hx hb hd h1 (by omega) rfl (fun ls' g => k H locs ls' ⟨v1, v2, hS, hRel, ab_LR.of2 (v := .long x) hn h2 hi g⟩)
  | astore_n i =>
    obtain ⟨x, rfl, hi, rfl, rfl⟩ := ab_stA_inv (i := i.val) hs
    obtain rfl : len = 1 := eq_of_beq (show (len == 1) = true from hc)
    obtain ⟨hn, lv, h1, h2⟩ := hLR
    exact lv_astore_n hx hb hd rfl h1 (by omega) rfl (fun ls' g => k H locs ls' ⟨v1, v2, hS, hRel, ab_LR.of1 (v := .ref x) hn h2 hi g⟩)
  | astore i =>
    obtain ⟨x, rfl, hi, rfl, rfl⟩ := ab_stA_inv (i := i) hs
    obtain rfl : len = 2 := eq_of_beq (show (len == 2) = true from hc)
    obtain ⟨hn, lv, h1, h2⟩ := hLR
    exact lv_astore hx hb hd h1 (by omega) rfl (fun ls' g => k H locs ls' ⟨v1, v2, hS, hRel, ab_LR.of1 (v := .ref x) hn h2 hi g⟩)
  | iinc i n =>
    obtain ⟨x, y, hx0, rfl, hi, rfl, rfl, rfl⟩ := ab_inc_inv (i := i) hs
    have hc : ((len == 3 || len == 6) && decide (Value.int y = .int (Int32.ofInt n))) = true := hc
    simp only [Bool.and_eq_true, Bool.or_eq_true, beq_iff_eq, decide_eq_true_eq, Value.int.injEq] at hc
    obtain ⟨hlen, rfl⟩ := hc
    obtain ⟨hn, lv, h1, h2⟩ := hLR
    obtain ⟨kk, hkk⟩ := List.getElem?_of_mem (h2 i _ hx0)
    rcases hlen with rfl | rfl
    · exact lv_iinc hx hb hd h1 hkk rfl (by omega) rfl (fun ls' g => k H locs ls' ⟨v1, v2, hS, hRel, ab_LR.of1 (v := .int (x + Int32.ofInt n)) hn h2 hi g⟩)
    · exact lv_iincW hx hb hd h1 hkk rfl (by omega) rfl (fun ls' g => k H locs ls' ⟨v1, v2, hS, hRel, ab_LR.of1 (v := .int (x + Int32.ofInt n)) hn h2 hi g⟩)
  | iadd =>
    obtain ⟨x, y, r, rfl, rfl, rfl, rfl⟩ := ab_i2_inv hs
    obtain rfl : len = 1 := eq_of_beq (show (len == 1) = true from hc)
    exact lv_iadd hx hb hd (k H locs ls ⟨v1, v2, hS, hRel, hLR⟩)
  | isub =>
    obtain ⟨x, y, r, rfl, rfl, rfl, rfl⟩ := ab_i2_inv hs
    obtain rfl : len = 1 := eq_of_beq (show (len == 1) = true from hc)
    exact lv_isub hx hb hd (k H locs ls ⟨v1, v2, hS, hRel, hLR⟩)
  | imul =>
    obtain ⟨x, y, r, rfl, rfl, rfl, rfl⟩ := ab_i2_inv hs
    obtain rfl : len = 1 := eq_of_beq (show (len == 1) = true from hc)
    exact lv_imul hx hb hd (k H locs ls ⟨v1, v2, hS, hRel, hLR⟩)
  | iand =>
    obtain ⟨x, y, r, rfl, rfl, rfl, rfl⟩ := ab_i2_inv hs
    obtain rfl : len = 1 := eq_of_beq (show (len == 1) = true from hc)
    exact lv_iand hx hb hd (k H locs ls ⟨v1, v2, hS, hRel, hLR⟩)
  | ior =>
    obtain ⟨x, y, r, rfl, rfl, rfl, rfl⟩ := ab_i2_inv hs
    obtain rfl : len = 1 := eq_of_beq (show (len == 1) = true from hc)
    exact lv_ior hx hb hd (k H locs ls ⟨v1, v2, hS, hRel, hLR⟩)
  | ixor =>
    obtain ⟨x, y, r, rfl, rfl, rfl, rfl⟩ := ab_i2_inv hs
    obtain rfl : len = 1 := eq_of_beq (show (len == 1) = true from hc)
    exact lv_ixor hx hb hd (k H locs ls ⟨v1, v2, hS, hRel, hLR⟩)
  | ishl =>
    obtain ⟨x, y, r, rfl, rfl, rfl, rfl⟩ := ab_i2_inv hs
    obtain rfl : len = 1 := eq_of_beq (show (len == 1) = true from hc)
    exact lv_ishl hx hb hd (k H locs ls ⟨v1, v2, hS, hRel, hLR⟩)
  | ishr =>
    obtain ⟨x, y, r, rfl, rfl, rfl, rfl⟩ := ab_i2_inv hs
    obtain rfl : len = 1 := eq_of_beq (show (len == 1) = true from hc)
    exact lv_ishr hx hb hd (k H locs ls ⟨v1, v2, hS, hRel, hLR⟩)
  | iushr =>
    obtain ⟨x, y, r, rfl, rfl, rfl, rfl⟩ := ab_i2_inv hs
    obtain rfl : len = 1 := eq_of_beq (show (len == 1) = true from hc)
    exact lv_iushr hx hb hd rfl (k H locs ls ⟨v1, v2, hS, hRel, hLR⟩)
  | ladd =>
    obtain ⟨x, y, r, rfl, rfl, rfl, rfl⟩ := ab_l2_inv hs
    obtain rfl : len = 1 := eq_of_beq (show (len == 1) = true from hc)
    exact lv_ladd hx hb hd (k H locs ls ⟨v1, v2, hS, hRel, hLR⟩)
  | lsub =>
    obtain ⟨x, y, r, rfl, rfl, rfl, rfl⟩ := ab_l2_inv hs
    obtain rfl : len = 1 := eq_of_beq (show (len == 1) = true from hc)
    exact lv_lsub hx hb hd (k H locs ls ⟨v1, v2, hS, hRel, hLR⟩)
  | lmul =>
    obtain ⟨x, y, r, rfl, rfl, rfl, rfl⟩ := ab_l2_inv hs
    obtain rfl : len = 1 := eq_of_beq (show (len == 1) = true from hc)
    exact lv_lmul hx hb hd (k H locs ls ⟨v1, v2, hS, hRel, hLR⟩)
  | land =>
    obtain ⟨x, y, r, rfl, rfl, rfl, rfl⟩ := ab_l2_inv hs
    obtain rfl : len = 1 := eq_of_beq (show (len == 1) = true from hc)
    exact lv_land hx hb hd (k H locs ls ⟨v1, v2, hS, hRel, hLR⟩)
  | lor =>
    obtain ⟨x, y, r, rfl, rfl, rfl, rfl⟩ := ab_l2_inv hs
    obtain rfl : len = 1 := eq_of_beq (show (len == 1) = true from hc)
    exact lv_lor hx hb hd (k H locs ls ⟨v1, v2, hS, hRel, hLR⟩)
  | lxor =>
    obtain ⟨x, y, r, rfl, rfl, rfl, rfl⟩ := ab_l2_inv hs
    obtain rfl : len = 1 := eq_of_beq (show (len == 1) = true from hc)
    exact lv_lxor hx hb hd (k H locs ls ⟨v1, v2, hS, hRel, hLR⟩)
  | lshl =>
    obtain ⟨x, y, r, rfl, rfl, rfl, rfl⟩ := ab_ls_inv hs
    obtain rfl : len = 1 := eq_of_beq (show (len == 1) = true from hc)
    exact lv_lshl hx hb hd rfl (k H locs ls ⟨v1, v2, hS, hRel, hLR⟩)
  | lshr =>
    obtain ⟨x, y, r, rfl, rfl, rfl, rfl⟩ := ab_ls_inv hs
    obtain rfl : len = 1 := eq_of_beq (show (len == 1) = true from hc)
    exact lv_lshr hx hb hd rfl (k H locs ls ⟨v1, v2, hS, hRel, hLR⟩)
  | lushr =>
    obtain ⟨x, y, r, rfl, rfl, rfl, rfl⟩ := ab_ls_inv hs
    obtain rfl : len = 1 := eq_of_beq (show (len == 1) = true from hc)
    exact lv_lushr hx hb hd rfl (k H locs ls ⟨v1, v2, hS, hRel, hLR⟩)
  | ineg =>
    obtain ⟨x, r, rfl, rfl, rfl, rfl⟩ := ab_i1_inv hs
    obtain rfl : len = 1 := eq_of_beq (show (len == 1) = true from hc)
    exact lv_ineg hx hb hd (k H locs ls ⟨v1, v2, hS, hRel, hLR⟩)
  | i2l =>
    obtain ⟨x, r, rfl, rfl, rfl, rfl⟩ := ab_i1_inv hs
    obtain rfl : len = 1 := eq_of_beq (show (len == 1) = true from hc)
    exact lv_i2l hx hb hd rfl (k H locs ls ⟨v1, v2, hS, hRel, hLR⟩)
  | i2b =>
    obtain ⟨x, r, rfl, rfl, rfl, rfl⟩ := ab_i1_inv hs
    obtain rfl : len = 1 := eq_of_beq (show (len == 1) = true from hc)
    exact lv_i2b hx hb hd rfl (k H locs ls ⟨v1, v2, hS, hRel, hLR⟩)
  | i2s =>
    obtain ⟨x, r, rfl, rfl, rfl, rfl⟩ := ab_i1_inv hs
    obtain rfl : len = 1 := eq_of_beq (show (len == 1) = true from hc)
    exact lv_i2s hx hb hd rfl (k H locs ls ⟨v1, v2, hS, hRel, hLR⟩)
  | i2c =>
    obtain ⟨x, r, rfl, rfl, rfl, rfl⟩ := ab_i1_inv hs
    obtain rfl : len = 1 := eq_of_beq (show (len == 1) = true from hc)
    exact lv_i2c hx hb hd rfl (k H locs ls ⟨v1, v2, hS, hRel, hLR⟩)
  | lneg =>
    obtain ⟨x, r, rfl, rfl, rfl, rfl⟩ := ab_l1_inv hs
    obtain rfl : len = 1 := eq_of_beq (show (len == 1) = true from hc)
    exact lv_lneg hx hb hd (k H locs ls ⟨v1, v2, hS, hRel, hLR⟩)
  | l2i =>
    obtain ⟨x, r, rfl, rfl, rfl, rfl⟩ := ab_l1_inv hs
    obtain rfl : len = 1 := eq_of_beq (show (len == 1) = true from hc)
    exact lv_l2i hx hb hd rfl (k H locs ls ⟨v1, v2, hS, hRel, hLR⟩)
  | lcmp =>
    obtain ⟨x, y, r, rfl, rfl, rfl, rfl⟩ := ab_lc_inv hs
    obtain rfl : len = 1 := eq_of_beq (show (len == 1) = true from hc)
    exact W.lcmp hx hb hd (k H locs ls ⟨v1, v2, hS, hRel, hLR⟩)
  | dup =>
    obtain rfl : len = 1 := eq_of_beq (show (len == 1) = true from hc)
    have hs2 : ab_dup lo st h = some (lo', st', h') := hs
    clear hs
    unfold ab_dup at hs2
    split at hs2
    · cases hs2
      exact lv_dup hx hb hd rfl (k H locs ls ⟨v1, v2, hS, hRel, hLR⟩)
    · cases hs2
      exact lv_dup hx hb hd rfl (k H locs ls ⟨v1, v2, hS, hRel, hLR⟩)
    · cases hs2
  | dup2 =>
    obtain rfl : len = 1 := eq_of_beq (show (len == 1) = true from hc)
    have hs2 : ab_dup2 lo st h = some (lo', st', h') := hs
    clear hs
    unfold ab_dup2 at hs2
    split at hs2
    · cases hs2
      exact lv_dup2_11 hx hb hd rfl rfl (k H locs ls ⟨v1, v2, hS, hRel, hLR⟩)
    · cases hs2
      exact lv_dup2_11 hx hb hd rfl rfl (k H locs ls ⟨v1, v2, hS, hRel, hLR⟩)
    · cases hs2
  | dup_x1 =>
    obtain rfl : len = 1 := eq_of_beq (show (len == 1) = true from hc)
    have hs2 : ab_dupx1 lo st h = some (lo', st', h') := hs
    clear hs
    unfold ab_dupx1 at hs2
    split at hs2
    · cases hs2
      exact lv_dup_x1 hx hb hd rfl rfl (k H locs ls ⟨v1, v2, hS, hRel, hLR⟩)
    · cases hs2
      exact lv_dup_x1 hx hb hd rfl rfl (k H locs ls ⟨v1, v2, hS, hRel, hLR⟩)
    · cases hs2
  | dup_x2 =>
    obtain rfl : len = 1 := eq_of_beq (show (len == 1) = true from hc)
    have hs2 : ab_dupx2 lo st h = some (lo', st', h') := hs
    clear hs
    unfold ab_dupx2 at hs2
    split at hs2
    · cases hs2
      exact lv_dup_x2 hx hb hd rfl rfl rfl (k H locs ls ⟨v1, v2, hS, hRel, hLR⟩)
    · cases hs2
  | pop =>
    obtain rfl : len = 1 := eq_of_beq (show (len == 1) = true from hc)
    have hs2 : ab_pop lo st h = some (lo', st', h') := hs
    clear hs
    unfold ab_pop at hs2
    split at hs2
    · cases hs2
      exact lv_pop hx hb hd rfl (k H locs ls ⟨v1, v2, hS, hRel, hLR⟩)
    · cases hs2
      exact lv_pop hx hb hd rfl (k H locs ls ⟨v1, v2, hS, hRel, hLR⟩)
    · cases hs2
  | getfield i =>
    obtain ⟨a, r, fs, v, rfl, ha, hc0, hv, rfl, rfl, rfl⟩ := ab_gf_inv (ci := ci) (k := kf) hs
    have hc : (len == 3 && ab_fl M.1.cls i ci kf) = true := hc
    simp only [Bool.and_eq_true, beq_iff_eq] at hc
    obtain ⟨rfl, hc⟩ := hc
    obtain ⟨C, T, N, hcl, hkN, hl⟩ := ab_fl_inv hc
    have hkk := k H locs ls ⟨v1, v2, hS, hRel, hLR⟩
    show W _ _ _ _ _ _ _ _ _ _ _ _ _ _ _ (F0 m pc ls (ab_v X (.ref a) :: r.map (ab_v X)))
    rw [ab_ad_own ha]
    have hv' : (fs.map (ab_v X))[kf]? = some (ab_v X v) := by rw [List.getElem?_map, hv]; rfl
    exact va_get hx hb hts (ab_cls hcl).1 hown hok.1 hRel.2 (a - ab_NT) (ab_ws_at hc0) hcl kf hkN (hts _ (ab_in hl rfl)) (fun _ h9 => h9) hv' hd hkk
  | putfield i =>
    obtain ⟨a, fs, v, rfl, ha, hc0, hkl, hfit, rfl, rfl⟩ := ab_pu_inv (ci := ci) (k := kf) hs
    have hc : (len == 3 && ab_pf M.1 i ci kf) = true := hc
    simp only [Bool.and_eq_true, beq_iff_eq] at hc
    obtain ⟨rfl, hc⟩ := hc
    show W _ _ _ _ _ _ _ _ _ _ _ _ _ _ _ (F0 m pc ls (ab_v X v :: ab_v X (.ref a) :: st'.map (ab_v X)))
    rw [ab_ad_own ha]
    exact ab_putf hx hb hts hown hnm hok.1 hRel hS hc0 hc hkl (fun ty e => by subst e; exact ab_fit_ok hfit) hd (fun H1 locs1 hR1 hS1 => k H1 locs1 ls ⟨v1, v2, hS1, hR1, hLR⟩)
  | getstatic i =>
    have hs : (if kf < ab_NT then some (lo, .ref kf :: st, h) else none) = some (lo', st', h') := hs
    split at hs
    · rename_i hkf
      cases hs
      have hc : (len == 3 && ab_sts.any (fun q => q.2.2.2 == kf && decide (Cond.fieldLink M.1.cls i q.1 q.2.1 q.2.2.1 ∈ lw_tbl))) = true := hc
      simp only [Bool.and_eq_true, beq_iff_eq, List.any_eq_true, Bool.or_eq_true, decide_eq_true_eq] at hc
      obtain ⟨rfl, q, hq, hqk, hl⟩ := hc
      have hkk := k H locs ls ⟨v1, v2, hS, hRel, hLR⟩
      have hZ := hok.2.2.1 q hq
      rw [hqk] at hZ
      have hv : ab_v X (.ref kf) = .ref (X.2.2.2.2.1 kf) := by
        show Value.ref (ab_ad X kf) = _
        unfold ab_ad
        rw [if_pos hkf]
      have hkk : W p X.1 e R s m args below meth c H locs cells slots (MQ below (ab_Q X Q) args s R.cells R.slots (ab_A X)) (F0 m (pc + 3) ls (ab_v X (.ref kf) :: st.map (ab_v X))) := hkk
      rw [hv] at hkk
      exact va_gets hx hb hZ hS hown (hts _ (ab_in hl rfl)) (fun _ h9 => h9) hd hkk
    · cases hs
  | iaload =>
    have hs : (if ci = 1 then ab_ial lo st h else none) = some (lo', st', h') := hs
    split at hs
    · obtain ⟨i, a, r, n, f, rfl, hc0, hin, rfl, rfl, rfl⟩ := ab_ial_inv hs
      obtain rfl : len = 1 := eq_of_beq (show (len == 1) = true from hc)
      obtain ⟨ha, hc1⟩ := ab_at_own hc0
      show W _ _ _ _ _ _ _ _ _ _ _ _ _ _ _ (F0 m pc ls (.int i :: ab_v X (.ref a) :: r.map (ab_v X)))
      rw [ab_ad_own ha]
      exact va_iald hx hb hok.1 hRel.2 (a - ab_NT) 0 (ab_ws_at hc1) rfl hin hd (k H locs ls ⟨v1, v2, hS, hRel, hLR⟩)
    · cases hs
  | iastore =>
    have hs : (if ci = 1 then ab_ias lo st h else none) = some (lo', st', h') := hs
    split at hs
    · obtain ⟨i, x, a, n, f, rfl, hc0, hin, rfl, rfl⟩ := ab_ias_inv hs
      obtain rfl : len = 1 := eq_of_beq (show (len == 1) = true from hc)
      obtain ⟨ha, hc1⟩ := ab_at_own hc0
      show W _ _ _ _ _ _ _ _ _ _ _ _ _ _ _ (F0 m pc ls (.int x :: .int i :: ab_v X (.ref a) :: st'.map (ab_v X)))
      rw [ab_ad_own ha]
      exact ab_Wiast hx hb hok.1 hRel hS hc1 hin hd (fun H1 locs1 hR1 hS1 => k H1 locs1 ls ⟨v1, v2, hS1, hR1, hLR⟩)
    · cases hs
  | aaload =>
    have hs : (if ci = 1 then ab_aal lo st h else none) = some (lo', st', h') := hs
    split at hs
    · obtain ⟨i, a, r, n, f, q, rfl, hc0, hin, hq, rfl, rfl, rfl⟩ := ab_aal_inv hs
      obtain rfl : len = 1 := eq_of_beq (show (len == 1) = true from hc)
      obtain ⟨ha, hc1⟩ := ab_at_own hc0
      show W _ _ _ _ _ _ _ _ _ _ _ _ _ _ _ (F0 m pc ls (.int i :: ab_v X (.ref a) :: r.map (ab_v X)))
      rw [ab_ad_own ha]
      exact ab_Waald hx hb hok.1 hRel hc1 hin hq hd (k H locs ls ⟨v1, v2, hS, hRel, hLR⟩)
    · cases hs
  | idiv =>
    have hs : (if ci = 1 then ab_div lo st h else none) = some (lo', st', h') := hs
    split at hs
    · obtain ⟨x, y, r, rfl, hy, rfl, rfl, rfl⟩ := ab_div_inv hs
      obtain rfl : len = 1 := eq_of_beq (show (len == 1) = true from hc)
      exact lv_idiv hx hb hd hy (k H locs ls ⟨v1, v2, hS, hRel, hLR⟩)
    · cases hs
  | irem =>
    have hs : (if ci = 1 then ab_rem lo st h else none) = some (lo', st', h') := hs
    split at hs
    · obtain ⟨x, y, r, rfl, hy, rfl, rfl, rfl⟩ := ab_rem_inv hs
      obtain rfl : len = 1 := eq_of_beq (show (len == 1) = true from hc)
      exact lv_irem hx hb hd hy (k H locs ls ⟨v1, v2, hS, hRel, hLR⟩)
    · cases hs
  | _ => exact absurd (show none = some (lo', st', h') from hs) (fun q => by cases q)
end
section
/-! Runs of plain instructions, branches, arrays, ends, calls -/
abbrev ab_Cd : Type := List (Nat × ab_J)
def ab_fetch (code : ab_Cd) (pc : Nat) : Option ab_J := match code with
  | [] => none
  | q :: r => if q.1 = pc then some q.2 else ab_fetch r pc
def ab_ckp (y : MethodName) (pc : Nat) (j : ab_J) : Bool := match j.1 with
  | .goto off => j.2.1 == 3 && decide ((pc : Int) + off = (j.2.2.2.2 : Int))
  | .ifCond _ off => j.2.1 == 3 && decide ((pc : Int) + off = (j.2.2.2.2 : Int))
  | .if_icmp _ off => j.2.1 == 3 && decide ((pc : Int) + off = (j.2.2.2.2 : Int))
  | .invokestatic _ => j.2.1 == 3
  | .invokevirtual _ => j.2.1 == 3
  | .invokespecial _ => j.2.1 == 3
  | .new _ => j.2.1 == 3
  | .newarray _ => j.2.1 == 2
  | .multianewarray _ _ => j.2.1 == 4
  | .tableswitch _ _ _ _ => true
  | .lookupswitch _ _ => true
  | _ => ab_ck1 y j
def ab_ckM (M : ab_Mt) (code : ab_Cd) : Bool := code.all (fun q => decide (decode M.2.1 q.1 = .ok (q.2.1, q.2.2.1)) && ab_ckp M.1 q.1 q.2)
theorem ab_fetch_mem {code : ab_Cd} {pc : Nat} {j : ab_J} (h : ab_fetch code pc = some j) : (pc, j) ∈ code := by
  induction code with
  | nil => cases h
  | cons q r ih =>
    unfold ab_fetch at h
    split at h
    · rename_i hq
      cases h
      subst hq
      exact List.mem_cons_self
    · exact List.mem_cons_of_mem _ (ih h)
theorem ab_ck_at {M : ab_Mt} {code : ab_Cd} {pc : Nat} {j : ab_J} (hck : ab_ckM M code = true) (h : ab_fetch code pc = some j) : decode M.2.1 pc = .ok (j.1, j.2.1) ∧ ab_ckp M.1 pc j = true := by
  have h1 := List.all_eq_true.mp hck _ (ab_fetch_mem h)
  simp only [Bool.and_eq_true, decide_eq_true_eq] at h1
  exact h1
/-- a plain instruction or a jump -/
def ab_next (pc : Nat) (j : ab_J) (lo : ab_Lo) (st : List Value) (h : ab_H) : Option (Nat × ab_Lo × List Value × ab_H) := match j.1 with
  | .goto _ => some (j.2.2.2.2, lo, st, h)
  | _ => match ab_step j lo st h with
    | some r => some (pc + j.2.1, r)
    | none => none
def ab_run (n : Nat) (stops : List Nat) (code : ab_Cd) (pc : Nat) (lo : ab_Lo) (st : List Value) (h : ab_H) : Option (Nat × ab_Lo × List Value × ab_H) := match n with
  | 0 => some (pc, lo, st, h)
  | n + 1 => match ab_fetch code pc with
    | some j => match ab_next pc j lo st h with
      | some (pc', lo', st', h') => if stops.contains pc' = true then some (pc', lo', st', h') else ab_run n stops code pc' lo' st' h'
      | none => some (pc, lo, st, h)
    | none => none
section ABR
variable {X : ab_C} {M : ab_Mt} {code : ab_Cd} {d bc bs pc : Nat} {lo : ab_Lo} {st : List Value} {h : ab_H} {Q : Option Value → ab_H → Prop}
theorem ab_ck1_of {y : MethodName} {pc : Nat} {j : ab_J} {lo lo' : ab_Lo} {st st' : List Value} {h h' : ab_H} (hs : ab_step j lo st h = some (lo', st', h')) (hc : ab_ckp y pc j = true) : ab_ck1 y j = true := by
  obtain ⟨ins, len, cv, ci, kf⟩ := j
  cases ins with
  | goto off => exact absurd (show none = some (lo', st', h') from hs) (fun q => by cases q)
  | ifCond c off => exact absurd (show none = some (lo', st', h') from hs) (fun q => by cases q)
  | if_icmp c off => exact absurd (show none = some (lo', st', h') from hs) (fun q => by cases q)
  | invokestatic i => exact absurd (show none = some (lo', st', h') from hs) (fun q => by cases q)
  | invokevirtual i => exact absurd (show none = some (lo', st', h') from hs) (fun q => by cases q)
  | invokespecial i => exact absurd (show none = some (lo', st', h') from hs) (fun q => by cases q)
  | new i => exact absurd (show none = some (lo', st', h') from hs) (fun q => by cases q)
  | newarray i => exact absurd (show none = some (lo', st', h') from hs) (fun q => by cases q)
  | multianewarray i n => exact absurd (show none = some (lo', st', h') from hs) (fun q => by cases q)
  | tableswitch a b c2 d2 => exact absurd (show none = some (lo', st', h') from hs) (fun q => by cases q)
  | lookupswitch a b => exact absurd (show none = some (lo', st', h') from hs) (fun q => by cases q)
  | _ => exact hc
theorem ab_goto {off : Int} (hd : decode M.2.1 pc = .ok (.goto off, 3)) {tgt : Nat} (ht : (pc : Int) + off = (tgt : Int)) (k : ab_W X M d bc bs tgt lo st h Q) : ab_W X M d bc bs pc lo st h Q := by
  intro p e R s m args below meth c H locs cells slots ls F V
  exact lv_goto F.1 F.2.1 hd ht (k p e R s m args below meth c H locs cells slots ls F V)
theorem ab_next_ok {pc' : Nat} {j : ab_J} {lo' : ab_Lo} {st' : List Value} {h' : ab_H} (hd : decode M.2.1 pc = .ok (j.1, j.2.1)) (hc : ab_ckp M.1 pc j = true) (hs : ab_next pc j lo st h = some (pc', lo', st', h')) (k : ab_W X M d bc bs pc' lo' st' h' Q) : ab_W X M d bc bs pc lo st h Q := by
  unfold ab_next at hs
  split at hs
  · rename_i off hj
    cases hs
    obtain ⟨ins, len, cv, ci, kf⟩ := j
    dsimp only at hj
    subst hj
    have hc : (len == 3 && decide ((pc : Int) + off = (kf : Int))) = true := hc
    simp only [Bool.and_eq_true, beq_iff_eq, decide_eq_true_eq] at hc
    obtain ⟨rfl, ht⟩ := hc
    exact ab_goto hd ht k
  · split at hs
    · rename_i r hr
      obtain ⟨l2, s2, h2⟩ := r
      cases hs
      exact ab_step_ok hd (ab_ck1_of hr hc) hr k
    · cases hs
/-- plain instructions, up to n, up to the first that isn't plain, or to a stop: they are computed -/
theorem ab_go (n : Nat) (stops : List Nat) {pc' : Nat} {lo' : ab_Lo} {st' : List Value} {h' : ab_H} (hck : ab_ckM M code = true) (hs : ab_run n stops code pc lo st h = some (pc', lo', st', h')) (k : ab_W X M d bc bs pc' lo' st' h' Q) : ab_W X M d bc bs pc lo st h Q := by
  induction n generalizing pc lo st h with
  | zero =>
    unfold ab_run at hs
    cases hs
    exact k
  | succ n ih =>
    unfold ab_run at hs
    split at hs
    · rename_i j hj
      split at hs
      · rename_i pc2 lo2 st2 h2 hn
        obtain ⟨hd, hc⟩ := ab_ck_at hck hj
        refine ab_next_ok hd hc hn ?_
        split at hs
        · cases hs
          exact k
        · exact ih hs
      · cases hs
        exact k
    · cases hs
theorem ab_if_eq {x : Int32} {off : Int} {len ci tgt : Nat} {cv : Value} (hck : ab_ckM M code = true) (hf : ab_fetch code pc = some (.ifCond .eq off, len, cv, ci, tgt)) (kt : x = 0 → ab_W X M d bc bs tgt lo st h Q) (kf : ¬ x = 0 → ab_W X M d bc bs (pc + 3) lo st h Q) : ab_W X M d bc bs pc lo (.int x :: st) h Q := by
  obtain ⟨hd, hc⟩ := ab_ck_at hck hf
  have hc : (len == 3 && decide ((pc : Int) + off = (tgt : Int))) = true := hc
  simp only [Bool.and_eq_true, beq_iff_eq, decide_eq_true_eq] at hc
  obtain ⟨rfl, ht⟩ := hc
  intro p e R s m args below meth c H locs cells slots ls F V
  exact lv_if_eq F.1 F.2.1 hd ht (fun g => kt g p e R s m args below meth c H locs cells slots ls F V) (fun g => kf g p e R s m args below meth c H locs cells slots ls F V)
theorem ab_icmp_eq {x y : Int32} {off : Int} {len ci tgt : Nat} {cv : Value} (hck : ab_ckM M code = true) (hf : ab_fetch code pc = some (.if_icmp .eq off, len, cv, ci, tgt)) (kt : x = y → ab_W X M d bc bs tgt lo st h Q) (kf : ¬ x = y → ab_W X M d bc bs (pc + 3) lo st h Q) : ab_W X M d bc bs pc lo (.int y :: .int x :: st) h Q := by
  obtain ⟨hd, hc⟩ := ab_ck_at hck hf
  have hc : (len == 3 && decide ((pc : Int) + off = (tgt : Int))) = true := hc
  simp only [Bool.and_eq_true, beq_iff_eq, decide_eq_true_eq] at hc
  obtain ⟨rfl, ht⟩ := hc
  intro p e R s m args below meth c H locs cells slots ls F V
  exact lv_icmp_eq F.1 F.2.1 hd ht (fun g => kt g p e R s m args below meth c H locs cells slots ls F V) (fun g => kf g p e R s m args below meth c H locs cells slots ls F V)
theorem ab_if_ne {x : Int32} {off : Int} {len ci tgt : Nat} {cv : Value} (hck : ab_ckM M code = true) (hf : ab_fetch code pc = some (.ifCond .ne off, len, cv, ci, tgt)) (kt : ¬ x = 0 → ab_W X M d bc bs tgt lo st h Q) (kf : x = 0 → ab_W X M d bc bs (pc + 3) lo st h Q) : ab_W X M d bc bs pc lo (.int x :: st) h Q := by
  obtain ⟨hd, hc⟩ := ab_ck_at hck hf
  have hc : (len == 3 && decide ((pc : Int) + off = (tgt : Int))) = true := hc
  simp only [Bool.and_eq_true, beq_iff_eq, decide_eq_true_eq] at hc
  obtain ⟨rfl, ht⟩ := hc
  intro p e R s m args below meth c H locs cells slots ls F V
  exact lv_if_ne F.1 F.2.1 hd ht (fun g => kt g p e R s m args below meth c H locs cells slots ls F V) (fun g => kf g p e R s m args below meth c H locs cells slots ls F V)
theorem ab_icmp_ne {x y : Int32} {off : Int} {len ci tgt : Nat} {cv : Value} (hck : ab_ckM M code = true) (hf : ab_fetch code pc = some (.if_icmp .ne off, len, cv, ci, tgt)) (kt : ¬ x = y → ab_W X M d bc bs tgt lo st h Q) (kf : x = y → ab_W X M d bc bs (pc + 3) lo st h Q) : ab_W X M d bc bs pc lo (.int y :: .int x :: st) h Q := by
  obtain ⟨hd, hc⟩ := ab_ck_at hck hf
  have hc : (len == 3 && decide ((pc : Int) + off = (tgt : Int))) = true := hc
  simp only [Bool.and_eq_true, beq_iff_eq, decide_eq_true_eq] at hc
  obtain ⟨rfl, ht⟩ := hc
  intro p e R s m args below meth c H locs cells slots ls F V
  exact lv_icmp_ne F.1 F.2.1 hd ht (fun g => kt g p e R s m args below meth c H locs cells slots ls F V) (fun g => kf g p e R s m args below meth c H locs cells slots ls F V)
theorem ab_if_lt {x : Int32} {off : Int} {len ci tgt : Nat} {cv : Value} (hck : ab_ckM M code = true) (hf : ab_fetch code pc = some (.ifCond .lt off, len, cv, ci, tgt)) (kt : x < 0 → ab_W X M d bc bs tgt lo st h Q) (kf : ¬ x < 0 → ab_W X M d bc bs (pc + 3) lo st h Q) : ab_W X M d bc bs pc lo (.int x :: st) h Q := by
  obtain ⟨hd, hc⟩ := ab_ck_at hck hf
  have hc : (len == 3 && decide ((pc : Int) + off = (tgt : Int))) = true := hc
  simp only [Bool.and_eq_true, beq_iff_eq, decide_eq_true_eq] at hc
  obtain ⟨rfl, ht⟩ := hc
  intro p e R s m args below meth c H locs cells slots ls F V
  exact lv_if_lt F.1 F.2.1 hd ht (fun g => kt g p e R s m args below meth c H locs cells slots ls F V) (fun g => kf g p e R s m args below meth c H locs cells slots ls F V)
theorem ab_icmp_lt {x y : Int32} {off : Int} {len ci tgt : Nat} {cv : Value} (hck : ab_ckM M code = true) (hf : ab_fetch code pc = some (.if_icmp .lt off, len, cv, ci, tgt)) (kt : x < y → ab_W X M d bc bs tgt lo st h Q) (kf : ¬ x < y → ab_W X M d bc bs (pc + 3) lo st h Q) : ab_W X M d bc bs pc lo (.int y :: .int x :: st) h Q := by
  obtain ⟨hd, hc⟩ := ab_ck_at hck hf
  have hc : (len == 3 && decide ((pc : Int) + off = (tgt : Int))) = true := hc
  simp only [Bool.and_eq_true, beq_iff_eq, decide_eq_true_eq] at hc
  obtain ⟨rfl, ht⟩ := hc
  intro p e R s m args below meth c H locs cells slots ls F V
  exact lv_icmp_lt F.1 F.2.1 hd ht (fun g => kt g p e R s m args below meth c H locs cells slots ls F V) (fun g => kf g p e R s m args below meth c H locs cells slots ls F V)
theorem ab_if_ge {x : Int32} {off : Int} {len ci tgt : Nat} {cv : Value} (hck : ab_ckM M code = true) (hf : ab_fetch code pc = some (.ifCond .ge off, len, cv, ci, tgt)) (kt : 0 ≤ x → ab_W X M d bc bs tgt lo st h Q) (kf : ¬ 0 ≤ x → ab_W X M d bc bs (pc + 3) lo st h Q) : ab_W X M d bc bs pc lo (.int x :: st) h Q := by
  obtain ⟨hd, hc⟩ := ab_ck_at hck hf
  have hc : (len == 3 && decide ((pc : Int) + off = (tgt : Int))) = true := hc
  simp only [Bool.and_eq_true, beq_iff_eq, decide_eq_true_eq] at hc
  obtain ⟨rfl, ht⟩ := hc
  intro p e R s m args below meth c H locs cells slots ls F V
  exact lv_if_ge F.1 F.2.1 hd ht (fun g => kt g p e R s m args below meth c H locs cells slots ls F V) (fun g => kf g p e R s m args below meth c H locs cells slots ls F V)
theorem ab_icmp_ge {x y : Int32} {off : Int} {len ci tgt : Nat} {cv : Value} (hck : ab_ckM M code = true) (hf : ab_fetch code pc = some (.if_icmp .ge off, len, cv, ci, tgt)) (kt : y ≤ x → ab_W X M d bc bs tgt lo st h Q) (kf : ¬ y ≤ x → ab_W X M d bc bs (pc + 3) lo st h Q) : ab_W X M d bc bs pc lo (.int y :: .int x :: st) h Q := by
  obtain ⟨hd, hc⟩ := ab_ck_at hck hf
  have hc : (len == 3 && decide ((pc : Int) + off = (tgt : Int))) = true := hc
  simp only [Bool.and_eq_true, beq_iff_eq, decide_eq_true_eq] at hc
  obtain ⟨rfl, ht⟩ := hc
  intro p e R s m args below meth c H locs cells slots ls F V
  exact lv_icmp_ge F.1 F.2.1 hd ht (fun g => kt g p e R s m args below meth c H locs cells slots ls F V) (fun g => kf g p e R s m args below meth c H locs cells slots ls F V)
theorem ab_if_gt {x : Int32} {off : Int} {len ci tgt : Nat} {cv : Value} (hck : ab_ckM M code = true) (hf : ab_fetch code pc = some (.ifCond .gt off, len, cv, ci, tgt)) (kt : 0 < x → ab_W X M d bc bs tgt lo st h Q) (kf : ¬ 0 < x → ab_W X M d bc bs (pc + 3) lo st h Q) : ab_W X M d bc bs pc lo (.int x :: st) h Q := by
  obtain ⟨hd, hc⟩ := ab_ck_at hck hf
  have hc : (len == 3 && decide ((pc : Int) + off = (tgt : Int))) = true := hc
  simp only [Bool.and_eq_true, beq_iff_eq, decide_eq_true_eq] at hc
  obtain ⟨rfl, ht⟩ := hc
  intro p e R s m args below meth c H locs cells slots ls F V
  exact lv_if_gt F.1 F.2.1 hd ht (fun g => kt g p e R s m args below meth c H locs cells slots ls F V) (fun g => kf g p e R s m args below meth c H locs cells slots ls F V)
theorem ab_icmp_gt {x y : Int32} {off : Int} {len ci tgt : Nat} {cv : Value} (hck : ab_ckM M code = true) (hf : ab_fetch code pc = some (.if_icmp .gt off, len, cv, ci, tgt)) (kt : y < x → ab_W X M d bc bs tgt lo st h Q) (kf : ¬ y < x → ab_W X M d bc bs (pc + 3) lo st h Q) : ab_W X M d bc bs pc lo (.int y :: .int x :: st) h Q := by
  obtain ⟨hd, hc⟩ := ab_ck_at hck hf
  have hc : (len == 3 && decide ((pc : Int) + off = (tgt : Int))) = true := hc
  simp only [Bool.and_eq_true, beq_iff_eq, decide_eq_true_eq] at hc
  obtain ⟨rfl, ht⟩ := hc
  intro p e R s m args below meth c H locs cells slots ls F V
  exact lv_icmp_gt F.1 F.2.1 hd ht (fun g => kt g p e R s m args below meth c H locs cells slots ls F V) (fun g => kf g p e R s m args below meth c H locs cells slots ls F V)
theorem ab_if_le {x : Int32} {off : Int} {len ci tgt : Nat} {cv : Value} (hck : ab_ckM M code = true) (hf : ab_fetch code pc = some (.ifCond .le off, len, cv, ci, tgt)) (kt : x ≤ 0 → ab_W X M d bc bs tgt lo st h Q) (kf : ¬ x ≤ 0 → ab_W X M d bc bs (pc + 3) lo st h Q) : ab_W X M d bc bs pc lo (.int x :: st) h Q := by
  obtain ⟨hd, hc⟩ := ab_ck_at hck hf
  have hc : (len == 3 && decide ((pc : Int) + off = (tgt : Int))) = true := hc
  simp only [Bool.and_eq_true, beq_iff_eq, decide_eq_true_eq] at hc
  obtain ⟨rfl, ht⟩ := hc
  intro p e R s m args below meth c H locs cells slots ls F V
  exact lv_if_le F.1 F.2.1 hd ht (fun g => kt g p e R s m args below meth c H locs cells slots ls F V) (fun g => kf g p e R s m args below meth c H locs cells slots ls F V)
theorem ab_icmp_le {x y : Int32} {off : Int} {len ci tgt : Nat} {cv : Value} (hck : ab_ckM M code = true) (hf : ab_fetch code pc = some (.if_icmp .le off, len, cv, ci, tgt)) (kt : x ≤ y → ab_W X M d bc bs tgt lo st h Q) (kf : ¬ x ≤ y → ab_W X M d bc bs (pc + 3) lo st h Q) : ab_W X M d bc bs pc lo (.int y :: .int x :: st) h Q := by
  obtain ⟨hd, hc⟩ := ab_ck_at hck hf
  have hc : (len == 3 && decide ((pc : Int) + off = (tgt : Int))) = true := hc
  simp only [Bool.and_eq_true, beq_iff_eq, decide_eq_true_eq] at hc
  obtain ⟨rfl, ht⟩ := hc
  intro p e R s m args below meth c H locs cells slots ls F V
  exact lv_icmp_le F.1 F.2.1 hd ht (fun g => kt g p e R s m args below meth c H locs cells slots ls F V) (fun g => kf g p e R s m args below meth c H locs cells slots ls F V)
theorem ab_iald {a n : Nat} {f : Nat → Int32} {i : Int32} {len ci kf : Nat} {cv : Value} (hck : ab_ckM M code = true) (hf : ab_fetch code pc = some (.iaload, len, cv, ci, kf)) (hc0 : ab_at h a = some (.inl (0, n, .inl f))) (hin : vp_in i n) (k : ab_W X M d bc bs (pc + 1) lo (.int (f i.toNatClampNeg) :: st) h Q) : ab_W X M d bc bs pc lo (.int i :: .ref a :: st) h Q := by
  obtain ⟨hd, hc⟩ := ab_ck_at hck hf
  obtain rfl : len = 1 := eq_of_beq (show (len == 1) = true from hc)
  obtain ⟨ha, hc1⟩ := ab_at_own hc0
  intro p e R s m args below meth c H locs cells slots ls F V
  have hkk := k p e R s m args below meth c H locs cells slots ls F V
  obtain ⟨hx, hb, hr, hml, hown, hts, hlk, hnm, hok, hfr, hlo⟩ := F
  obtain ⟨v1, v2, hS, hRel, hLR⟩ := V
  show W _ _ _ _ _ _ _ _ _ _ _ _ _ _ _ (F0 m pc ls (.int i :: ab_v X (.ref a) :: st.map (ab_v X)))
  rw [ab_ad_own ha]
  exact va_iald hx hb hok.1 hRel.2 (a - ab_NT) 0 (ab_ws_at hc1) rfl hin hd hkk
theorem ab_lald {a n : Nat} {f : Nat → Int64} {i : Int32} {len ci kf : Nat} {cv : Value} (hck : ab_ckM M code = true) (hf : ab_fetch code pc = some (.laload, len, cv, ci, kf)) (hc0 : ab_at h a = some (.inl (1, n, .inr (.inl f)))) (hin : vp_in i n) (k : ab_W X M d bc bs (pc + 1) lo (.long (f i.toNatClampNeg) :: st) h Q) : ab_W X M d bc bs pc lo (.int i :: .ref a :: st) h Q := by
  obtain ⟨hd, hc⟩ := ab_ck_at hck hf
  obtain rfl : len = 1 := eq_of_beq (show (len == 1) = true from hc)
  obtain ⟨ha, hc1⟩ := ab_at_own hc0
  intro p e R s m args below meth c H locs cells slots ls F V
  have hkk := k p e R s m args below meth c H locs cells slots ls F V
  obtain ⟨hx, hb, hr, hml, hown, hts, hlk, hnm, hok, hfr, hlo⟩ := F
  obtain ⟨v1, v2, hS, hRel, hLR⟩ := V
  show W _ _ _ _ _ _ _ _ _ _ _ _ _ _ _ (F0 m pc ls (.int i :: ab_v X (.ref a) :: st.map (ab_v X)))
  rw [ab_ad_own ha]
  exact va_lald hx hb hok.1 hRel.2 (a - ab_NT) 1 (ab_ws_at hc1) rfl hin hd hkk
/-- a place of a table that was there before -/
theorem ab_tald {a n : Nat} {f : Nat → Int32} {i : Int32} {len ci kf : Nat} {cv : Value} (hck : ab_ckM M code = true) (hf : ab_fetch code pc = some (.iaload, len, cv, ci, kf)) (ha : a < ab_NT) (hc0 : X.2.2.2.2.2[a]? = some (n, f)) (hin : vp_in i n) (k : ab_W X M d bc bs (pc + 1) lo (.int (f i.toNatClampNeg) :: st) h Q) : ab_W X M d bc bs pc lo (.int i :: .ref a :: st) h Q := by
  obtain ⟨hd, hc⟩ := ab_ck_at hck hf
  obtain rfl : len = 1 := eq_of_beq (show (len == 1) = true from hc)
  intro p e R s m args below meth c H locs cells slots ls F V
  have hkk := k p e R s m args below meth c H locs cells slots ls F V
  obtain ⟨hx, hb, hr, hml, hown, hts, hlk, hnm, hok, hfr, hlo⟩ := F
  obtain ⟨v1, v2, hS, hRel, hLR⟩ := V
  show W _ _ _ _ _ _ _ _ _ _ _ _ _ _ _ (F0 m pc ls (.int i :: ab_v X (.ref a) :: st.map (ab_v X)))
  rw [ab_ad_tab ha]
  exact va_ti hx hb (hok.2.1 a n f hc0) hS hin rfl hd hkk
theorem ab_iast {a n : Nat} {f : Nat → Int32} {i x : Int32} {len ci kf : Nat} {cv : Value} (hck : ab_ckM M code = true) (hf : ab_fetch code pc = some (.iastore, len, cv, ci, kf)) (hc0 : ab_at h a = some (.inl (0, n, .inl f))) (hin : vp_in i n) (k : ab_W X M d bc bs (pc + 1) lo st (h.set (a - ab_NT) (.inl (0, n, .inl (upd f i.toNatClampNeg x)))) Q) : ab_W X M d bc bs pc lo (.int x :: .int i :: .ref a :: st) h Q := by
  obtain ⟨hd, hc⟩ := ab_ck_at hck hf
  obtain rfl : len = 1 := eq_of_beq (show (len == 1) = true from hc)
  obtain ⟨ha, hc1⟩ := ab_at_own hc0
  intro p e R s m args below meth c H locs cells slots ls F V
  have hkk := fun H locs V => k p e R s m args below meth c H locs cells slots ls F V
  obtain ⟨hx, hb, hr, hml, hown, hts, hlk, hnm, hok, hfr, hlo⟩ := F
  obtain ⟨v1, v2, hS, hRel, hLR⟩ := V
  show W _ _ _ _ _ _ _ _ _ _ _ _ _ _ _ (F0 m pc ls (.int x :: .int i :: ab_v X (.ref a) :: st.map (ab_v X)))
  rw [ab_ad_own ha]
  exact ab_Wiast hx hb hok.1 hRel hS hc1 hin hd (fun H1 locs1 hR1 hS1 => hkk H1 locs1 ⟨v1, v2, hS1, hR1, hLR⟩)
theorem ab_last {a n : Nat} {f : Nat → Int64} {i : Int32} {x : Int64} {len ci kf : Nat} {cv : Value} (hck : ab_ckM M code = true) (hf : ab_fetch code pc = some (.lastore, len, cv, ci, kf)) (hc0 : ab_at h a = some (.inl (1, n, .inr (.inl f)))) (hin : vp_in i n) (k : ab_W X M d bc bs (pc + 1) lo st (h.set (a - ab_NT) (.inl (1, n, .inr (.inl (vp_updL f i.toNatClampNeg x))))) Q) : ab_W X M d bc bs pc lo (.long x :: .int i :: .ref a :: st) h Q := by
  obtain ⟨hd, hc⟩ := ab_ck_at hck hf
  obtain rfl : len = 1 := eq_of_beq (show (len == 1) = true from hc)
  obtain ⟨ha, hc1⟩ := ab_at_own hc0
  intro p e R s m args below meth c H locs cells slots ls F V
  have hkk := fun H locs V => k p e R s m args below meth c H locs cells slots ls F V
  obtain ⟨hx, hb, hr, hml, hown, hts, hlk, hnm, hok, hfr, hlo⟩ := F
  obtain ⟨v1, v2, hS, hRel, hLR⟩ := V
  show W _ _ _ _ _ _ _ _ _ _ _ _ _ _ _ (F0 m pc ls (.long x :: .int i :: ab_v X (.ref a) :: st.map (ab_v X)))
  rw [ab_ad_own ha]
  exact ab_Wlast hx hb hok.1 hRel hS hc1 hin hd (fun H1 locs1 hR1 hS1 => hkk H1 locs1 ⟨v1, v2, hS1, hR1, hLR⟩)
theorem ab_aald {a n : Nat} {f : Nat → Option Nat} {i : Int32} {q len ci kf : Nat} {cv : Value} (hck : ab_ckM M code = true) (hf : ab_fetch code pc = some (.aaload, len, cv, ci, kf)) (hc0 : ab_at h a = some (.inl (2, n, .inr (.inr (.inr (.inr f)))))) (hin : vp_in i n) (hq : f i.toNatClampNeg = some q) (k : ab_W X M d bc bs (pc + 1) lo (.ref q :: st) h Q) : ab_W X M d bc bs pc lo (.int i :: .ref a :: st) h Q := by
  obtain ⟨hd, hc⟩ := ab_ck_at hck hf
  obtain rfl : len = 1 := eq_of_beq (show (len == 1) = true from hc)
  obtain ⟨ha, hc1⟩ := ab_at_own hc0
  intro p e R s m args below meth c H locs cells slots ls F V
  have hkk := k p e R s m args below meth c H locs cells slots ls F V
  obtain ⟨hx, hb, hr, hml, hown, hts, hlk, hnm, hok, hfr, hlo⟩ := F
  obtain ⟨v1, v2, hS, hRel, hLR⟩ := V
  show W _ _ _ _ _ _ _ _ _ _ _ _ _ _ _ (F0 m pc ls (.int i :: ab_v X (.ref a) :: st.map (ab_v X)))
  rw [ab_ad_own ha]
  exact ab_Waald hx hb hok.1 hRel hc1 hin hq hd hkk
/-- putfield of a value that fits by a proof -/
theorem ab_putfR {a idx len ci kf : Nat} {cv v : Value} {fs : List Value} (hck : ab_ckM M code = true) (hf : ab_fetch code pc = some (.putfield idx, len, cv, ci, kf)) (hc0 : ab_at h a = some (.inr (ci, fs))) (hkl : kf < fs.length) (hfit : narrow (ab_fty ci kf) v = v ∧ fits (ab_fty ci kf) v = true) (hv : ∀ q, v ≠ .ref q) (k : ab_W X M d bc bs (pc + 3) lo st (h.set (a - ab_NT) (.inr (ci, fs.set kf v))) Q) : ab_W X M d bc bs pc lo (v :: .ref a :: st) h Q := by
  obtain ⟨hd, hc⟩ := ab_ck_at hck hf
  have hc : (len == 3 && ab_pf M.1 idx ci kf) = true := hc
  simp only [Bool.and_eq_true, beq_iff_eq] at hc
  obtain ⟨rfl, hc⟩ := hc
  obtain ⟨ha, hc1⟩ := ab_at_own hc0
  intro p e R s m args below meth c H locs cells slots ls F V
  have hkk := fun H locs V => k p e R s m args below meth c H locs cells slots ls F V
  obtain ⟨hx, hb, hr, hml, hown, hts, hlk, hnm, hok, hfr, hlo⟩ := F
  obtain ⟨v1, v2, hS, hRel, hLR⟩ := V
  have hvv : ab_v X v = v := by
    cases v with
    | ref q => exact absurd rfl (hv q)
    | _ => rfl
  show W _ _ _ _ _ _ _ _ _ _ _ _ _ _ _ (F0 m pc ls (ab_v X v :: ab_v X (.ref a) :: st.map (ab_v X)))
  rw [ab_ad_own ha]
  exact ab_putf hx hb hts hown hnm hok.1 hRel hS hc1 hc hkl (fun ty e => by subst e; rw [hvv]; exact hfit) hd (fun H1 locs1 hR1 hS1 => hkk H1 locs1 ⟨v1, v2, hS1, hR1, hLR⟩)
theorem ab_idiv {x y : Int32} {len ci kf : Nat} {cv : Value} (hck : ab_ckM M code = true) (hf : ab_fetch code pc = some (.idiv, len, cv, ci, kf)) (hy : ¬ y = 0) (k : ab_W X M d bc bs (pc + 1) lo (.int (x / y) :: st) h Q) : ab_W X M d bc bs pc lo (.int y :: .int x :: st) h Q := by
  obtain ⟨hd, hc⟩ := ab_ck_at hck hf
  obtain rfl : len = 1 := eq_of_beq (show (len == 1) = true from hc)
  intro p e R s m args below meth c H locs cells slots ls F V
  exact lv_idiv F.1 F.2.1 hd hy (k p e R s m args below meth c H locs cells slots ls F V)
theorem ab_irem {x y : Int32} {len ci kf : Nat} {cv : Value} (hck : ab_ckM M code = true) (hf : ab_fetch code pc = some (.irem, len, cv, ci, kf)) (hy : ¬ y = 0) (k : ab_W X M d bc bs (pc + 1) lo (.int (x - x / y * y) :: st) h Q) : ab_W X M d bc bs pc lo (.int y :: .int x :: st) h Q := by
  obtain ⟨hd, hc⟩ := ab_ck_at hck hf
  obtain rfl : len = 1 := eq_of_beq (show (len == 1) = true from hc)
  intro p e R s m args below meth c H locs cells slots ls F V
  exact lv_irem F.1 F.2.1 hd hy (k p e R s m args below meth c H locs cells slots ls F V)
/-! ends -/
theorem ab_iret {x : Int32} {len ci kf : Nat} {cv : Value} (hck : ab_ckM M code = true) (hf : ab_fetch code pc = some (.ireturn, len, cv, ci, kf)) (hr : M.2.2.2 = some .int) (hq : Q (some (.int x)) h) : ab_W X M d bc bs pc lo [.int x] h Q := by
  obtain ⟨hd, hc⟩ := ab_ck_at hck hf
  obtain rfl : len = 1 := eq_of_beq (show (len == 1) = true from hc)
  intro p e R s m args below meth c H locs cells slots ls F V
  obtain ⟨hx, hb, hr0, hml, hown, hts, hlk, hnm, hok, hfr, hlo⟩ := F
  obtain ⟨v1, v2, hS, hRel, hLR⟩ := V
  refine W.widen (k := R.cells) (n := R.slots) (by omega) (by omega) ?_
  exact W.iret (v := x) hx hb (hr0.trans hr) (fun t ht hW => ⟨some (.int x), h, rfl, hq, by rw [ht]; exact hRel, hS.F ht⟩) hS.2.2 hd
theorem ab_zret {x : Int32} {len ci kf : Nat} {cv : Value} (hck : ab_ckM M code = true) (hf : ab_fetch code pc = some (.ireturn, len, cv, ci, kf)) (hr : M.2.2.2 = some .boolean) (hx01 : x = 0 ∨ x = 1) (hq : Q (some (.int x)) h) : ab_W X M d bc bs pc lo [.int x] h Q := by
  obtain ⟨hd, hc⟩ := ab_ck_at hck hf
  obtain rfl : len = 1 := eq_of_beq (show (len == 1) = true from hc)
  intro p e R s m args below meth c H locs cells slots ls F V
  obtain ⟨hx, hb, hr0, hml, hown, hts, hlk, hnm, hok, hfr, hlo⟩ := F
  obtain ⟨v1, v2, hS, hRel, hLR⟩ := V
  refine W.widen (k := R.cells) (n := R.slots) (by omega) (by omega) ?_
  exact W.zret (v := x) hx hb (hr0.trans hr) (by rcases hx01 with rfl | rfl <;> decide) (fun t ht hW => ⟨some (.int x), h, rfl, hq, by rw [ht]; exact hRel, hS.F ht⟩) hS.2.2 hd
theorem ab_lret {x : Int64} {len ci kf : Nat} {cv : Value} (hck : ab_ckM M code = true) (hf : ab_fetch code pc = some (.lreturn, len, cv, ci, kf)) (hr : M.2.2.2 = some .long) (hq : Q (some (.long x)) h) : ab_W X M d bc bs pc lo [.long x] h Q := by
  obtain ⟨hd, hc⟩ := ab_ck_at hck hf
  obtain rfl : len = 1 := eq_of_beq (show (len == 1) = true from hc)
  intro p e R s m args below meth c H locs cells slots ls F V
  obtain ⟨hx, hb, hr0, hml, hown, hts, hlk, hnm, hok, hfr, hlo⟩ := F
  obtain ⟨v1, v2, hS, hRel, hLR⟩ := V
  refine W.widen (k := R.cells) (n := R.slots) (by omega) (by omega) ?_
  exact W.lret (v := x) hx hb (hr0.trans hr) (fun t ht hW => ⟨some (.long x), h, rfl, hq, by rw [ht]; exact hRel, hS.F ht⟩) hS.2.2 hd
theorem ab_vret {len ci kf : Nat} {cv : Value} (hck : ab_ckM M code = true) (hf : ab_fetch code pc = some (.return_, len, cv, ci, kf)) (hr : M.2.2.2 = none) (hq : Q none h) : ab_W X M d bc bs pc lo [] h Q := by
  obtain ⟨hd, hc⟩ := ab_ck_at hck hf
  obtain rfl : len = 1 := eq_of_beq (show (len == 1) = true from hc)
  intro p e R s m args below meth c H locs cells slots ls F V
  obtain ⟨hx, hb, hr0, hml, hown, hts, hlk, hnm, hok, hfr, hlo⟩ := F
  obtain ⟨v1, v2, hS, hRel, hLR⟩ := V
  refine W.widen (k := R.cells) (n := R.slots) (by omega) (by omega) ?_
  exact W.vret hx hb (hr0.trans hr) (fun t ht hW => ⟨none, h, rfl, hq, by rw [ht]; exact hRel, hS.F ht⟩) hS.2.2 hd
theorem ab_W.mono {Q' : Option Value → ab_H → Prop} (hq : ∀ r h, Q r h → Q' r h) (k : ab_W X M d bc bs pc lo st h Q) : ab_W X M d bc bs pc lo st h Q' := by
  intro p e R s m args below meth c H locs cells slots ls F V T hT Z
  obtain ⟨t, a1, o, b1, b2, ⟨r, h', c1, c2, c3⟩, b4⟩ := k p e R s m args below meth c H locs cells slots ls F V T hT Z
  exact ⟨t, a1, o, b1, b2, ⟨r, h', c1, hq _ _ c2, c3⟩, b4⟩
end ABR
end
section
/-! A method's entry, calls, new cells -/
theorem ab_goodIn {M : ab_Mt} (hM : Cond.code M.1 M.2.1 M.2.2.1 M.2.2.2 ∈ lw_tbl) : GoodIn ab_tb (ab_wsM M) := by
  intro w hw
  rcases List.mem_cons.mp hw with rfl | hw
  · exact ⟨ab_in hM rfl, good_of_word rfl⟩
  · exact ⟨hw, good_of_word (List.mem_filter.mp hw).2⟩
theorem ab_Nw_moved {u U : State} (hW : u.WarmedH U.vm) (h : ∀ w ∈ ab_nst, va_Nw w u) : ∀ w ∈ ab_nst, va_Nw w U := by
  intro w hw
  have h1 := h w hw
  have h2 := (List.mem_filter.mp hw).2
  unfold ab_isN at h2
  split at h2
  · exact va_Nw.warmM hW h1
  · cases h2
theorem ab_Ok.moved {X : ab_C} {u U : State} (hW : u.WarmedH U.vm) (hq : ∀ a : Nat, a < u.heap.size → ¬ ab_A X a → U.heap[a]? = u.heap[a]?) (hb : ab_b X ≤ U.heap.size) (h : ab_Ok X u) : ab_Ok X U := by
  refine ⟨va_K.moved hW.alike h.1, fun j n f hj => ((h.2.1 j n f hj).moved hW.alike).kept hq, fun q hq2 => ((h.2.2.1 q hq2).moved hW.alike).kept hq, hb, ab_Nw_moved hW h.2.2.2.2.1, ?_⟩
  obtain ⟨k, h1, h2⟩ := h.2.2.2.2.2
  obtain ⟨k', hk', he⟩ := hW.alike.2.2 _ _ h1
  exact ⟨k', hk', by rw [he]; exact h2⟩
theorem ab_blind {X : ab_C} {as : List Value} {h : ab_H} : FrameBlind (va_Pc (as.map (ab_v X)) (fun U => ab_Ok X U ∧ ab_Rel X h U.heap)) := by
  intro a U g mk q
  obtain ⟨q0, q1, q2⟩ := q
  exact ⟨q0, ab_Ok.moved (u := U) (U := U.calling g mk a) (State.WarmedH.refl U) (fun _ _ _ => rfl) q1.2.2.2.1 q1, q2⟩
def ab_lo0 (as : List Value) : ab_Lo := match as with
  | [] => []
  | v :: r => if v.category = 2 then some v :: none :: ab_lo0 r else some v :: ab_lo0 r
theorem ab_lo0_len {X : ab_C} (as : List Value) : (ab_lo0 as).length = (lg_sl (as.map (ab_v X))).length := by
  induction as with
  | nil => rfl
  | cons v r ih =>
    have e : lg_sl ((v :: r).map (ab_v X)) = (if (ab_v X v).category = 2 then [Slot.val (ab_v X v), .second] else [.val (ab_v X v)]) ++ lg_sl (r.map (ab_v X)) := rfl
    rw [e, ab_v_cat]
    unfold ab_lo0
    split
    · simp [ih]
    · simp [ih]
theorem ab_lo0_in {X : ab_C} (as : List Value) : ∀ (o i : Nat) (v : Value), (ab_lo0 as)[i]? = some (some v) → (o + i, ab_v X v) ∈ lv_args o (as.map (ab_v X)) := by
  induction as with
  | nil => intro o i v h; simp [ab_lo0] at h
  | cons w r ih =>
    intro o i v h
    rw [List.map_cons]
    unfold ab_lo0 at h
    unfold lv_args
    split at h
    · rename_i hw
      cases i with
      | zero => simp at h; subst h; exact List.mem_cons_self
      | succ i =>
        cases i with
        | zero => simp at h
        | succ i =>
          simp at h
          refine List.mem_cons_of_mem _ ?_
          have := ih (o + 2) i v h
          have e : o + (i + 1 + 1) = o + 2 + i := by omega
          rw [e]
          simpa [ab_v_cat, hw] using this
    · rename_i hw
      cases i with
      | zero => simp at h; subst h; exact List.mem_cons_self
      | succ i =>
        simp at h
        refine List.mem_cons_of_mem _ ?_
        have hc1 : w.category = 1 := (lv_cat w).resolve_right hw
        have := ih (o + 1) i v h
        have e : o + (i + 1) = o + 1 + i := by omega
        rw [e]
        simpa [ab_v_cat, hc1] using this
/-- a method's contract out of its body -/
theorem ab_entry {X : ab_C} {M : ab_Mt} {d bc bs : Nat} {as : List Value} {h : ab_H} {Q : Option Value → ab_H → Prop} (hy : plainName M.1.cls = true) (hn : (ab_lo0 as).length ≤ M.2.2.1)
    (k : ab_W X M d bc bs 0 (ab_lo0 as ++ List.replicate (M.2.2.1 - (ab_lo0 as).length) none) [] h Q) : ab_M X M d bc bs as h Q := by
  refine Met.ofW (cc := M.2.1) (maxL := M.2.2.1) (ret := M.2.2.2) hy rfl ?_
  intro p e s m args below meth c s₁ B hml hv
  obtain ⟨rfl, hok, hRel⟩ := hv
  have hts0 := atoms_spec (ws := ab_wsM M) B.pre
  have hts : ∀ w ∈ ab_tb, w.before _ s = true := fun w hw => hts0 w (List.mem_cons_of_mem _ hw)
  have hown : s.vm.findClass M.1.cls = some m.cls := findClass_of_methodNamed B.named
  have hl := lv_entry (as.map (ab_v X)) (n := M.2.2.1) (by rw [← ab_lo0_len]; exact hn)
  rw [lg_entry_eq]
  generalize hls : (lg_sl (as.map (ab_v X)) ++ List.replicate (M.2.2.1 - (lg_sl (as.map (ab_v X))).length) Slot.unset).toArray = ls at hl
  refine k p e _ s m _ below meth c s.heap [] 0 0 ls ⟨B.exec, B.bytes, B.returns, hml, hown, hts, B.notSynchronized, (name_of_methodNamed B.named B.method).1, hok, Nat.le_refl _, Nat.le_refl _⟩ ⟨by show 0 + bc ≤ bc; omega, by show 0 + bs ≤ bs; omega, va_S.rf, hRel, ?_, _, hl, fun i v hi => ?_⟩
  · simp; omega
  · have hlt : i < (ab_lo0 as).length := by
      apply Decidable.byContradiction
      intro hge
      rw [List.getElem?_append_right (by omega)] at hi
      have := List.mem_of_getElem? hi
      rw [List.mem_replicate] at this
      exact absurd this.2 (by simp)
    rw [List.getElem?_append_left hlt] at hi
    have := ab_lo0_in (X := X) as 0 i v hi
    rwa [Nat.zero_add] at this
theorem ab_M.mono {X : ab_C} {M : ab_Mt} {d bc bs : Nat} {as : List Value} {h : ab_H} {Q Q' : Option Value → ab_H → Prop} (hq : ∀ r h, Q r h → Q' r h) (k : ab_M X M d bc bs as h Q) : ab_M X M d bc bs as h Q' := by
  intro p e ha hc hk s m args below hf hfit hP hK
  obtain ⟨t, o, a1, a2, a3, ⟨r, h', c1, c2, c3⟩, a5⟩ := k p e ha hc hk s m args below hf hfit hP hK
  exact ⟨t, o, a1, a2, a3, ⟨r, h', c1, hq _ _ c2, c3⟩, a5⟩
section ABC
variable {p : Program} {l : Launch} {e : Env} {R : Room} {s : State} {m : MethodId} {args : Array Value} {below : List Frame} {meth : Method} {c : Code} {H : Heap} {locs : List Loc} {cells slots : Nat} {Qw : State → Prop}
/-- behind a call -/
theorem ab_back {X : ab_C} {Q' : Option Value → ab_H → Prop} {mc ms pc : Nat} {ls : Array Slot} {st0 rest : List Value} {a : Array Value} (hr : va_Run p l e R s m args below meth c H locs cells slots mc ms (F0 m pc ls st0) rest (ab_Q X Q' a) (ab_A X)) (hS : va_S (ab_A X) s.heap H locs)
    (kk : ∀ (r : Option Value) (h' : ab_H) (H1 : Heap) (locs1 : List Loc), Q' r h' → ab_Rel X h' H1 → va_S (ab_A X) s.heap H1 locs1 → W p l e R s m args below meth c H1 locs1 (cells + mc) (slots + ms) Qw (F0 m (pc + 3) ls ((r.map (ab_v X)).toList ++ rest))) : W p l e R s m args below meth c H locs cells slots Qw (F0 m pc ls st0) := by
  intro T hT Z
  obtain ⟨v, st₀, t, T', L, h0, Z', hL, e1, e2, ⟨r, h', hv, hq, hRel, hz, hk⟩, st⟩ := hr T hT Z
  cases hv
  rw [h0] at hz hk
  obtain ⟨t2, a1, b1⟩ := kk r h' T'.heap (locs ++ L) hq (by rw [e1]; exact hRel)
    ⟨Nat.le_trans hS.1 (by rw [e1]; exact hz), fun q h1 h2 => by rw [e1, hk q (Nat.lt_of_lt_of_le h1 hS.1) h2]; exact hS.2.1 q h1 h2, fun q hq => by
      rcases List.mem_append.mp hq with h | h
      · exact hS.2.2 q h
      · exact hL q h⟩ T' rfl Z'
  exact ⟨t2, st t2 a1, b1⟩
end ABC
/-- the words of a call of y at pool place idx of class own: n arguments; kind 0 static, 1 virtual, 2 special -/
def ab_ckc (own : String) (idx n : Nat) (y : MethodName) (kind : Nat) : Bool :=
  (decide (Cond.methodLink own idx y ∈ lw_tbl) || ab_hosts.any (fun ho => decide (Cond.methodLinkNest own idx y ho ∈ lw_tbl))) && decide (Cond.initialized y.cls ∈ lw_tbl) && decide (y.cls ≠ "java/lang/invoke/MethodHandle") && decide (y.cls ≠ "java/lang/invoke/VarHandle") && decide ((parseMethodDescriptor y.desc).map (fun d => d.parameters.length) = some n) &&
  (match kind with
    | 0 => decide (Cond.static y ∈ lw_tbl)
    | 1 => decide (Cond.instanceMethod y ∈ lw_tbl) && decide (Cond.selects y.cls y y ∈ lw_tbl)
    | _ => decide (Cond.instanceMethod y ∈ lw_tbl) && y.name == "<init>")
theorem ab_cat_sum (X : ab_C) (rest : List Value) : ((rest.map (ab_v X)).map fun v => v.category).sum = (rest.map fun v => v.category).sum := by
  induction rest with
  | nil => rfl
  | cons v r ih => simp only [List.map_cons, List.sum_cons, ih, ab_v_cat]
section ABD
variable {X : ab_C} {M M' : ab_Mt} {code : ab_Cd} {d d' bc bs bc' bs' bc2 bs2 pc : Nat} {lo : ab_Lo} {rest as : List Value} {h : ab_H} {Q Q' : Option Value → ab_H → Prop} {idx n len ci kf : Nat} {cv : Value}
theorem ab_pre {s : State} {args : Array Value} {H : Heap} {locs : List Loc} (hok : ab_Ok X s) (hS : va_S (ab_A X) s.heap H locs) (hRel : ab_Rel X h H) : PreS s H (va_Pc (as.map (ab_v X)) (fun U => ab_Ok X U ∧ ab_Rel X h U.heap)) (as.map (ab_v X)) := by
  refine ⟨ab_blind, fun U hU hW => ⟨rfl, ab_Ok.moved hW (fun a h1 h2 => ?_) ?_ hok, by rw [hU]; exact hRel⟩⟩
  · rw [hU]; exact hS.2.1 a h1 h2
  · rw [hU]; exact Nat.le_trans hok.2.2.2.1 hS.1
theorem ab_rev (X : ab_C) (as rest : List Value) : (as.reverse ++ rest).map (ab_v X) = (as.map (ab_v X)).reverse ++ rest.map (ab_v X) := by simp
/-- invokestatic -/
theorem ab_callS (hck : ab_ckM M code = true) (hf : ab_fetch code pc = some (.invokestatic idx, len, cv, ci, kf)) (hw : ab_ckc M.1.cls idx as.length M'.1 0 = true) (hcm : Cond.code M'.1 M'.2.1 M'.2.2.1 M'.2.2.2 ∈ lw_tbl) (hM : ab_M X M' d' bc' bs' as h Q') (hd : d' + 1 ≤ d ∧ M'.2.2.1 ≤ 45) (hb1 : bc' + bc2 ≤ bc ∧ bs' + bs2 ≤ bs) (hrest : (rest.map fun v => v.category).sum ≤ 8)
    (k : ∀ r h', Q' r h' → ab_W X M d bc2 bs2 (pc + 3) lo (r.toList ++ rest) h' Q) : ab_W X M d bc bs pc lo (as.reverse ++ rest) h Q := by
  obtain ⟨hdc, hc⟩ := ab_ck_at hck hf
  obtain rfl : len = 3 := eq_of_beq (show (len == 3) = true from hc)
  intro p e R s m args below meth c H locs cells slots ls F V
  have hk := fun r h' hq H locs V => k r h' hq p e R s m args below meth c H locs (cells + bc') (slots + bs') ls F V
  obtain ⟨hx, hb, hr, hml, hown, hts, hlk, hnm, hok, hfr, hlo⟩ := F
  obtain ⟨v1, v2, hS, hRel, hLR⟩ := V
  unfold ab_ckc at hw
  simp only [Bool.and_eq_true, Bool.or_eq_true, List.any_eq_true, decide_eq_true_eq] at hw
  obtain ⟨⟨⟨⟨⟨hl, hini⟩, hm1⟩, hm2⟩, hpl⟩, hstat⟩ := hw
  rw [ab_rev]
  have hroom : 2 * (F0 m pc ls ((as.map (ab_v X)).reverse ++ rest.map (ab_v X))).monitorRoom + ((rest.map (ab_v X)).map fun v => v.category).sum ≤ 8 := lv_room (by rw [ab_cat_sum]; exact hrest)
  have hsz : ls.size = M.2.2.1 := by obtain ⟨-, lv, g, -⟩ := hLR; exact g.1
  have fin : ∀ (r : Option Value) (h' : ab_H) (H1 : Heap) (locs1 : List Loc), Q' r h' → ab_Rel X h' H1 → va_S (ab_A X) s.heap H1 locs1 → W p X.1 e R s m args below meth c H1 locs1 (cells + bc') (slots + bs') (MQ below (ab_Q X Q) args s R.cells R.slots (ab_A X)) (F0 m (pc + 3) ls ((r.map (ab_v X)).toList ++ rest.map (ab_v X))) := by
    intro r h' H1 locs1 hq hR1 hS1
    have := hk r h' hq H1 locs1 ⟨by omega, by omega, hS1, hR1, hLR⟩
    rw [List.map_append] at this
    cases r with
    | none => exact this
    | some v => exact this
  rcases hl with hl | ⟨ho, -, hl⟩
  · exact ab_back (va_runS (As := as.map (ab_v X)) (rest := rest.map (ab_v X)) ⟨hx, hb, hml, hown, hts⟩ hM ⟨callB_of as.length hts (ab_goodIn hcm) rfl rfl rfl (hts _ (ab_in hini rfl)) (hts _ (ab_in hl rfl)) ⟨hm1, hm2, hpl⟩ ⟨by show d' + 1 ≤ R.frames; omega, by show 8 + (M'.2.2.1 + 11) + 64 * d' ≤ R.locals; omega⟩, hts _ (ab_in hstat rfl)⟩ (ab_pre (args := args) hok hS hRel) rfl (by rw [List.length_map]) hsz rfl hroom hdc ⟨by omega, by omega⟩) hS fin
  · exact ab_back (va_runSN (As := as.map (ab_v X)) (rest := rest.map (ab_v X)) ⟨hx, hb, hml, hown, hts⟩ hM ⟨va_cnB as.length hts (ab_goodIn hcm) rfl rfl rfl (hok.2.2.2.2.1 _ (List.mem_filter.mpr ⟨hl, rfl⟩)) (hts _ (ab_in hini rfl)) ⟨hm1, hm2, hpl⟩ ⟨by show d' + 1 ≤ R.frames; omega, by show 8 + (M'.2.2.1 + 11) + 64 * d' ≤ R.locals; omega⟩, hts _ (ab_in hstat rfl), trivial⟩ (ab_pre (args := args) hok hS hRel) rfl (by rw [List.length_map]) hsz rfl hroom hdc ⟨by omega, by omega⟩) hS fin
/-- invokevirtual, the receiver an object of the class that has the method -/
theorem ab_callV {b cix : Nat} {fs : List Value} (hck : ab_ckM M code = true) (hf : ab_fetch code pc = some (.invokevirtual idx, len, cv, ci, kf)) (hw : ab_ckc M.1.cls idx as.length M'.1 1 = true) (hcm : Cond.code M'.1 M'.2.1 M'.2.2.1 M'.2.2.2 ∈ lw_tbl) (hM : ab_M X M' d' bc' bs' (.ref b :: as) h Q') (hob : ab_at h b = some (.inr (cix, fs))) (hcx : (vwCl[cix]?).map (fun q => q.1) = some M'.1.cls) (hd : d' + 1 ≤ d ∧ M'.2.2.1 ≤ 45) (hb1 : bc' + bc2 ≤ bc ∧ bs' + bs2 ≤ bs) (hrest : (rest.map fun v => v.category).sum ≤ 8)
    (k : ∀ r h', Q' r h' → ab_W X M d bc2 bs2 (pc + 3) lo (r.toList ++ rest) h' Q) : ab_W X M d bc bs pc lo (as.reverse ++ .ref b :: rest) h Q := by
  obtain ⟨hdc, hc⟩ := ab_ck_at hck hf
  obtain rfl : len = 3 := eq_of_beq (show (len == 3) = true from hc)
  obtain ⟨hbn, hob1⟩ := ab_at_own hob
  intro p e R s m args below meth c H locs cells slots ls F V
  have hk := fun r h' hq H locs V => k r h' hq p e R s m args below meth c H locs (cells + bc') (slots + bs') ls F V
  obtain ⟨hx, hb, hr, hml, hown, hts, hlk, hnm, hok, hfr, hlo⟩ := F
  obtain ⟨v1, v2, hS, hRel, hLR⟩ := V
  unfold ab_ckc at hw
  simp only [Bool.and_eq_true, Bool.or_eq_true, List.any_eq_true, decide_eq_true_eq] at hw
  obtain ⟨⟨⟨⟨⟨hl, hini⟩, hm1⟩, hm2⟩, hpl⟩, hinst, hsel⟩ := hw
  rw [ab_rev, List.map_cons]
  have hroom : 2 * (F0 m pc ls ((as.map (ab_v X)).reverse ++ ab_v X (.ref b) :: rest.map (ab_v X))).monitorRoom + ((rest.map (ab_v X)).map fun v => v.category).sum ≤ 8 := lv_room (by rw [ab_cat_sum]; exact hrest)
  have hsz : ls.size = M.2.2.1 := by obtain ⟨-, lv, g, -⟩ := hLR; exact g.1
  have fin : ∀ (r : Option Value) (h' : ab_H) (H1 : Heap) (locs1 : List Loc), Q' r h' → ab_Rel X h' H1 → va_S (ab_A X) s.heap H1 locs1 → W p X.1 e R s m args below meth c H1 locs1 (cells + bc') (slots + bs') (MQ below (ab_Q X Q) args s R.cells R.slots (ab_A X)) (F0 m (pc + 3) ls ((r.map (ab_v X)).toList ++ rest.map (ab_v X))) := by
    intro r h' H1 locs1 hq hR1 hS1
    have := hk r h' hq H1 locs1 ⟨by omega, by omega, hS1, hR1, hLR⟩
    rw [List.map_append] at this
    cases r with
    | none => exact this
    | some v => exact this
  obtain ⟨q, hq1, hq2⟩ : ∃ q, vwCl[cix]? = some q ∧ q.1 = M'.1.cls := by
    cases hq : vwCl[cix]? with
    | none => rw [hq] at hcx; cases hcx
    | some q => rw [hq] at hcx; exact ⟨q, rfl, Option.some.inj hcx⟩
  have hrecv := va_recv hok.1 hRel.2 hq1 (ab_ws_at hob1)
  rw [hq2] at hrecv
  have hpre := ab_pre (X := X) (h := h) (as := .ref b :: as) (args := args) hok hS hRel
  have e0 : ab_v X (.ref b) = .ref (ab_b X + (b - ab_NT)) := ab_ad_own hbn
  rw [List.map_cons] at hpre
  have hM2 : Met X.1 M'.1 (ab_wsM M') { frames := d', cells := bc', slots := bs', locals := 64 * d' } (va_Pc (ab_v X (.ref b) :: as.map (ab_v X)) (fun U => ab_Ok X U ∧ ab_Rel X h U.heap)) (ab_Q X Q') bc' bs' (ab_A X) := hM
  rw [e0] at hpre hM2 ⊢
  rw [e0] at hroom
  rcases hl with hl | ⟨ho, -, hl⟩
  · exact ab_back (va_runV (C := M'.1.cls) (As := as.map (ab_v X)) (rest := rest.map (ab_v X)) ⟨hx, hb, hml, hown, hts⟩ hM2 ⟨callB_of as.length hts (ab_goodIn hcm) rfl rfl rfl (hts _ (ab_in hini rfl)) (hts _ (ab_in hl rfl)) ⟨hm1, hm2, hpl⟩ ⟨by show d' + 1 ≤ R.frames; omega, by show 8 + (M'.2.2.1 + 11) + 64 * d' ≤ R.locals; omega⟩, hts _ (ab_in hinst rfl), hts _ (ab_in hsel rfl)⟩ ⟨hpre.1, hrecv, hpre.2⟩ rfl (by rw [List.length_map]) hsz rfl hroom hdc ⟨by omega, by omega⟩) hS fin
  · exact ab_back (va_runVN (C := M'.1.cls) (As := as.map (ab_v X)) (rest := rest.map (ab_v X)) ⟨hx, hb, hml, hown, hts⟩ hM2 ⟨va_cnB as.length hts (ab_goodIn hcm) rfl rfl rfl (hok.2.2.2.2.1 _ (List.mem_filter.mpr ⟨hl, rfl⟩)) (hts _ (ab_in hini rfl)) ⟨hm1, hm2, hpl⟩ ⟨by show d' + 1 ≤ R.frames; omega, by show 8 + (M'.2.2.1 + 11) + 64 * d' ≤ R.locals; omega⟩, hts _ (ab_in hinst rfl), hts _ (ab_in hsel rfl)⟩ ⟨hpre.1, hrecv, hpre.2⟩ rfl (by rw [List.length_map]) hsz rfl hroom hdc ⟨by omega, by omega⟩) hS fin
/-- invokespecial: a constructor -/
theorem ab_callI {b : Nat} (hck : ab_ckM M code = true) (hf : ab_fetch code pc = some (.invokespecial idx, len, cv, ci, kf)) (hw : ab_ckc M.1.cls idx as.length M'.1 2 = true) (hcm : Cond.code M'.1 M'.2.1 M'.2.2.1 M'.2.2.2 ∈ lw_tbl) (hret : M'.2.2.2 = none) (hM : ab_M X M' d' bc' bs' (.ref b :: as) h Q') (hbn : ¬ b < ab_NT) (hd : d' + 1 ≤ d ∧ M'.2.2.1 ≤ 45) (hb1 : bc' + bc2 ≤ bc ∧ bs' + bs2 ≤ bs) (hrest : (rest.map fun v => v.category).sum ≤ 8)
    (k : ∀ r h', Q' r h' → ab_W X M d bc2 bs2 (pc + 3) lo (r.toList ++ rest) h' Q) : ab_W X M d bc bs pc lo (as.reverse ++ .ref b :: rest) h Q := by
  obtain ⟨hdc, hc⟩ := ab_ck_at hck hf
  obtain rfl : len = 3 := eq_of_beq (show (len == 3) = true from hc)
  obtain ⟨y', cc', ml', ret'⟩ := M'
  dsimp only at hret
  subst hret
  intro p e R s m args below meth c H locs cells slots ls F V
  have hk := fun r h' hq H locs V => k r h' hq p e R s m args below meth c H locs (cells + bc') (slots + bs') ls F V
  obtain ⟨hx, hb, hr, hml, hown, hts, hlk, hnm, hok, hfr, hlo⟩ := F
  obtain ⟨v1, v2, hS, hRel, hLR⟩ := V
  dsimp only at hw hd hcm
  unfold ab_ckc at hw
  simp only [Bool.and_eq_true, Bool.or_eq_true, List.any_eq_true, decide_eq_true_eq, beq_iff_eq] at hw
  obtain ⟨⟨⟨⟨⟨hl, hini⟩, hm1⟩, hm2⟩, hpl⟩, hinst, hyi⟩ := hw
  rw [ab_rev, List.map_cons]
  have hroom : 2 * (F0 m pc ls ((as.map (ab_v X)).reverse ++ ab_v X (.ref b) :: rest.map (ab_v X))).monitorRoom + ((rest.map (ab_v X)).map fun v => v.category).sum ≤ 8 := lv_room (by rw [ab_cat_sum]; exact hrest)
  have hsz : ls.size = M.2.2.1 := by obtain ⟨-, lv, g, -⟩ := hLR; exact g.1
  have fin : ∀ (r : Option Value) (h' : ab_H) (H1 : Heap) (locs1 : List Loc), Q' r h' → ab_Rel X h' H1 → va_S (ab_A X) s.heap H1 locs1 → W p X.1 e R s m args below meth c H1 locs1 (cells + bc') (slots + bs') (MQ below (ab_Q X Q) args s R.cells R.slots (ab_A X)) (F0 m (pc + 3) ls ((r.map (ab_v X)).toList ++ rest.map (ab_v X))) := by
    intro r h' H1 locs1 hq hR1 hS1
    have := hk r h' hq H1 locs1 ⟨by omega, by omega, hS1, hR1, hLR⟩
    rw [List.map_append] at this
    cases r with
    | none => exact this
    | some v => exact this
  have hpre := ab_pre (X := X) (h := h) (as := .ref b :: as) (args := args) hok hS hRel
  have e0 : ab_v X (.ref b) = .ref (ab_b X + (b - ab_NT)) := ab_ad_own hbn
  rw [List.map_cons] at hpre
  have hM2 : Met X.1 y' (ab_wsM (y', cc', ml', none)) { frames := d', cells := bc', slots := bs', locals := 64 * d' } (va_Pc (ab_v X (.ref b) :: as.map (ab_v X)) (fun U => ab_Ok X U ∧ ab_Rel X h U.heap)) (ab_Q X Q') bc' bs' (ab_A X) := hM
  rw [e0] at hpre hM2 ⊢
  rw [e0] at hroom
  rcases hl with hl | ⟨ho, -, hl⟩
  · exact ab_back (va_runI (As := as.map (ab_v X)) (rest := rest.map (ab_v X)) ⟨hx, hb, hml, hown, hts⟩ hM2 ⟨callB_of as.length hts (ab_goodIn hcm) rfl rfl rfl (hts _ (ab_in hini rfl)) (hts _ (ab_in hl rfl)) ⟨hm1, hm2, hpl⟩ ⟨by show d' + 1 ≤ R.frames; omega, by show 8 + (ml' + 11) + 64 * d' ≤ R.locals; omega⟩, hyi, hts _ (ab_in hinst rfl)⟩ hpre rfl (by rw [List.length_map]) hsz rfl hroom hdc ⟨by omega, by omega⟩) hS fin
  · exact ab_back (va_runIN (As := as.map (ab_v X)) (rest := rest.map (ab_v X)) ⟨hx, hb, hml, hown, hts⟩ hM2 ⟨va_cnB as.length hts (ab_goodIn hcm) rfl rfl rfl (hok.2.2.2.2.1 _ (List.mem_filter.mpr ⟨hl, rfl⟩)) (hts _ (ab_in hini rfl)) ⟨hm1, hm2, hpl⟩ ⟨by show d' + 1 ≤ R.frames; omega, by show 8 + (ml' + 11) + 64 * d' ≤ R.locals; omega⟩, hyi, hts _ (ab_in hinst rfl)⟩ hpre rfl (by rw [List.length_map]) hsz rfl hroom hdc ⟨by omega, by omega⟩) hS fin
end ABD
end
section
/-! New cells, Object's constructor, Math, switches -/
theorem ab_Rel.push {X : ab_C} {h : ab_H} {H H1 : Heap} (hRel : ab_Rel X h H) {c1 : va_E} (he : va_at X.2.1 vwCl (ab_b X + h.length, ab_c X c1) H1) (hz : H1.size = H.size + 1) (oq : ∀ q : Nat, q < H.size → H1[q]? = H[q]?) : ab_Rel X (h ++ [c1]) H1 := by
  refine ⟨by rw [hz, List.length_append, hRel.1]; simp; omega, ?_⟩
  rw [← ab_ws_push]
  refine va_P.app (hRel.2.kept (fun k q hk => oq q.1 (hRel.2 k q hk).lt)) (fun k q hk => ?_)
  have hz : k < 1 := (List.getElem?_eq_some_iff.mp hk).1
  rw [show k = 0 by omega] at hk
  cases hk
  exact he
def ab_dfl (ci : Nat) : List Value := match vwCl[ci]? with
  | some q => (List.range q.2.2).map (fun k => defaultValue (ab_tyq q k))
  | none => []
def ab_ckn (own : String) (idx ci : Nat) : Bool := match vwCl[ci]? with
  | some q => decide (Cond.classLink own idx q.1 ∈ lw_tbl) && decide (Cond.instantiable q.1 q.2.2 ∈ lw_tbl) && decide (Cond.initialized q.1 ∈ lw_tbl)
  | none => false
theorem ab_dv (X : ab_C) (ty : FieldType) : ab_v X (defaultValue ty) = defaultValue ty := by cases ty <;> rfl
section ABN
variable {X : ab_C} {M : ab_Mt} {code : ab_Cd} {d bc bs bc2 bs2 pc : Nat} {lo : ab_Lo} {st : List Value} {h : ab_H} {Q : Option Value → ab_H → Prop} {idx len ci kf : Nat} {cv : Value}
theorem ab_new (hck : ab_ckM M code = true) (hf : ab_fetch code pc = some (.new idx, len, cv, ci, kf)) (hw : ab_ckn M.1.cls idx ci = true) (hb1 : 1 + bc2 ≤ bc ∧ (ab_dfl ci).length + bs2 ≤ bs) (k : ab_W X M d bc2 bs2 (pc + 3) lo (.ref (ab_NT + h.length) :: st) (h ++ [.inr (ci, ab_dfl ci)]) Q) : ab_W X M d bc bs pc lo st h Q := by
  obtain ⟨hdc, hc⟩ := ab_ck_at hck hf
  obtain rfl : len = 3 := eq_of_beq (show (len == 3) = true from hc)
  intro p e R s m args below meth c H locs cells slots ls F V
  have hk := fun H V => k p e R s m args below meth c H locs (cells + 1) (slots + (ab_dfl ci).length) ls F V
  obtain ⟨hx, hb, hr, hml, hown, hts, hlk, hnm, hok, hfr, hlo⟩ := F
  obtain ⟨v1, v2, hS, hRel, hLR⟩ := V
  unfold ab_ckn at hw
  split at hw
  · rename_i q hq
    obtain ⟨C, T, N⟩ := q
    simp only [Bool.and_eq_true, decide_eq_true_eq] at hw
    obtain ⟨⟨w1, w2⟩, w3⟩ := hw
    have hdf : ab_dfl ci = (List.range N).map (fun k => defaultValue (ab_tyq (C, T, N) k)) := by unfold ab_dfl; rw [hq]
    have hlen : (ab_dfl ci).length = N := by rw [hdf]; simp
    rw [hlen] at hb1 hk
    obtain ⟨hin, hty, hnms⟩ := ab_cls hq
    have hKn := hok.1.1 ci _ hq
    refine W.newcK hx hb hown (hts _ (ab_in w1 rfl)) (hts _ (ab_in w2 rfl)) (hts _ (ab_in w3 rfl)) rfl hdc (by omega) (by omega) hKn.2.1 rfl fun H1 kC hkC e1 z1 o1 => ?_
    have e0 : ab_v X (.ref (ab_NT + h.length)) = .ref H.size := by
      rw [ab_ad_own (by omega), hRel.1]
      congr 2
      omega
    have hkk := hk H1 ⟨by omega, by omega, ⟨Nat.le_trans hS.1 (by omega), fun x h1 h2 => (o1 x (Nat.lt_of_lt_of_le h1 hS.1)).trans (hS.2.1 x h1 h2), hS.2.2⟩, hRel.push ?_ z1 o1, hLR⟩
    · rw [List.map_cons, e0] at hkk
      exact hkk
    · refine ⟨_, hq, (u_born (ab_tyq (C, T, N)) hts hin hKn hkC (by rw [← hRel.1]; exact e1) hty).to (fun j hj => ?_)⟩
      show defaultValue (ab_tyq (C, T, N) j) = vp_V ((ab_dfl ci).map (ab_v X)) j
      rw [hdf]
      simp [vp_V, hj, ab_dv]
  · cases hw
theorem ab_newaI {n : Int32} (N : Nat) (hck : ab_ckM M code = true) (hf : ab_fetch code pc = some (.newarray .int, len, cv, ci, kf)) (hw : decide (Cond.arrayClass .int ∈ lw_tbl) = true) (hn : ¬ n < 0) (hN : n.toNatClampNeg = N) (hN2 : N ≤ 100000) (hb1 : 1 + bc2 ≤ bc ∧ N + bs2 ≤ bs) (k : ab_W X M d bc2 bs2 (pc + 2) lo (.ref (ab_NT + h.length) :: st) (h ++ [.inl (0, N, .inl (fun _ => 0))]) Q) : ab_W X M d bc bs pc lo (.int n :: st) h Q := by
  obtain ⟨hdc, hc⟩ := ab_ck_at hck hf
  obtain rfl : len = 2 := eq_of_beq (show (len == 2) = true from hc)
  intro p e R s m args below meth c H locs cells slots ls F V
  have hk := fun H V => k p e R s m args below meth c H locs (cells + 1) (slots + N) ls F V
  obtain ⟨hx, hb, hr, hml, hown, hts, hlk, hnm, hok, hfr, hlo⟩ := F
  obtain ⟨v1, v2, hS, hRel, hLR⟩ := V
  have w := hts _ (ab_in (of_decide_eq_true hw) rfl)
  refine va_newaK hx hb (atype := .int) w rfl hdc rfl hn hN (by show N * 4 ≤ 536870912; omega) (by omega) (by omega) rfl fun H1 cA e1 z1 o1 hAr hNm => ?_
  have hcA : cA = X.2.2.1 0 := by
    have h2 : s.vm.findClass ("[" ++ FieldType.int.toString) = some (X.2.2.1 0) := (hok.1.2 0 _ rfl).2
    exact Option.some.inj (hNm.symm.trans h2)
  subst hcA
  have e0 : ab_v X (.ref (ab_NT + h.length)) = .ref H.size := by
    rw [ab_ad_own (by omega), hRel.1]
    congr 2
    omega
  have hkk := hk H1 ⟨by omega, by omega, ⟨Nat.le_trans hS.1 (by omega), fun x h1 h2 => (o1 x (Nat.lt_of_lt_of_le h1 hS.1)).trans (hS.2.1 x h1 h2), hS.2.2⟩, hRel.push (by show H1[_]? = _; rw [← hRel.1]; exact e1) z1 o1, hLR⟩
  rw [List.map_cons, e0] at hkk
  exact hkk
theorem ab_newaL {n : Int32} (N : Nat) (hck : ab_ckM M code = true) (hf : ab_fetch code pc = some (.newarray .long, len, cv, ci, kf)) (hw : decide (Cond.arrayClass .long ∈ lw_tbl) = true) (hn : ¬ n < 0) (hN : n.toNatClampNeg = N) (hN2 : N ≤ 100000) (hb1 : 1 + bc2 ≤ bc ∧ N + bs2 ≤ bs) (k : ab_W X M d bc2 bs2 (pc + 2) lo (.ref (ab_NT + h.length) :: st) (h ++ [.inl (1, N, .inr (.inl (fun _ => 0)))]) Q) : ab_W X M d bc bs pc lo (.int n :: st) h Q := by
  obtain ⟨hdc, hc⟩ := ab_ck_at hck hf
  obtain rfl : len = 2 := eq_of_beq (show (len == 2) = true from hc)
  intro p e R s m args below meth c H locs cells slots ls F V
  have hk := fun H V => k p e R s m args below meth c H locs (cells + 1) (slots + N) ls F V
  obtain ⟨hx, hb, hr, hml, hown, hts, hlk, hnm, hok, hfr, hlo⟩ := F
  obtain ⟨v1, v2, hS, hRel, hLR⟩ := V
  have w := hts _ (ab_in (of_decide_eq_true hw) rfl)
  refine va_newaK hx hb (atype := .long) w rfl hdc rfl hn hN (by show N * 8 ≤ 536870912; omega) (by omega) (by omega) rfl fun H1 cA e1 z1 o1 hAr hNm => ?_
  have hcA : cA = X.2.2.1 1 := by
    have h2 : s.vm.findClass ("[" ++ FieldType.long.toString) = some (X.2.2.1 1) := (hok.1.2 1 _ rfl).2
    exact Option.some.inj (hNm.symm.trans h2)
  subst hcA
  have e0 : ab_v X (.ref (ab_NT + h.length)) = .ref H.size := by
    rw [ab_ad_own (by omega), hRel.1]
    congr 2
    omega
  have hkk := hk H1 ⟨by omega, by omega, ⟨Nat.le_trans hS.1 (by omega), fun x h1 h2 => (o1 x (Nat.lt_of_lt_of_le h1 hS.1)).trans (hS.2.1 x h1 h2), hS.2.2⟩, hRel.push (by show H1[_]? = _; rw [← hRel.1]; exact e1) z1 o1, hLR⟩
  rw [List.map_cons, e0] at hkk
  exact hkk
def ab_cko (own : String) (idx : Nat) : Bool := decide (Cond.methodLink own idx objectInit ∈ lw_tbl)
theorem ab_objW : Cond.instanceMethod objectInit ∈ lw_tbl ∧ Cond.code objectInit ⟨#[0xb1]⟩ 1 none ∈ lw_tbl := by decide +kernel
theorem ab_objInit {a : Nat} (hck : ab_ckM M code = true) (hf : ab_fetch code pc = some (.invokespecial idx, len, cv, ci, kf)) (hw : ab_cko M.1.cls idx = true) (hd : 1 ≤ d) (hrest : (st.map fun v => v.category).sum ≤ 8) (k : ab_W X M d bc bs (pc + 3) lo st h Q) : ab_W X M d bc bs pc lo (.ref a :: st) h Q := by
  obtain ⟨hdc, hc⟩ := ab_ck_at hck hf
  obtain rfl : len = 3 := eq_of_beq (show (len == 3) = true from hc)
  intro p e R s m args below meth c H locs cells slots ls F V
  have hkk := k p e R s m args below meth c H locs cells slots ls F V
  obtain ⟨hx, hb, hr, hml, hown, hts, hlk, hnm, hok, hfr, hlo⟩ := F
  obtain ⟨v1, v2, hS, hRel, hLR⟩ := V
  have hsz : ls.size = M.2.2.1 := by obtain ⟨-, lv, g, -⟩ := hLR; exact g.1
  have hroom : 2 * (F0 m pc ls ((Value.ref a :: st).map (ab_v X))).monitorRoom + ((st.map (ab_v X)).map fun v => v.category).sum ≤ 8 := lv_room (by rw [ab_cat_sum]; exact hrest)
  exact W.objInit hx hb hown (hts _ (ab_in (of_decide_eq_true hw) rfl)) (hts _ (ab_in ab_objW.1 rfl)) (hts _ (ab_in ab_objW.2 rfl)) rfl (hsz.trans hml.symm) rfl hdc (by omega) (by omega) hkk
end ABN
end
