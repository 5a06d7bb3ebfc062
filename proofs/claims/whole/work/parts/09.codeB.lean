/-! methods and their code, by program -/
abbrev mS_init : ab_Mt := (⟨"BusServo", "<init>", "(I)V"⟩, prog_1_method_1_code, 3, none)
def kS_init : ab_Cd := [
  (0, (.aload_n 0, 1, .null, 0, 0)),
  (1, (.invokespecial 1, 3, .ref 77, 0, 0)),
  (4, (.aload_n 0, 1, .null, 0, 0)),
  (5, (.iload_n 1, 1, .null, 0, 0)),
  (6, (.iconst 1, 1, .int 1, 0, 0)),
  (7, (.if_icmp .lt 13, 3, .null, 0, 20)),
  (10, (.iload_n 1, 1, .null, 0, 0)),
  (11, (.bipush 127, 2, .int 127, 0, 0)),
  (13, (.if_icmp .gt 7, 3, .null, 0, 20)),
  (16, (.iload_n 1, 1, .null, 0, 0)),
  (17, (.goto 4, 3, .null, 0, 21)),
  (20, (.iconst 1, 1, .int 1, 0, 0)),
  (21, (.putfield 9, 3, .ref 239, 0, 0)),
  (24, (.bipush 30, 2, .int 30, 0, 0)),
  (26, (.newarray .int, 2, .null, 0, 0)),
  (28, (.astore_n 2, 1, .null, 0, 0)),
  (29, (.aload_n 0, 1, .null, 0, 0)),
  (30, (.aload_n 2, 1, .null, 0, 0)),
  (31, (.putfield 15, 3, .ref 240, 0, 1)),
  (34, (.aload_n 0, 1, .null, 0, 0)),
  (35, (.new 19, 3, .null, 1, 0)),
  (38, (.dup, 1, .null, 0, 0)),
  (39, (.invokespecial 21, 3, .ref 82, 1, 0)),
  (42, (.putfield 22, 3, .ref 241, 0, 2)),
  (45, (.aload_n 0, 1, .null, 0, 0)),
  (46, (.new 26, 3, .null, 2, 0)),
  (49, (.dup, 1, .null, 0, 0)),
  (50, (.invokespecial 28, 3, .ref 109, 1, 0)),
  (53, (.putfield 29, 3, .ref 242, 0, 3)),
  (56, (.aload_n 0, 1, .null, 0, 0)),
  (57, (.new 33, 3, .null, 3, 0)),
  (60, (.dup, 1, .null, 0, 0)),
  (61, (.invokespecial 35, 3, .ref 130, 1, 0)),
  (64, (.putfield 36, 3, .ref 243, 0, 4)),
  (67, (.aload_n 0, 1, .null, 0, 0)),
  (68, (.new 40, 3, .null, 4, 0)),
  (71, (.dup, 1, .null, 0, 0)),
  (72, (.aload_n 2, 1, .null, 0, 0)),
  (73, (.invokespecial 42, 3, .ref 143, 0, 0)),
  (76, (.putfield 45, 3, .ref 244, 0, 5)),
  (79, (.aload_n 0, 1, .null, 0, 0)),
  (80, (.new 49, 3, .null, 5, 0)),
  (83, (.dup, 1, .null, 0, 0)),
  (84, (.invokespecial 51, 3, .ref 156, 1, 0)),
  (87, (.putfield 52, 3, .ref 245, 0, 6)),
  (90, (.aload_n 0, 1, .null, 0, 0)),
  (91, (.new 56, 3, .null, 6, 0)),
  (94, (.dup, 1, .null, 0, 0)),
  (95, (.invokespecial 58, 3, .ref 169, 1, 0)),
  (98, (.putfield 59, 3, .ref 246, 0, 7)),
  (101, (.aload_n 0, 1, .null, 0, 0)),
  (102, (.invokevirtual 63, 3, .ref 189, 0, 0)),
  (105, (.return_, 1, .null, 0, 0))]
set_option maxRecDepth 100000 in
theorem ckS_init : ab_ckM mS_init kS_init = true := by decide +kernel
set_option maxRecDepth 100000 in
theorem wS_init : ab_MW mS_init 2 1 := ab_mw_ok (i1 := 60) (i2 := 75) (i3 := 0) (by decide +kernel) (ab_t1 (List.mem_of_getElem? (i := 17) rfl))
abbrev mS_receive : ab_Mt := (⟨"BusServo", "receive", "(IIJ)I"⟩, prog_1_method_2_code, 5, (some .int))
def kS_receive : ab_Cd := [
  (0, (.iload_n 1, 1, .null, 0, 0)),
  (1, (.ifCond .lt 20, 3, .null, 0, 21)),
  (4, (.iload_n 1, 1, .null, 0, 0)),
  (5, (.sipush 2047, 3, .int 2047, 0, 0)),
  (8, (.if_icmp .gt 13, 3, .null, 0, 21)),
  (11, (.iload_n 2, 1, .null, 0, 0)),
  (12, (.ifCond .lt 9, 3, .null, 0, 21)),
  (15, (.iload_n 2, 1, .null, 0, 0)),
  (16, (.bipush 8, 2, .int 8, 0, 0)),
  (18, (.if_icmp .le 5, 3, .null, 0, 23)),
  (21, (.iconst (-1), 1, .int (-1), 0, 0)),
  (22, (.ireturn, 1, .null, 0, 0)),
  (23, (.aload_n 0, 1, .null, 0, 0)),
  (24, (.getfield 22, 3, .ref 241, 0, 2)),
  (27, (.invokevirtual 66, 3, .ref 274, 0, 0)),
  (30, (.ifCond .ne 5, 3, .null, 0, 35)),
  (33, (.iconst 0, 1, .int 0, 0, 0)),
  (34, (.ireturn, 1, .null, 0, 0)),
  (35, (.iload_n 1, 1, .null, 0, 0)),
  (36, (.ifCond .ne 10, 3, .null, 0, 46)),
  (39, (.aload_n 0, 1, .null, 0, 0)),
  (40, (.iload_n 2, 1, .null, 0, 0)),
  (41, (.lload_n 3, 1, .null, 0, 0)),
  (42, (.invokevirtual 70, 3, .ref 278, 0, 0)),
  (45, (.ireturn, 1, .null, 0, 0)),
  (46, (.iload_n 1, 1, .null, 0, 0)),
  (47, (.sipush 128, 3, .int 128, 0, 0)),
  (50, (.if_icmp .ne 8, 3, .null, 0, 58)),
  (53, (.aload_n 0, 1, .null, 0, 0)),
  (54, (.invokevirtual 74, 3, .ref 290, 0, 0)),
  (57, (.ireturn, 1, .null, 0, 0)),
  (58, (.iload_n 1, 1, .null, 0, 0)),
  (59, (.sipush 512, 3, .int 512, 0, 0)),
  (62, (.aload_n 0, 1, .null, 0, 0)),
  (63, (.getfield 9, 3, .ref 239, 0, 0)),
  (66, (.iadd, 1, .null, 0, 0)),
  (67, (.if_icmp .ne 10, 3, .null, 0, 77)),
  (70, (.aload_n 0, 1, .null, 0, 0)),
  (71, (.iload_n 2, 1, .null, 0, 0)),
  (72, (.lload_n 3, 1, .null, 0, 0)),
  (73, (.invokevirtual 78, 3, .ref 351, 0, 0)),
  (76, (.ireturn, 1, .null, 0, 0)),
  (77, (.iload_n 1, 1, .null, 0, 0)),
  (78, (.sipush 1536, 3, .int 1536, 0, 0)),
  (81, (.aload_n 0, 1, .null, 0, 0)),
  (82, (.getfield 9, 3, .ref 239, 0, 0)),
  (85, (.iadd, 1, .null, 0, 0)),
  (86, (.if_icmp .ne 10, 3, .null, 0, 96)),
  (89, (.aload_n 0, 1, .null, 0, 0)),
  (90, (.iload_n 2, 1, .null, 0, 0)),
  (91, (.lload_n 3, 1, .null, 0, 0)),
  (92, (.invokevirtual 81, 3, .ref 373, 0, 0)),
  (95, (.ireturn, 1, .null, 0, 0)),
  (96, (.aload_n 0, 1, .null, 0, 0)),
  (97, (.iload_n 1, 1, .null, 0, 0)),
  (98, (.sipush 1792, 3, .int 1792, 0, 0)),
  (101, (.isub, 1, .null, 0, 0)),
  (102, (.iload_n 2, 1, .null, 0, 0)),
  (103, (.invokevirtual 84, 3, .ref 472, 0, 0)),
  (106, (.ireturn, 1, .null, 0, 0))]
set_option maxRecDepth 100000 in
theorem ckS_receive : ab_ckM mS_receive kS_receive = true := by decide +kernel
set_option maxRecDepth 100000 in
theorem wS_receive : ab_MW mS_receive 1 3 := ab_mw_ok (i1 := 60) (i2 := 271) (i3 := 272) (by decide +kernel) (ab_t1 (List.mem_of_getElem? (i := 214) rfl))
abbrev mS_tick : ab_Mt := (⟨"BusServo", "tick", "(I)Z"⟩, prog_1_method_3_code, 2, (some .boolean))
def kS_tick : ab_Cd := [
  (0, (.iload_n 1, 1, .null, 0, 0)),
  (1, (.ldc 88, 2, .int (-1000000), 0, 488)),
  (3, (.if_icmp .lt 9, 3, .null, 0, 12)),
  (6, (.iload_n 1, 1, .null, 0, 0)),
  (7, (.ldc 89, 2, .int 1000000, 0, 489)),
  (9, (.if_icmp .le 5, 3, .null, 0, 14)),
  (12, (.iconst 0, 1, .int 0, 0, 0)),
  (13, (.ireturn, 1, .null, 0, 0)),
  (14, (.aload_n 0, 1, .null, 0, 0)),
  (15, (.iload_n 1, 1, .null, 0, 0)),
  (16, (.invokevirtual 90, 3, .ref 490, 0, 0)),
  (19, (.iconst 1, 1, .int 1, 0, 0)),
  (20, (.ireturn, 1, .null, 0, 0))]
set_option maxRecDepth 100000 in
theorem ckS_tick : ab_ckM mS_tick kS_tick = true := by decide +kernel
set_option maxRecDepth 100000 in
theorem wS_tick : ab_MW mS_tick 1 1 := ab_mw_ok (i1 := 60) (i2 := 485) (i3 := 486) (by decide +kernel) (ab_t2 (List.mem_of_getElem? (i := 188) rfl))
abbrev mS_run : ab_Mt := (⟨"BusServo", "run", "(I)I"⟩, prog_1_method_4_code, 4, (some .int))
def kS_run : ab_Cd := [
  (0, (.iload_n 1, 1, .null, 0, 0)),
  (1, (.ifCond .lt 9, 3, .null, 0, 10)),
  (4, (.iload_n 1, 1, .null, 0, 0)),
  (5, (.bipush 100, 2, .int 100, 0, 0)),
  (7, (.if_icmp .le 5, 3, .null, 0, 12)),
  (10, (.iconst (-1), 1, .int (-1), 0, 0)),
  (11, (.ireturn, 1, .null, 0, 0)),
  (12, (.iconst 0, 1, .int 0, 0, 0)),
  (13, (.istore_n 2, 1, .null, 0, 0)),
  (14, (.iconst 0, 1, .int 0, 0, 0)),
  (15, (.istore_n 3, 1, .null, 0, 0)),
  (16, (.iload_n 3, 1, .null, 0, 0)),
  (17, (.iload_n 1, 1, .null, 0, 0)),
  (18, (.if_icmp .ge 33, 3, .null, 0, 51)),
  (21, (.aload_n 0, 1, .null, 0, 0)),
  (22, (.aload_n 0, 1, .null, 0, 0)),
  (23, (.getfield 45, 3, .ref 244, 0, 5)),
  (26, (.invokevirtual 94, 3, .ref 522, 0, 0)),
  (29, (.invokevirtual 90, 3, .ref 490, 0, 0)),
  (32, (.aload_n 0, 1, .null, 0, 0)),
  (33, (.getfield 36, 3, .ref 243, 0, 4)),
  (36, (.invokevirtual 97, 3, .ref 424, 0, 0)),
  (39, (.ifCond .eq 6, 3, .null, 0, 45)),
  (42, (.iinc 2 1, 3, .int 1, 0, 0)),
  (45, (.iinc 3 1, 3, .int 1, 0, 0)),
  (48, (.goto (-32), 3, .null, 0, 16)),
  (51, (.iload_n 2, 1, .null, 0, 0)),
  (52, (.ireturn, 1, .null, 0, 0))]
set_option maxRecDepth 100000 in
theorem ckS_run : ab_ckM mS_run kS_run = true := by decide +kernel
set_option maxRecDepth 100000 in
theorem wS_run : ab_MW mS_run 1 1 := ab_mw_ok (i1 := 60) (i2 := 606) (i3 := 607) (by decide +kernel) (ab_t3 (List.mem_of_getElem? (i := 69) rfl))
abbrev mS_bus : ab_Mt := (⟨"BusServo", "bus", "(Z)V"⟩, prog_1_method_5_code, 2, none)
def kS_bus : ab_Cd := [
  (0, (.iload_n 1, 1, .null, 0, 0)),
  (1, (.aload_n 0, 1, .null, 0, 0)),
  (2, (.getfield 22, 3, .ref 241, 0, 2)),
  (5, (.invokevirtual 66, 3, .ref 274, 0, 0)),
  (8, (.if_icmp .ne 4, 3, .null, 0, 12)),
  (11, (.return_, 1, .null, 0, 0)),
  (12, (.aload_n 0, 1, .null, 0, 0)),
  (13, (.getfield 22, 3, .ref 241, 0, 2)),
  (16, (.iload_n 1, 1, .null, 0, 0)),
  (17, (.invokevirtual 100, 3, .ref 227, 0, 0)),
  (20, (.iload_n 1, 1, .null, 0, 0)),
  (21, (.ifCond .ne 16, 3, .null, 0, 37)),
  (24, (.aload_n 0, 1, .null, 0, 0)),
  (25, (.getfield 22, 3, .ref 241, 0, 2)),
  (28, (.invokevirtual 104, 3, .ref 231, 0, 0)),
  (31, (.aload_n 0, 1, .null, 0, 0)),
  (32, (.ldc 107, 2, .int 33088, 0, 613)),
  (34, (.invokevirtual 108, 3, .ref 508, 0, 0)),
  (37, (.return_, 1, .null, 0, 0))]
set_option maxRecDepth 100000 in
theorem ckS_bus : ab_ckM mS_bus kS_bus = true := by decide +kernel
set_option maxRecDepth 100000 in
theorem wS_bus : ab_MW mS_bus 1 1 := ab_mw_ok (i1 := 60) (i2 := 610) (i3 := 611) (by decide +kernel) (ab_t3 (List.mem_of_getElem? (i := 73) rfl))
abbrev mS_restart : ab_Mt := (⟨"BusServo", "restart", "()V"⟩, prog_1_method_6_code, 1, none)
def kS_restart : ab_Cd := [
  (0, (.aload_n 0, 1, .null, 0, 0)),
  (1, (.invokevirtual 63, 3, .ref 189, 0, 0)),
  (4, (.return_, 1, .null, 0, 0))]
set_option maxRecDepth 100000 in
theorem ckS_restart : ab_ckM mS_restart kS_restart = true := by decide +kernel
set_option maxRecDepth 100000 in
theorem wS_restart : ab_MW mS_restart 1 0 := ab_mw_ok (i1 := 60) (i2 := 615) (i3 := 616) (by decide +kernel) (ab_t3 (List.mem_of_getElem? (i := 78) rfl))
abbrev mS_nextIdentifier : ab_Mt := (⟨"BusServo", "nextIdentifier", "()I"⟩, prog_1_method_7_code, 1, (some .int))
def kS_nextIdentifier : ab_Cd := [
  (0, (.aload_n 0, 1, .null, 0, 0)),
  (1, (.getfield 22, 3, .ref 241, 0, 2)),
  (4, (.invokevirtual 111, 3, .ref 622, 0, 0)),
  (7, (.ireturn, 1, .null, 0, 0))]
set_option maxRecDepth 100000 in
theorem ckS_nextIdentifier : ab_ckM mS_nextIdentifier kS_nextIdentifier = true := by decide +kernel
set_option maxRecDepth 100000 in
theorem wS_nextIdentifier : ab_MW mS_nextIdentifier 1 0 := ab_mw_ok (i1 := 60) (i2 := 619) (i3 := 620) (by decide +kernel) (ab_t3 (List.mem_of_getElem? (i := 82) rfl))
abbrev mS_nextLength : ab_Mt := (⟨"BusServo", "nextLength", "()I"⟩, prog_1_method_8_code, 1, (some .int))
def kS_nextLength : ab_Cd := [
  (0, (.aload_n 0, 1, .null, 0, 0)),
  (1, (.getfield 22, 3, .ref 241, 0, 2)),
  (4, (.invokevirtual 114, 3, .ref 630, 0, 0)),
  (7, (.ireturn, 1, .null, 0, 0))]
set_option maxRecDepth 100000 in
theorem ckS_nextLength : ab_ckM mS_nextLength kS_nextLength = true := by decide +kernel
set_option maxRecDepth 100000 in
theorem wS_nextLength : ab_MW mS_nextLength 1 0 := ab_mw_ok (i1 := 60) (i2 := 627) (i3 := 628) (by decide +kernel) (ab_t3 (List.mem_of_getElem? (i := 90) rfl))
abbrev mS_nextData : ab_Mt := (⟨"BusServo", "nextData", "()J"⟩, prog_1_method_9_code, 1, (some .long))
def kS_nextData : ab_Cd := [
  (0, (.aload_n 0, 1, .null, 0, 0)),
  (1, (.getfield 22, 3, .ref 241, 0, 2)),
  (4, (.invokevirtual 117, 3, .ref 638, 0, 0)),
  (7, (.lreturn, 1, .null, 0, 0))]
set_option maxRecDepth 100000 in
theorem ckS_nextData : ab_ckM mS_nextData kS_nextData = true := by decide +kernel
set_option maxRecDepth 100000 in
theorem wS_nextData : ab_MW mS_nextData 1 0 := ab_mw_ok (i1 := 60) (i2 := 635) (i3 := 636) (by decide +kernel) (ab_t3 (List.mem_of_getElem? (i := 98) rfl))
abbrev mS_take : ab_Mt := (⟨"BusServo", "take", "()Z"⟩, prog_1_method_10_code, 1, (some .boolean))
def kS_take : ab_Cd := [
  (0, (.aload_n 0, 1, .null, 0, 0)),
  (1, (.getfield 22, 3, .ref 241, 0, 2)),
  (4, (.invokevirtual 121, 3, .ref 646, 0, 0)),
  (7, (.ireturn, 1, .null, 0, 0))]
set_option maxRecDepth 100000 in
theorem ckS_take : ab_ckM mS_take kS_take = true := by decide +kernel
set_option maxRecDepth 100000 in
theorem wS_take : ab_MW mS_take 1 0 := ab_mw_ok (i1 := 60) (i2 := 643) (i3 := 644) (by decide +kernel) (ab_t3 (List.mem_of_getElem? (i := 106) rfl))
abbrev mS_waiting : ab_Mt := (⟨"BusServo", "waiting", "()I"⟩, prog_1_method_11_code, 1, (some .int))
def kS_waiting : ab_Cd := [
  (0, (.aload_n 0, 1, .null, 0, 0)),
  (1, (.getfield 22, 3, .ref 241, 0, 2)),
  (4, (.invokevirtual 124, 3, .ref 654, 0, 0)),
  (7, (.ireturn, 1, .null, 0, 0))]
set_option maxRecDepth 100000 in
theorem ckS_waiting : ab_ckM mS_waiting kS_waiting = true := by decide +kernel
set_option maxRecDepth 100000 in
theorem wS_waiting : ab_MW mS_waiting 1 0 := ab_mw_ok (i1 := 60) (i2 := 651) (i3 := 652) (by decide +kernel) (ab_t3 (List.mem_of_getElem? (i := 114) rfl))
abbrev mS_lost : ab_Mt := (⟨"BusServo", "lost", "()I"⟩, prog_1_method_12_code, 1, (some .int))
def kS_lost : ab_Cd := [
  (0, (.aload_n 0, 1, .null, 0, 0)),
  (1, (.getfield 22, 3, .ref 241, 0, 2)),
  (4, (.invokevirtual 127, 3, .ref 662, 0, 0)),
  (7, (.ireturn, 1, .null, 0, 0))]
set_option maxRecDepth 100000 in
theorem ckS_lost : ab_ckM mS_lost kS_lost = true := by decide +kernel
set_option maxRecDepth 100000 in
theorem wS_lost : ab_MW mS_lost 1 0 := ab_mw_ok (i1 := 60) (i2 := 659) (i3 := 660) (by decide +kernel) (ab_t3 (List.mem_of_getElem? (i := 122) rfl))
abbrev mS_object : ab_Mt := (⟨"BusServo", "object", "(II)I"⟩, prog_1_method_13_code, 4, (some .int))
def kS_object : ab_Cd := [
  (0, (.iload_n 1, 1, .null, 0, 0)),
  (1, (.iload_n 2, 1, .null, 0, 0)),
  (2, (.invokestatic 130, 3, .ref 378, 0, 0)),
  (5, (.istore_n 3, 1, .null, 0, 0)),
  (6, (.iload_n 3, 1, .null, 0, 0)),
  (7, (.iconst (-1), 1, .int (-1), 0, 0)),
  (8, (.if_icmp .eq 11, 3, .null, 0, 19)),
  (11, (.iload_n 3, 1, .null, 0, 0)),
  (12, (.invokestatic 133, 3, .ref 400, 0, 0)),
  (15, (.iconst 1, 1, .int 1, 0, 0)),
  (16, (.if_icmp .ne 5, 3, .null, 0, 21)),
  (19, (.iconst 0, 1, .int 0, 0, 0)),
  (20, (.ireturn, 1, .null, 0, 0)),
  (21, (.aload_n 0, 1, .null, 0, 0)),
  (22, (.invokevirtual 137, 3, .ref 298, 0, 0)),
  (25, (.aload_n 0, 1, .null, 0, 0)),
  (26, (.getfield 15, 3, .ref 240, 0, 1)),
  (29, (.iload_n 3, 1, .null, 0, 0)),
  (30, (.iaload, 1, .null, 0, 0)),
  (31, (.ireturn, 1, .null, 0, 0))]
set_option maxRecDepth 100000 in
theorem ckS_object : ab_ckM mS_object kS_object = true := by decide +kernel
set_option maxRecDepth 100000 in
theorem wS_object : ab_MW mS_object 1 2 := ab_mw_ok (i1 := 60) (i2 := 667) (i3 := 668) (by decide +kernel) (ab_t3 (List.mem_of_getElem? (i := 130) rfl))
abbrev mS_network : ab_Mt := (⟨"BusServo", "network", "()I"⟩, prog_1_method_14_code, 1, (some .int))
def kS_network : ab_Cd := [
  (0, (.aload_n 0, 1, .null, 0, 0)),
  (1, (.getfield 140, 3, .ref 247, 0, 8)),
  (4, (.ireturn, 1, .null, 0, 0))]
set_option maxRecDepth 100000 in
theorem ckS_network : ab_ckM mS_network kS_network = true := by decide +kernel
set_option maxRecDepth 100000 in
theorem wS_network : ab_MW mS_network 1 0 := ab_mw_ok (i1 := 60) (i2 := 671) (i3 := 672) (by decide +kernel) (ab_t3 (List.mem_of_getElem? (i := 134) rfl))
abbrev mS_power : ab_Mt := (⟨"BusServo", "power", "()I"⟩, prog_1_method_15_code, 1, (some .int))
def kS_power : ab_Cd := [
  (0, (.aload_n 0, 1, .null, 0, 0)),
  (1, (.getfield 36, 3, .ref 243, 0, 4)),
  (4, (.invokevirtual 143, 3, .ref 678, 0, 0)),
  (7, (.ireturn, 1, .null, 0, 0))]
set_option maxRecDepth 100000 in
theorem ckS_power : ab_ckM mS_power kS_power = true := by decide +kernel
set_option maxRecDepth 100000 in
theorem wS_power : ab_MW mS_power 1 0 := ab_mw_ok (i1 := 60) (i2 := 675) (i3 := 676) (by decide +kernel) (ab_t3 (List.mem_of_getElem? (i := 138) rfl))
abbrev mS_speed : ab_Mt := (⟨"BusServo", "speed", "()I"⟩, prog_1_method_16_code, 1, (some .int))
def kS_speed : ab_Cd := [
  (0, (.aload_n 0, 1, .null, 0, 0)),
  (1, (.getfield 15, 3, .ref 240, 0, 1)),
  (4, (.bipush 21, 2, .int 21, 0, 0)),
  (6, (.iaload, 1, .null, 1, 0)),
  (7, (.ireturn, 1, .null, 0, 0))]
set_option maxRecDepth 100000 in
theorem ckS_speed : ab_ckM mS_speed kS_speed = true := by decide +kernel
set_option maxRecDepth 100000 in
theorem wS_speed : ab_MW mS_speed 1 0 := ab_mw_ok (i1 := 60) (i2 := 683) (i3 := 684) (by decide +kernel) (ab_t3 (List.mem_of_getElem? (i := 146) rfl))
abbrev mS_position : ab_Mt := (⟨"BusServo", "position", "()I"⟩, prog_1_method_17_code, 1, (some .int))
def kS_position : ab_Cd := [
  (0, (.aload_n 0, 1, .null, 0, 0)),
  (1, (.getfield 45, 3, .ref 244, 0, 5)),
  (4, (.invokevirtual 94, 3, .ref 522, 0, 0)),
  (7, (.ireturn, 1, .null, 0, 0))]
set_option maxRecDepth 100000 in
theorem ckS_position : ab_ckM mS_position kS_position = true := by decide +kernel
set_option maxRecDepth 100000 in
theorem wS_position : ab_MW mS_position 1 0 := ab_mw_ok (i1 := 60) (i2 := 687) (i3 := 688) (by decide +kernel) (ab_t3 (List.mem_of_getElem? (i := 150) rfl))
abbrev mS_word : ab_Mt := (⟨"BusServo", "word", "(II)I"⟩, prog_1_method_18_code, 3, (some .int))
def kS_word : ab_Cd := [
  (0, (.aload_n 0, 1, .null, 0, 0)),
  (1, (.getfield 29, 3, .ref 242, 0, 3)),
  (4, (.iload_n 1, 1, .null, 0, 0)),
  (5, (.iload_n 2, 1, .null, 0, 0)),
  (6, (.invokevirtual 146, 3, .ref 694, 0, 0)),
  (9, (.ireturn, 1, .null, 0, 0))]
set_option maxRecDepth 100000 in
theorem ckS_word : ab_ckM mS_word kS_word = true := by decide +kernel
set_option maxRecDepth 100000 in
theorem wS_word : ab_MW mS_word 1 2 := ab_mw_ok (i1 := 60) (i2 := 691) (i3 := 692) (by decide +kernel) (ab_t3 (List.mem_of_getElem? (i := 154) rfl))
abbrev mS_comeUp : ab_Mt := (⟨"BusServo", "comeUp", "()V"⟩, prog_1_method_19_code, 2, none)
def kS_comeUp : ab_Cd := [
  (0, (.aload_n 0, 1, .null, 0, 0)),
  (1, (.getfield 15, 3, .ref 240, 0, 1)),
  (4, (.bipush 19, 2, .int 19, 0, 0)),
  (6, (.iaload, 1, .null, 1, 0)),
  (7, (.istore_n 1, 1, .null, 0, 0)),
  (8, (.aload_n 0, 1, .null, 0, 0)),
  (9, (.getfield 29, 3, .ref 242, 0, 3)),
  (12, (.invokevirtual 149, 3, .ref 193, 0, 0)),
  (15, (.aload_n 0, 1, .null, 0, 0)),
  (16, (.getfield 29, 3, .ref 242, 0, 3)),
  (19, (.aload_n 0, 1, .null, 0, 0)),
  (20, (.getfield 15, 3, .ref 240, 0, 1)),
  (23, (.invokevirtual 152, 3, .ref 197, 0, 0)),
  (26, (.aload_n 0, 1, .null, 0, 0)),
  (27, (.getfield 15, 3, .ref 240, 0, 1)),
  (30, (.bipush 19, 2, .int 19, 0, 0)),
  (32, (.iload_n 1, 1, .null, 0, 0)),
  (33, (.iastore, 1, .null, 1, 0)),
  (34, (.aload_n 0, 1, .null, 0, 0)),
  (35, (.getfield 45, 3, .ref 244, 0, 5)),
  (38, (.iload_n 1, 1, .null, 0, 0)),
  (39, (.invokevirtual 155, 3, .ref 211, 0, 0)),
  (42, (.aload_n 0, 1, .null, 0, 0)),
  (43, (.getfield 36, 3, .ref 243, 0, 4)),
  (46, (.invokevirtual 158, 3, .ref 215, 0, 0)),
  (49, (.aload_n 0, 1, .null, 0, 0)),
  (50, (.getfield 52, 3, .ref 245, 0, 6)),
  (53, (.invokevirtual 159, 3, .ref 219, 0, 0)),
  (56, (.aload_n 0, 1, .null, 0, 0)),
  (57, (.getfield 59, 3, .ref 246, 0, 7)),
  (60, (.invokevirtual 162, 3, .ref 223, 0, 0)),
  (63, (.aload_n 0, 1, .null, 0, 0)),
  (64, (.bipush 127, 2, .int 127, 0, 0)),
  (66, (.putfield 140, 3, .ref 247, 0, 8)),
  (69, (.aload_n 0, 1, .null, 0, 0)),
  (70, (.iconst 0, 1, .int 0, 0, 0)),
  (71, (.putfield 165, 3, .ref 248, 0, 9)),
  (74, (.aload_n 0, 1, .null, 0, 0)),
  (75, (.getfield 22, 3, .ref 241, 0, 2)),
  (78, (.iconst 1, 1, .int 1, 0, 0)),
  (79, (.invokevirtual 100, 3, .ref 227, 0, 0)),
  (82, (.aload_n 0, 1, .null, 0, 0)),
  (83, (.getfield 22, 3, .ref 241, 0, 2)),
  (86, (.invokevirtual 104, 3, .ref 231, 0, 0)),
  (89, (.aload_n 0, 1, .null, 0, 0)),
  (90, (.getfield 22, 3, .ref 241, 0, 2)),
  (93, (.sipush 1792, 3, .int 1792, 0, 0)),
  (96, (.aload_n 0, 1, .null, 0, 0)),
  (97, (.getfield 9, 3, .ref 239, 0, 0)),
  (100, (.iadd, 1, .null, 0, 0)),
  (101, (.iconst 1, 1, .int 1, 0, 0)),
  (102, (.lconst 0, 1, .long 0, 0, 0)),
  (103, (.invokevirtual 168, 3, .ref 235, 0, 0)),
  (106, (.return_, 1, .null, 0, 0))]
set_option maxRecDepth 100000 in
theorem ckS_comeUp : ab_ckM mS_comeUp kS_comeUp = true := by decide +kernel
set_option maxRecDepth 100000 in
theorem wS_comeUp : ab_MW mS_comeUp 1 0 := ab_mw_ok (i1 := 60) (i2 := 191) (i3 := 0) (by decide +kernel) (ab_t1 (List.mem_of_getElem? (i := 133) rfl))
abbrev mS_acceptNetwork : ab_Mt := (⟨"BusServo", "acceptNetwork", "(IJ)I"⟩, prog_1_method_20_code, 5, (some .int))
def kS_acceptNetwork : ab_Cd := [
  (0, (.lload_n 2, 1, .null, 0, 0)),
  (1, (.bipush 8, 2, .int 8, 0, 0)),
  (3, (.lushr, 1, .null, 0, 0)),
  (4, (.l2i, 1, .null, 0, 0)),
  (5, (.sipush 255, 3, .int 255, 0, 0)),
  (8, (.iand, 1, .null, 0, 0)),
  (9, (.istore 4, 2, .null, 0, 0)),
  (11, (.iload_n 1, 1, .null, 0, 0)),
  (12, (.iconst 2, 1, .int 2, 0, 0)),
  (13, (.if_icmp .ne 17, 3, .null, 0, 30)),
  (16, (.iload 4, 2, .null, 0, 0)),
  (18, (.ifCond .eq 14, 3, .null, 0, 32)),
  (21, (.iload 4, 2, .null, 0, 0)),
  (23, (.aload_n 0, 1, .null, 0, 0)),
  (24, (.getfield 9, 3, .ref 239, 0, 0)),
  (27, (.if_icmp .eq 5, 3, .null, 0, 32)),
  (30, (.iconst 0, 1, .int 0, 0, 0)),
  (31, (.ireturn, 1, .null, 0, 0)),
  (32, (.lload_n 2, 1, .null, 0, 0)),
  (33, (.l2i, 1, .null, 0, 0)),
  (34, (.sipush 255, 3, .int 255, 0, 0)),
  (37, (.iand, 1, .null, 0, 0)),
  (38, (.lookupswitch 69 #[(1, 42), (2, 48), (128, 55), (129, 63)], 42, .null, 0, 0)),
  (80, (.aload_n 0, 1, .null, 0, 0)),
  (81, (.invokevirtual 172, 3, .ref 282, 0, 0)),
  (84, (.iconst 1, 1, .int 1, 0, 0)),
  (85, (.ireturn, 1, .null, 0, 0)),
  (86, (.aload_n 0, 1, .null, 0, 0)),
  (87, (.iconst 4, 1, .int 4, 0, 0)),
  (88, (.putfield 140, 3, .ref 247, 0, 8)),
  (91, (.iconst 1, 1, .int 1, 0, 0)),
  (92, (.ireturn, 1, .null, 0, 0)),
  (93, (.aload_n 0, 1, .null, 0, 0)),
  (94, (.bipush 127, 2, .int 127, 0, 0)),
  (96, (.putfield 140, 3, .ref 247, 0, 8)),
  (99, (.iconst 1, 1, .int 1, 0, 0)),
  (100, (.ireturn, 1, .null, 0, 0)),
  (101, (.aload_n 0, 1, .null, 0, 0)),
  (102, (.invokevirtual 63, 3, .ref 189, 0, 0)),
  (105, (.iconst 1, 1, .int 1, 0, 0)),
  (106, (.ireturn, 1, .null, 0, 0)),
  (107, (.iconst 0, 1, .int 0, 0, 0)),
  (108, (.ireturn, 1, .null, 0, 0))]
set_option maxRecDepth 100000 in
theorem ckS_acceptNetwork : ab_ckM mS_acceptNetwork kS_acceptNetwork = true := by decide +kernel
set_option maxRecDepth 100000 in
theorem wS_acceptNetwork : ab_MW mS_acceptNetwork 1 2 := ab_mw_ok (i1 := 60) (i2 := 280) (i3 := 1) (by decide +kernel) (ab_t1 (List.mem_of_getElem? (i := 222) rfl))
abbrev mS_enterOperating : ab_Mt := (⟨"BusServo", "enterOperating", "()V"⟩, prog_1_method_21_code, 1, none)
def kS_enterOperating : ab_Cd := [
  (0, (.aload_n 0, 1, .null, 0, 0)),
  (1, (.getfield 140, 3, .ref 247, 0, 8)),
  (4, (.iconst 5, 1, .int 5, 0, 0)),
  (5, (.if_icmp .eq 15, 3, .null, 0, 20)),
  (8, (.aload_n 0, 1, .null, 0, 0)),
  (9, (.iconst 5, 1, .int 5, 0, 0)),
  (10, (.putfield 140, 3, .ref 247, 0, 8)),
  (13, (.aload_n 0, 1, .null, 0, 0)),
  (14, (.getfield 59, 3, .ref 246, 0, 7)),
  (17, (.invokevirtual 175, 3, .ref 286, 0, 0)),
  (20, (.return_, 1, .null, 0, 0))]
set_option maxRecDepth 100000 in
theorem ckS_enterOperating : ab_ckM mS_enterOperating kS_enterOperating = true := by decide +kernel
set_option maxRecDepth 100000 in
theorem wS_enterOperating : ab_MW mS_enterOperating 1 0 := ab_mw_ok (i1 := 60) (i2 := 284) (i3 := 2) (by decide +kernel) (ab_t1 (List.mem_of_getElem? (i := 226) rfl))
abbrev mS_acceptSync : ab_Mt := (⟨"BusServo", "acceptSync", "()I"⟩, prog_1_method_22_code, 2, (some .int))
def kS_acceptSync : ab_Cd := [
  (0, (.aload_n 0, 1, .null, 0, 0)),
  (1, (.getfield 140, 3, .ref 247, 0, 8)),
  (4, (.iconst 5, 1, .int 5, 0, 0)),
  (5, (.if_icmp .eq 5, 3, .null, 0, 10)),
  (8, (.iconst 0, 1, .int 0, 0, 0)),
  (9, (.ireturn, 1, .null, 0, 0)),
  (10, (.aload_n 0, 1, .null, 0, 0)),
  (11, (.getfield 15, 3, .ref 240, 0, 1)),
  (14, (.bipush 9, 2, .int 9, 0, 0)),
  (16, (.iaload, 1, .null, 1, 0)),
  (17, (.istore_n 1, 1, .null, 0, 0)),
  (18, (.iload_n 1, 1, .null, 0, 0)),
  (19, (.iconst 1, 1, .int 1, 0, 0)),
  (20, (.if_icmp .lt 55, 3, .null, 0, 75)),
  (23, (.iload_n 1, 1, .null, 0, 0)),
  (24, (.sipush 240, 3, .int 240, 0, 0)),
  (27, (.if_icmp .gt 48, 3, .null, 0, 75)),
  (30, (.aload_n 0, 1, .null, 0, 0)),
  (31, (.getfield 59, 3, .ref 246, 0, 7)),
  (34, (.iload_n 1, 1, .null, 0, 0)),
  (35, (.invokevirtual 178, 3, .ref 294, 0, 0)),
  (38, (.ifCond .eq 37, 3, .null, 0, 75)),
  (41, (.aload_n 0, 1, .null, 0, 0)),
  (42, (.getfield 15, 3, .ref 240, 0, 1)),
  (45, (.bipush 12, 2, .int 12, 0, 0)),
  (47, (.iaload, 1, .null, 1, 0)),
  (48, (.ifCond .le 27, 3, .null, 0, 75)),
  (51, (.aload_n 0, 1, .null, 0, 0)),
  (52, (.invokevirtual 137, 3, .ref 298, 0, 0)),
  (55, (.aload_n 0, 1, .null, 0, 0)),
  (56, (.aload_n 0, 1, .null, 0, 0)),
  (57, (.getfield 15, 3, .ref 240, 0, 1)),
  (60, (.invokestatic 182, 3, .ref 326, 0, 0)),
  (63, (.aload_n 0, 1, .null, 0, 0)),
  (64, (.getfield 15, 3, .ref 240, 0, 1)),
  (67, (.bipush 12, 2, .int 12, 0, 0)),
  (69, (.invokestatic 188, 3, .ref 340, 0, 0)),
  (72, (.invokevirtual 192, 3, .ref 343, 0, 0)),
  (75, (.iconst 2, 1, .int 2, 0, 0)),
  (76, (.ireturn, 1, .null, 0, 0))]
set_option maxRecDepth 100000 in
theorem ckS_acceptSync : ab_ckM mS_acceptSync kS_acceptSync = true := by decide +kernel
set_option maxRecDepth 100000 in
theorem wS_acceptSync : ab_MW mS_acceptSync 1 0 := ab_mw_ok (i1 := 60) (i2 := 292) (i3 := 3) (by decide +kernel) (ab_t1 (List.mem_of_getElem? (i := 234) rfl))
abbrev mS_acceptIn : ab_Mt := (⟨"BusServo", "acceptIn", "(IJ)I"⟩, prog_1_method_23_code, 4, (some .int))
def kS_acceptIn : ab_Cd := [
  (0, (.aload_n 0, 1, .null, 0, 0)),
  (1, (.getfield 140, 3, .ref 247, 0, 8)),
  (4, (.iconst 5, 1, .int 5, 0, 0)),
  (5, (.if_icmp .ne 24, 3, .null, 0, 29)),
  (8, (.aload_n 0, 1, .null, 0, 0)),
  (9, (.getfield 15, 3, .ref 240, 0, 1)),
  (12, (.iconst 5, 1, .int 5, 0, 0)),
  (13, (.iaload, 1, .null, 1, 0)),
  (14, (.ifCond .eq 15, 3, .null, 0, 29)),
  (17, (.iload_n 1, 1, .null, 0, 0)),
  (18, (.aload_n 0, 1, .null, 0, 0)),
  (19, (.getfield 15, 3, .ref 240, 0, 1)),
  (22, (.iconst 5, 1, .int 5, 0, 0)),
  (23, (.invokestatic 188, 3, .ref 340, 0, 0)),
  (26, (.if_icmp .ge 5, 3, .null, 0, 31)),
  (29, (.iconst 0, 1, .int 0, 0, 0)),
  (30, (.ireturn, 1, .null, 0, 0)),
  (31, (.aload_n 0, 1, .null, 0, 0)),
  (32, (.getfield 15, 3, .ref 240, 0, 1)),
  (35, (.lload_n 2, 1, .null, 0, 0)),
  (36, (.invokestatic 196, 3, .ref 355, 0, 0)),
  (39, (.iconst 3, 1, .int 3, 0, 0)),
  (40, (.ireturn, 1, .null, 0, 0))]
set_option maxRecDepth 100000 in
theorem ckS_acceptIn : ab_ckM mS_acceptIn kS_acceptIn = true := by decide +kernel
set_option maxRecDepth 100000 in
theorem wS_acceptIn : ab_MW mS_acceptIn 1 2 := ab_mw_ok (i1 := 60) (i2 := 353) (i3 := 7) (by decide +kernel) (ab_t2 (List.mem_of_getElem? (i := 55) rfl))
abbrev mS_acceptHeartbeat : ab_Mt := (⟨"BusServo", "acceptHeartbeat", "(II)I"⟩, prog_1_method_24_code, 4, (some .int))
def kS_acceptHeartbeat : ab_Cd := [
  (0, (.aload_n 0, 1, .null, 0, 0)),
  (1, (.getfield 15, 3, .ref 240, 0, 1)),
  (4, (.iconst 3, 1, .int 3, 0, 0)),
  (5, (.iaload, 1, .null, 1, 0)),
  (6, (.bipush 16, 2, .int 16, 0, 0)),
  (8, (.ishr, 1, .null, 0, 0)),
  (9, (.istore_n 3, 1, .null, 0, 0)),
  (10, (.iload_n 2, 1, .null, 0, 0)),
  (11, (.iconst 1, 1, .int 1, 0, 0)),
  (12, (.if_icmp .ne 20, 3, .null, 0, 32)),
  (15, (.iload_n 1, 1, .null, 0, 0)),
  (16, (.iconst 1, 1, .int 1, 0, 0)),
  (17, (.if_icmp .lt 15, 3, .null, 0, 32)),
  (20, (.iload_n 1, 1, .null, 0, 0)),
  (21, (.iload_n 3, 1, .null, 0, 0)),
  (22, (.if_icmp .ne 10, 3, .null, 0, 32)),
  (25, (.aload_n 0, 1, .null, 0, 0)),
  (26, (.invokevirtual 200, 3, .ref 476, 0, 0)),
  (29, (.ifCond .ne 5, 3, .null, 0, 34)),
  (32, (.iconst 0, 1, .int 0, 0, 0)),
  (33, (.ireturn, 1, .null, 0, 0)),
  (34, (.aload_n 0, 1, .null, 0, 0)),
  (35, (.getfield 52, 3, .ref 245, 0, 6)),
  (38, (.invokevirtual 203, 3, .ref 480, 0, 0)),
  (41, (.iconst 5, 1, .int 5, 0, 0)),
  (42, (.ireturn, 1, .null, 0, 0))]
set_option maxRecDepth 100000 in
theorem ckS_acceptHeartbeat : ab_ckM mS_acceptHeartbeat kS_acceptHeartbeat = true := by decide +kernel
set_option maxRecDepth 100000 in
theorem wS_acceptHeartbeat : ab_MW mS_acceptHeartbeat 1 2 := ab_mw_ok (i1 := 60) (i2 := 474) (i3 := 17) (by decide +kernel) (ab_t2 (List.mem_of_getElem? (i := 176) rfl))
abbrev mS_watchTime : ab_Mt := (⟨"BusServo", "watchTime", "()I"⟩, prog_1_method_25_code, 1, (some .int))
def kS_watchTime : ab_Cd := [
  (0, (.aload_n 0, 1, .null, 0, 0)),
  (1, (.getfield 15, 3, .ref 240, 0, 1)),
  (4, (.iconst 3, 1, .int 3, 0, 0)),
  (5, (.iaload, 1, .null, 1, 0)),
  (6, (.ldc 206, 2, .int 65535, 0, 377)),
  (8, (.iand, 1, .null, 0, 0)),
  (9, (.ireturn, 1, .null, 0, 0))]
set_option maxRecDepth 100000 in
theorem ckS_watchTime : ab_ckM mS_watchTime kS_watchTime = true := by decide +kernel
set_option maxRecDepth 100000 in
theorem wS_watchTime : ab_MW mS_watchTime 1 0 := ab_mw_ok (i1 := 60) (i2 := 478) (i3 := 18) (by decide +kernel) (ab_t2 (List.mem_of_getElem? (i := 180) rfl))
abbrev mS_acceptChannel : ab_Mt := (⟨"BusServo", "acceptChannel", "(IJ)I"⟩, prog_1_method_26_code, 9, (some .int))
def kS_acceptChannel : ab_Cd := [
  (0, (.iload_n 1, 1, .null, 0, 0)),
  (1, (.bipush 8, 2, .int 8, 0, 0)),
  (3, (.if_icmp .ne 11, 3, .null, 0, 14)),
  (6, (.aload_n 0, 1, .null, 0, 0)),
  (7, (.getfield 140, 3, .ref 247, 0, 8)),
  (10, (.iconst 4, 1, .int 4, 0, 0)),
  (11, (.if_icmp .ne 5, 3, .null, 0, 16)),
  (14, (.iconst 0, 1, .int 0, 0, 0)),
  (15, (.ireturn, 1, .null, 0, 0)),
  (16, (.lload_n 2, 1, .null, 0, 0)),
  (17, (.l2i, 1, .null, 0, 0)),
  (18, (.sipush 255, 3, .int 255, 0, 0)),
  (21, (.iand, 1, .null, 0, 0)),
  (22, (.istore 4, 2, .null, 0, 0)),
  (24, (.iload 4, 2, .null, 0, 0)),
  (26, (.sipush 128, 3, .int 128, 0, 0)),
  (29, (.if_icmp .ne 5, 3, .null, 0, 34)),
  (32, (.iconst 4, 1, .int 4, 0, 0)),
  (33, (.ireturn, 1, .null, 0, 0)),
  (34, (.lload_n 2, 1, .null, 0, 0)),
  (35, (.bipush 8, 2, .int 8, 0, 0)),
  (37, (.lushr, 1, .null, 0, 0)),
  (38, (.l2i, 1, .null, 0, 0)),
  (39, (.ldc 206, 2, .int 65535, 0, 377)),
  (41, (.iand, 1, .null, 0, 0)),
  (42, (.istore 5, 2, .null, 0, 0)),
  (44, (.lload_n 2, 1, .null, 0, 0)),
  (45, (.bipush 24, 2, .int 24, 0, 0)),
  (47, (.lushr, 1, .null, 0, 0)),
  (48, (.l2i, 1, .null, 0, 0)),
  (49, (.sipush 255, 3, .int 255, 0, 0)),
  (52, (.iand, 1, .null, 0, 0)),
  (53, (.istore 6, 2, .null, 0, 0)),
  (55, (.iload 5, 2, .null, 0, 0)),
  (57, (.iload 6, 2, .null, 0, 0)),
  (59, (.invokestatic 130, 3, .ref 378, 0, 0)),
  (62, (.istore 7, 2, .null, 0, 0)),
  (64, (.iload 4, 2, .null, 0, 0)),
  (66, (.iload 5, 2, .null, 0, 0)),
  (68, (.iload 7, 2, .null, 0, 0)),
  (70, (.invokestatic 209, 3, .ref 379, 0, 0)),
  (73, (.istore 8, 2, .null, 0, 0)),
  (75, (.iload 8, 2, .null, 0, 0)),
  (77, (.ifCond .ne 9, 3, .null, 0, 86)),
  (80, (.iload 7, 2, .null, 0, 0)),
  (82, (.iconst (-1), 1, .int (-1), 0, 0)),
  (83, (.if_icmp .ne 16, 3, .null, 0, 99)),
  (86, (.aload_n 0, 1, .null, 0, 0)),
  (87, (.lload_n 2, 1, .null, 0, 0)),
  (88, (.sipush 128, 3, .int 128, 0, 0)),
  (91, (.iload 8, 2, .null, 0, 0)),
  (93, (.invokevirtual 213, 3, .ref 391, 0, 0)),
  (96, (.goto 32, 3, .null, 0, 128)),
  (99, (.iload 4, 2, .null, 0, 0)),
  (101, (.bipush 64, 2, .int 64, 0, 0)),
  (103, (.if_icmp .ne 13, 3, .null, 0, 116)),
  (106, (.aload_n 0, 1, .null, 0, 0)),
  (107, (.lload_n 2, 1, .null, 0, 0)),
  (108, (.iload 7, 2, .null, 0, 0)),
  (110, (.invokevirtual 217, 3, .ref 396, 0, 0)),
  (113, (.goto 15, 3, .null, 0, 128)),
  (116, (.aload_n 0, 1, .null, 0, 0)),
  (117, (.lload_n 2, 1, .null, 0, 0)),
  (118, (.iload 7, 2, .null, 0, 0)),
  (120, (.iload 4, 2, .null, 0, 0)),
  (122, (.invokestatic 220, 3, .ref 408, 0, 0)),
  (125, (.invokevirtual 223, 3, .ref 409, 0, 0)),
  (128, (.iconst 4, 1, .int 4, 0, 0)),
  (129, (.ireturn, 1, .null, 0, 0))]
set_option maxRecDepth 100000 in
theorem ckS_acceptChannel : ab_ckM mS_acceptChannel kS_acceptChannel = true := by decide +kernel
set_option maxRecDepth 100000 in
theorem wS_acceptChannel : ab_MW mS_acceptChannel 1 2 := ab_mw_ok (i1 := 60) (i2 := 375) (i3 := 8) (by decide +kernel) (ab_t2 (List.mem_of_getElem? (i := 77) rfl))
abbrev mS_answerRead : ab_Mt := (⟨"BusServo", "answerRead", "(JI)V"⟩, prog_1_method_27_code, 4, none)
def kS_answerRead : ab_Cd := [
  (0, (.iload_n 3, 1, .null, 0, 0)),
  (1, (.invokestatic 133, 3, .ref 400, 0, 0)),
  (4, (.iconst 1, 1, .int 1, 0, 0)),
  (5, (.if_icmp .ne 14, 3, .null, 0, 19)),
  (8, (.aload_n 0, 1, .null, 0, 0)),
  (9, (.lload_n 1, 1, .null, 0, 0)),
  (10, (.sipush 128, 3, .int 128, 0, 0)),
  (13, (.ldc 226, 2, .int 100728833, 0, 403)),
  (15, (.invokevirtual 213, 3, .ref 391, 0, 0)),
  (18, (.return_, 1, .null, 0, 0)),
  (19, (.aload_n 0, 1, .null, 0, 0)),
  (20, (.invokevirtual 137, 3, .ref 298, 0, 0)),
  (23, (.aload_n 0, 1, .null, 0, 0)),
  (24, (.lload_n 1, 1, .null, 0, 0)),
  (25, (.iload_n 3, 1, .null, 0, 0)),
  (26, (.invokestatic 227, 3, .ref 404, 0, 0)),
  (29, (.invokestatic 230, 3, .ref 405, 0, 0)),
  (32, (.aload_n 0, 1, .null, 0, 0)),
  (33, (.getfield 15, 3, .ref 240, 0, 1)),
  (36, (.iload_n 3, 1, .null, 0, 0)),
  (37, (.iaload, 1, .null, 0, 0)),
  (38, (.invokevirtual 213, 3, .ref 391, 0, 0)),
  (41, (.return_, 1, .null, 0, 0))]
set_option maxRecDepth 100000 in
theorem ckS_answerRead : ab_ckM mS_answerRead kS_answerRead = true := by decide +kernel
set_option maxRecDepth 100000 in
theorem wS_answerRead : ab_MW mS_answerRead 1 2 := ab_mw_ok (i1 := 60) (i2 := 398) (i3 := 10) (by decide +kernel) (ab_t2 (List.mem_of_getElem? (i := 100) rfl))
abbrev mS_answerWrite : ab_Mt := (⟨"BusServo", "answerWrite", "(JII)V"⟩, prog_1_method_28_code, 7, none)
def kS_answerWrite : ab_Cd := [
  (0, (.lload_n 1, 1, .null, 0, 0)),
  (1, (.bipush 32, 2, .int 32, 0, 0)),
  (3, (.lushr, 1, .null, 0, 0)),
  (4, (.iload 4, 2, .null, 0, 0)),
  (6, (.invokestatic 233, 3, .ref 413, 0, 0)),
  (9, (.istore 5, 2, .null, 0, 0)),
  (11, (.aload_n 0, 1, .null, 0, 0)),
  (12, (.iload_n 3, 1, .null, 0, 0)),
  (13, (.iload 4, 2, .null, 0, 0)),
  (15, (.iload 5, 2, .null, 0, 0)),
  (17, (.invokevirtual 237, 3, .ref 414, 0, 0)),
  (20, (.istore 6, 2, .null, 0, 0)),
  (22, (.iload 6, 2, .null, 0, 0)),
  (24, (.ifCond .ne 22, 3, .null, 0, 46)),
  (27, (.iload_n 3, 1, .null, 0, 0)),
  (28, (.invokestatic 240, 3, .ref 428, 0, 0)),
  (31, (.ifCond .eq 15, 3, .null, 0, 46)),
  (34, (.aload_n 0, 1, .null, 0, 0)),
  (35, (.getfield 15, 3, .ref 240, 0, 1)),
  (38, (.iload_n 3, 1, .null, 0, 0)),
  (39, (.iload 5, 2, .null, 0, 0)),
  (41, (.invokestatic 243, 3, .ref 447, 0, 0)),
  (44, (.istore 6, 2, .null, 0, 0)),
  (46, (.iload 6, 2, .null, 0, 0)),
  (48, (.ifCond .eq 14, 3, .null, 0, 62)),
  (51, (.aload_n 0, 1, .null, 0, 0)),
  (52, (.lload_n 1, 1, .null, 0, 0)),
  (53, (.sipush 128, 3, .int 128, 0, 0)),
  (56, (.iload 6, 2, .null, 0, 0)),
  (58, (.invokevirtual 213, 3, .ref 391, 0, 0)),
  (61, (.return_, 1, .null, 0, 0)),
  (62, (.aload_n 0, 1, .null, 0, 0)),
  (63, (.iload_n 3, 1, .null, 0, 0)),
  (64, (.iload 5, 2, .null, 0, 0)),
  (66, (.invokevirtual 247, 3, .ref 456, 0, 0)),
  (69, (.aload_n 0, 1, .null, 0, 0)),
  (70, (.lload_n 1, 1, .null, 0, 0)),
  (71, (.bipush 96, 2, .int 96, 0, 0)),
  (73, (.iconst 0, 1, .int 0, 0, 0)),
  (74, (.invokevirtual 213, 3, .ref 391, 0, 0)),
  (77, (.return_, 1, .null, 0, 0))]
set_option maxRecDepth 100000 in
theorem ckS_answerWrite : ab_ckM mS_answerWrite kS_answerWrite = true := by decide +kernel
set_option maxRecDepth 100000 in
theorem wS_answerWrite : ab_MW mS_answerWrite 1 3 := ab_mw_ok (i1 := 60) (i2 := 411) (i3 := 11) (by decide +kernel) (ab_t2 (List.mem_of_getElem? (i := 113) rfl))
abbrev mS_sendAnswer : ab_Mt := (⟨"BusServo", "sendAnswer", "(JII)V"⟩, prog_1_method_29_code, 5, none)
def kS_sendAnswer : ab_Cd := [
  (0, (.aload_n 0, 1, .null, 0, 0)),
  (1, (.getfield 22, 3, .ref 241, 0, 2)),
  (4, (.sipush 1408, 3, .int 1408, 0, 0)),
  (7, (.aload_n 0, 1, .null, 0, 0)),
  (8, (.getfield 9, 3, .ref 239, 0, 0)),
  (11, (.iadd, 1, .null, 0, 0)),
  (12, (.bipush 8, 2, .int 8, 0, 0)),
  (14, (.iload_n 3, 1, .null, 0, 0)),
  (15, (.i2l, 1, .null, 0, 0)),
  (16, (.lload_n 1, 1, .null, 0, 0)),
  (17, (.ldc2_w 251, 3, .long 4294967040, 0, 395)),
  (20, (.land, 1, .null, 0, 0)),
  (21, (.lor, 1, .null, 0, 0)),
  (22, (.iload 4, 2, .null, 0, 0)),
  (24, (.i2l, 1, .null, 0, 0)),
  (25, (.bipush 32, 2, .int 32, 0, 0)),
  (27, (.lshl, 1, .null, 0, 0)),
  (28, (.lor, 1, .null, 0, 0)),
  (29, (.invokevirtual 168, 3, .ref 235, 0, 0)),
  (32, (.return_, 1, .null, 0, 0))]
set_option maxRecDepth 100000 in
theorem ckS_sendAnswer : ab_ckM mS_sendAnswer kS_sendAnswer = true := by decide +kernel
set_option maxRecDepth 100000 in
theorem wS_sendAnswer : ab_MW mS_sendAnswer 1 3 := ab_mw_ok (i1 := 60) (i2 := 393) (i3 := 9) (by decide +kernel) (ab_t2 (List.mem_of_getElem? (i := 95) rfl))
abbrev mS_refusalOfWrite : ab_Mt := (⟨"BusServo", "refusalOfWrite", "(III)I"⟩, prog_1_method_30_code, 4, (some .int))
def kS_refusalOfWrite : ab_Cd := [
  (0, (.iload_n 1, 1, .null, 0, 0)),
  (1, (.invokestatic 133, 3, .ref 400, 0, 0)),
  (4, (.ifCond .ne 6, 3, .null, 0, 10)),
  (7, (.ldc 253, 2, .int 100728834, 0, 418)),
  (9, (.ireturn, 1, .null, 0, 0)),
  (10, (.iload_n 2, 1, .null, 0, 0)),
  (11, (.iload_n 1, 1, .null, 0, 0)),
  (12, (.invokestatic 227, 3, .ref 404, 0, 0)),
  (15, (.if_icmp .eq 6, 3, .null, 0, 21)),
  (18, (.ldc 254, 2, .int 101122064, 0, 419)),
  (20, (.ireturn, 1, .null, 0, 0)),
  (21, (.aload_n 0, 1, .null, 0, 0)),
  (22, (.iload_n 1, 1, .null, 0, 0)),
  (23, (.invokevirtual 255, 3, .ref 420, 0, 0)),
  (26, (.ifCond .ne 7, 3, .null, 0, 33)),
  (29, (.ldc_w 258, 3, .int 134217762, 0, 434)),
  (32, (.ireturn, 1, .null, 0, 0)),
  (33, (.iload_n 1, 1, .null, 0, 0)),
  (34, (.iconst 1, 1, .int 1, 0, 0)),
  (35, (.if_icmp .ne 12, 3, .null, 0, 47)),
  (38, (.aload_n 0, 1, .null, 0, 0)),
  (39, (.iload_n 3, 1, .null, 0, 0)),
  (40, (.ldc_w 259, 3, .int 1702257011, 0, 435)),
  (43, (.invokevirtual 260, 3, .ref 436, 0, 0)),
  (46, (.ireturn, 1, .null, 0, 0)),
  (47, (.iload_n 1, 1, .null, 0, 0)),
  (48, (.iconst 2, 1, .int 2, 0, 0)),
  (49, (.if_icmp .ne 12, 3, .null, 0, 61)),
  (52, (.aload_n 0, 1, .null, 0, 0)),
  (53, (.iload_n 3, 1, .null, 0, 0)),
  (54, (.ldc_w 263, 3, .int 1684107116, 0, 445)),
  (57, (.invokevirtual 260, 3, .ref 436, 0, 0)),
  (60, (.ireturn, 1, .null, 0, 0)),
  (61, (.iload_n 1, 1, .null, 0, 0)),
  (62, (.iload_n 3, 1, .null, 0, 0)),
  (63, (.invokestatic 264, 3, .ref 446, 0, 0)),
  (66, (.ireturn, 1, .null, 0, 0))]
set_option maxRecDepth 100000 in
theorem ckS_refusalOfWrite : ab_ckM mS_refusalOfWrite kS_refusalOfWrite = true := by decide +kernel
set_option maxRecDepth 100000 in
theorem wS_refusalOfWrite : ab_MW mS_refusalOfWrite 1 3 := ab_mw_ok (i1 := 60) (i2 := 416) (i3 := 12) (by decide +kernel) (ab_t2 (List.mem_of_getElem? (i := 118) rfl))
abbrev mS_isWrittenNow : ab_Mt := (⟨"BusServo", "isWrittenNow", "(I)Z"⟩, prog_1_method_31_code, 2, (some .boolean))
def kS_isWrittenNow : ab_Cd := [
  (0, (.iload_n 1, 1, .null, 0, 0)),
  (1, (.invokestatic 133, 3, .ref 400, 0, 0)),
  (4, (.lookupswitch 78 #[(3, 28), (4, 44)], 28, .null, 0, 0)),
  (32, (.aload_n 0, 1, .null, 0, 0)),
  (33, (.getfield 36, 3, .ref 243, 0, 4)),
  (36, (.invokevirtual 97, 3, .ref 424, 0, 0)),
  (39, (.ifCond .ne 7, 3, .null, 0, 46)),
  (42, (.iconst 1, 1, .int 1, 0, 0)),
  (43, (.goto 4, 3, .null, 0, 47)),
  (46, (.iconst 0, 1, .int 0, 0, 0)),
  (47, (.ireturn, 1, .null, 0, 0)),
  (48, (.aload_n 0, 1, .null, 0, 0)),
  (49, (.getfield 140, 3, .ref 247, 0, 8)),
  (52, (.bipush 127, 2, .int 127, 0, 0)),
  (54, (.if_icmp .ne 26, 3, .null, 0, 80)),
  (57, (.iload_n 1, 1, .null, 0, 0)),
  (58, (.invokestatic 240, 3, .ref 428, 0, 0)),
  (61, (.ifCond .ne 15, 3, .null, 0, 76)),
  (64, (.aload_n 0, 1, .null, 0, 0)),
  (65, (.getfield 15, 3, .ref 240, 0, 1)),
  (68, (.iload_n 1, 1, .null, 0, 0)),
  (69, (.invokestatic 267, 3, .ref 431, 0, 0)),
  (72, (.iaload, 1, .null, 0, 0)),
  (73, (.ifCond .ne 7, 3, .null, 0, 80)),
  (76, (.iconst 1, 1, .int 1, 0, 0)),
  (77, (.goto 4, 3, .null, 0, 81)),
  (80, (.iconst 0, 1, .int 0, 0, 0)),
  (81, (.ireturn, 1, .null, 0, 0)),
  (82, (.iconst 1, 1, .int 1, 0, 0)),
  (83, (.ireturn, 1, .null, 0, 0))]
set_option maxRecDepth 100000 in
theorem ckS_isWrittenNow : ab_ckM mS_isWrittenNow kS_isWrittenNow = true := by decide +kernel
set_option maxRecDepth 100000 in
theorem wS_isWrittenNow : ab_MW mS_isWrittenNow 1 1 := ab_mw_ok (i1 := 60) (i2 := 422) (i3 := 13) (by decide +kernel) (ab_t2 (List.mem_of_getElem? (i := 124) rfl))
abbrev mS_refusalOfSave : ab_Mt := (⟨"BusServo", "refusalOfSave", "(II)I"⟩, prog_1_method_32_code, 3, (some .int))
def kS_refusalOfSave : ab_Cd := [
  (0, (.iload_n 1, 1, .null, 0, 0)),
  (1, (.iload_n 2, 1, .null, 0, 0)),
  (2, (.if_icmp .eq 7, 3, .null, 0, 9)),
  (5, (.ldc_w 270, 3, .int 134217760, 0, 440)),
  (8, (.ireturn, 1, .null, 0, 0)),
  (9, (.aload_n 0, 1, .null, 0, 0)),
  (10, (.getfield 29, 3, .ref 242, 0, 3)),
  (13, (.invokevirtual 271, 3, .ref 441, 0, 0)),
  (16, (.ifCond .eq 9, 3, .null, 0, 25)),
  (19, (.ldc_w 258, 3, .int 134217762, 0, 434)),
  (22, (.goto 4, 3, .null, 0, 26)),
  (25, (.iconst 0, 1, .int 0, 0, 0)),
  (26, (.ireturn, 1, .null, 0, 0))]
set_option maxRecDepth 100000 in
theorem ckS_refusalOfSave : ab_ckM mS_refusalOfSave kS_refusalOfSave = true := by decide +kernel
set_option maxRecDepth 100000 in
theorem wS_refusalOfSave : ab_MW mS_refusalOfSave 1 2 := ab_mw_ok (i1 := 60) (i2 := 438) (i3 := 14) (by decide +kernel) (ab_t2 (List.mem_of_getElem? (i := 140) rfl))
abbrev mS_write : ab_Mt := (⟨"BusServo", "write", "(II)V"⟩, prog_1_method_33_code, 3, none)
def kS_write : ab_Cd := [
  (0, (.iload_n 1, 1, .null, 0, 0)),
  (1, (.tableswitch 99 1 9 #[51, 63, 71, 81, 99, 99, 99, 99, 89], 51, .null, 0, 0)),
  (52, (.aload_n 0, 1, .null, 0, 0)),
  (53, (.getfield 29, 3, .ref 242, 0, 3)),
  (56, (.aload_n 0, 1, .null, 0, 0)),
  (57, (.getfield 15, 3, .ref 240, 0, 1)),
  (60, (.invokevirtual 274, 3, .ref 460, 0, 0)),
  (63, (.return_, 1, .null, 0, 0)),
  (64, (.aload_n 0, 1, .null, 0, 0)),
  (65, (.getfield 29, 3, .ref 242, 0, 3)),
  (68, (.invokevirtual 277, 3, .ref 468, 0, 0)),
  (71, (.return_, 1, .null, 0, 0)),
  (72, (.aload_n 0, 1, .null, 0, 0)),
  (73, (.getfield 52, 3, .ref 245, 0, 6)),
  (76, (.invokevirtual 159, 3, .ref 219, 0, 0)),
  (79, (.goto 21, 3, .null, 0, 100)),
  (82, (.aload_n 0, 1, .null, 0, 0)),
  (83, (.iconst 0, 1, .int 0, 0, 0)),
  (84, (.putfield 165, 3, .ref 248, 0, 9)),
  (87, (.goto 13, 3, .null, 0, 100)),
  (90, (.aload_n 0, 1, .null, 0, 0)),
  (91, (.getfield 59, 3, .ref 246, 0, 7)),
  (94, (.invokevirtual 162, 3, .ref 223, 0, 0)),
  (97, (.goto 3, 3, .null, 0, 100)),
  (100, (.aload_n 0, 1, .null, 0, 0)),
  (101, (.getfield 15, 3, .ref 240, 0, 1)),
  (104, (.iload_n 1, 1, .null, 0, 0)),
  (105, (.iload_n 2, 1, .null, 0, 0)),
  (106, (.iastore, 1, .null, 0, 0)),
  (107, (.return_, 1, .null, 0, 0))]
set_option maxRecDepth 100000 in
theorem ckS_write : ab_ckM mS_write kS_write = true := by decide +kernel
set_option maxRecDepth 100000 in
theorem wS_write : ab_MW mS_write 1 2 := ab_mw_ok (i1 := 60) (i2 := 458) (i3 := 15) (by decide +kernel) (ab_t2 (List.mem_of_getElem? (i := 160) rfl))
abbrev mS_makeTick : ab_Mt := (⟨"BusServo", "makeTick", "(I)V"⟩, prog_1_method_34_code, 2, none)
def kS_makeTick : ab_Cd := [
  (0, (.aload_n 0, 1, .null, 0, 0)),
  (1, (.getfield 15, 3, .ref 240, 0, 1)),
  (4, (.bipush 19, 2, .int 19, 0, 0)),
  (6, (.iload_n 1, 1, .null, 0, 0)),
  (7, (.iastore, 1, .null, 1, 0)),
  (8, (.aload_n 0, 1, .null, 0, 0)),
  (9, (.getfield 36, 3, .ref 243, 0, 4)),
  (12, (.invokevirtual 97, 3, .ref 424, 0, 0)),
  (15, (.ifCond .ne 11, 3, .null, 0, 26)),
  (18, (.aload_n 0, 1, .null, 0, 0)),
  (19, (.getfield 45, 3, .ref 244, 0, 5)),
  (22, (.iload_n 1, 1, .null, 0, 0)),
  (23, (.invokevirtual 155, 3, .ref 211, 0, 0)),
  (26, (.aload_n 0, 1, .null, 0, 0)),
  (27, (.getfield 29, 3, .ref 242, 0, 3)),
  (30, (.invokevirtual 280, 3, .ref 494, 0, 0)),
  (33, (.aload_n 0, 1, .null, 0, 0)),
  (34, (.invokevirtual 283, 3, .ref 498, 0, 0)),
  (37, (.aload_n 0, 1, .null, 0, 0)),
  (38, (.getfield 52, 3, .ref 245, 0, 6)),
  (41, (.aload_n 0, 1, .null, 0, 0)),
  (42, (.invokevirtual 200, 3, .ref 476, 0, 0)),
  (45, (.invokevirtual 286, 3, .ref 502, 0, 0)),
  (48, (.ifCond .eq 10, 3, .null, 0, 58)),
  (51, (.aload_n 0, 1, .null, 0, 0)),
  (52, (.ldc_w 289, 3, .int 33072, 0, 507)),
  (55, (.invokevirtual 108, 3, .ref 508, 0, 0)),
  (58, (.aload_n 0, 1, .null, 0, 0)),
  (59, (.getfield 36, 3, .ref 243, 0, 4)),
  (62, (.invokevirtual 290, 3, .ref 308, 0, 0)),
  (65, (.ifCond .eq 32, 3, .null, 0, 97)),
  (68, (.iload_n 1, 1, .null, 0, 0)),
  (69, (.aload_n 0, 1, .null, 0, 0)),
  (70, (.getfield 45, 3, .ref 244, 0, 5)),
  (73, (.invokevirtual 94, 3, .ref 522, 0, 0)),
  (76, (.isub, 1, .null, 0, 0)),
  (77, (.invokestatic 293, 3, .ref 526, 0, 0)),
  (80, (.aload_n 0, 1, .null, 0, 0)),
  (81, (.getfield 15, 3, .ref 240, 0, 1)),
  (84, (.bipush 20, 2, .int 20, 0, 0)),
  (86, (.iaload, 1, .null, 1, 0)),
  (87, (.if_icmp .le 10, 3, .null, 0, 97)),
  (90, (.aload_n 0, 1, .null, 0, 0)),
  (91, (.ldc_w 298, 3, .int 34321, 0, 517)),
  (94, (.invokevirtual 108, 3, .ref 508, 0, 0)),
  (97, (.aload_n 0, 1, .null, 0, 0)),
  (98, (.invokevirtual 299, 3, .ref 529, 0, 0)),
  (101, (.aload_n 0, 1, .null, 0, 0)),
  (102, (.iload_n 1, 1, .null, 0, 0)),
  (103, (.invokevirtual 302, 3, .ref 554, 0, 0)),
  (106, (.aload_n 0, 1, .null, 0, 0)),
  (107, (.getfield 59, 3, .ref 246, 0, 7)),
  (110, (.invokevirtual 305, 3, .ref 589, 0, 0)),
  (113, (.aload_n 0, 1, .null, 0, 0)),
  (114, (.invokevirtual 308, 3, .ref 593, 0, 0)),
  (117, (.return_, 1, .null, 0, 0))]
set_option maxRecDepth 100000 in
theorem ckS_makeTick : ab_ckM mS_makeTick kS_makeTick = true := by decide +kernel
set_option maxRecDepth 100000 in
theorem wS_makeTick : ab_MW mS_makeTick 1 1 := ab_mw_ok (i1 := 60) (i2 := 492) (i3 := 19) (by decide +kernel) (ab_t2 (List.mem_of_getElem? (i := 194) rfl))
abbrev mS_beat : ab_Mt := (⟨"BusServo", "beat", "()V"⟩, prog_1_method_35_code, 2, none)
def kS_beat : ab_Cd := [
  (0, (.aload_n 0, 1, .null, 0, 0)),
  (1, (.dup, 1, .null, 0, 0)),
  (2, (.getfield 165, 3, .ref 248, 0, 9)),
  (5, (.iconst 1, 1, .int 1, 0, 0)),
  (6, (.iadd, 1, .null, 0, 0)),
  (7, (.putfield 165, 3, .ref 248, 0, 9)),
  (10, (.aload_n 0, 1, .null, 0, 0)),
  (11, (.getfield 15, 3, .ref 240, 0, 1)),
  (14, (.iconst 4, 1, .int 4, 0, 0)),
  (15, (.iaload, 1, .null, 1, 0)),
  (16, (.istore_n 1, 1, .null, 0, 0)),
  (17, (.iload_n 1, 1, .null, 0, 0)),
  (18, (.ifCond .le 37, 3, .null, 0, 55)),
  (21, (.aload_n 0, 1, .null, 0, 0)),
  (22, (.getfield 165, 3, .ref 248, 0, 9)),
  (25, (.iload_n 1, 1, .null, 0, 0)),
  (26, (.if_icmp .lt 29, 3, .null, 0, 55)),
  (29, (.aload_n 0, 1, .null, 0, 0)),
  (30, (.iconst 0, 1, .int 0, 0, 0)),
  (31, (.putfield 165, 3, .ref 248, 0, 9)),
  (34, (.aload_n 0, 1, .null, 0, 0)),
  (35, (.getfield 22, 3, .ref 241, 0, 2)),
  (38, (.sipush 1792, 3, .int 1792, 0, 0)),
  (41, (.aload_n 0, 1, .null, 0, 0)),
  (42, (.getfield 9, 3, .ref 239, 0, 0)),
  (45, (.iadd, 1, .null, 0, 0)),
  (46, (.iconst 1, 1, .int 1, 0, 0)),
  (47, (.aload_n 0, 1, .null, 0, 0)),
  (48, (.getfield 140, 3, .ref 247, 0, 8)),
  (51, (.i2l, 1, .null, 0, 0)),
  (52, (.invokevirtual 168, 3, .ref 235, 0, 0)),
  (55, (.return_, 1, .null, 0, 0))]
set_option maxRecDepth 100000 in
theorem ckS_beat : ab_ckM mS_beat kS_beat = true := by decide +kernel
set_option maxRecDepth 100000 in
theorem wS_beat : ab_MW mS_beat 1 0 := ab_mw_ok (i1 := 60) (i2 := 500) (i3 := 20) (by decide +kernel) (ab_t2 (List.mem_of_getElem? (i := 202) rfl))
abbrev mS_obeyControl : ab_Mt := (⟨"BusServo", "obeyControl", "()V"⟩, prog_1_method_36_code, 2, none)
def kS_obeyControl : ab_Cd := [
  (0, (.aload_n 0, 1, .null, 0, 0)),
  (1, (.getfield 36, 3, .ref 243, 0, 4)),
  (4, (.aload_n 0, 1, .null, 0, 0)),
  (5, (.getfield 15, 3, .ref 240, 0, 1)),
  (8, (.bipush 16, 2, .int 16, 0, 0)),
  (10, (.iaload, 1, .null, 1, 0)),
  (11, (.invokevirtual 311, 3, .ref 533, 0, 0)),
  (14, (.istore_n 1, 1, .null, 0, 0)),
  (15, (.aload_n 0, 1, .null, 0, 0)),
  (16, (.getfield 36, 3, .ref 243, 0, 4)),
  (19, (.iload_n 1, 1, .null, 0, 0)),
  (20, (.aload_n 0, 1, .null, 0, 0)),
  (21, (.getfield 15, 3, .ref 240, 0, 1)),
  (24, (.bipush 21, 2, .int 21, 0, 0)),
  (26, (.iaload, 1, .null, 1, 0)),
  (27, (.ifCond .ne 7, 3, .null, 0, 34)),
  (30, (.iconst 1, 1, .int 1, 0, 0)),
  (31, (.goto 4, 3, .null, 0, 35)),
  (34, (.iconst 0, 1, .int 0, 0, 0)),
  (35, (.invokevirtual 314, 3, .ref 537, 0, 0)),
  (38, (.ifCond .eq 15, 3, .null, 0, 53)),
  (41, (.aload_n 0, 1, .null, 0, 0)),
  (42, (.getfield 15, 3, .ref 240, 0, 1)),
  (45, (.iconst 0, 1, .int 0, 0, 0)),
  (46, (.iconst 0, 1, .int 0, 0, 0)),
  (47, (.iastore, 1, .null, 1, 0)),
  (48, (.aload_n 0, 1, .null, 0, 0)),
  (49, (.iconst 0, 1, .int 0, 0, 0)),
  (50, (.invokevirtual 318, 3, .ref 518, 0, 0)),
  (53, (.return_, 1, .null, 0, 0))]
set_option maxRecDepth 100000 in
theorem ckS_obeyControl : ab_ckM mS_obeyControl kS_obeyControl = true := by decide +kernel
set_option maxRecDepth 100000 in
theorem wS_obeyControl : ab_MW mS_obeyControl 1 0 := ab_mw_ok (i1 := 60) (i2 := 531) (i3 := 23) (by decide +kernel) (ab_t2 (List.mem_of_getElem? (i := 233) rfl))
abbrev mS_move : ab_Mt := (⟨"BusServo", "move", "(I)V"⟩, prog_1_method_37_code, 2, none)
def kS_move : ab_Cd := [
  (0, (.aload_n 0, 1, .null, 0, 0)),
  (1, (.getfield 36, 3, .ref 243, 0, 4)),
  (4, (.invokevirtual 290, 3, .ref 308, 0, 0)),
  (7, (.ifCond .eq 13, 3, .null, 0, 20)),
  (10, (.aload_n 0, 1, .null, 0, 0)),
  (11, (.getfield 45, 3, .ref 244, 0, 5)),
  (14, (.invokevirtual 321, 3, .ref 558, 0, 0)),
  (17, (.goto 31, 3, .null, 0, 48)),
  (20, (.aload_n 0, 1, .null, 0, 0)),
  (21, (.getfield 36, 3, .ref 243, 0, 4)),
  (24, (.invokevirtual 97, 3, .ref 424, 0, 0)),
  (27, (.ifCond .eq 13, 3, .null, 0, 40)),
  (30, (.aload_n 0, 1, .null, 0, 0)),
  (31, (.getfield 45, 3, .ref 244, 0, 5)),
  (34, (.invokevirtual 324, 3, .ref 585, 0, 0)),
  (37, (.goto 11, 3, .null, 0, 48)),
  (40, (.aload_n 0, 1, .null, 0, 0)),
  (41, (.getfield 45, 3, .ref 244, 0, 5)),
  (44, (.iload_n 1, 1, .null, 0, 0)),
  (45, (.invokevirtual 155, 3, .ref 211, 0, 0)),
  (48, (.return_, 1, .null, 0, 0))]
set_option maxRecDepth 100000 in
theorem ckS_move : ab_ckM mS_move kS_move = true := by decide +kernel
set_option maxRecDepth 100000 in
theorem wS_move : ab_MW mS_move 1 1 := ab_mw_ok (i1 := 60) (i2 := 556) (i3 := 25) (by decide +kernel) (ab_t3 (List.mem_of_getElem? (i := 18) rfl))
abbrev mS_sendOutWhenDue : ab_Mt := (⟨"BusServo", "sendOutWhenDue", "()V"⟩, prog_1_method_38_code, 4, none)
def kS_sendOutWhenDue : ab_Cd := [
  (0, (.aload_n 0, 1, .null, 0, 0)),
  (1, (.getfield 140, 3, .ref 247, 0, 8)),
  (4, (.iconst 5, 1, .int 5, 0, 0)),
  (5, (.if_icmp .ne 43, 3, .null, 0, 48)),
  (8, (.aload_n 0, 1, .null, 0, 0)),
  (9, (.getfield 15, 3, .ref 240, 0, 1)),
  (12, (.bipush 9, 2, .int 9, 0, 0)),
  (14, (.iaload, 1, .null, 1, 0)),
  (15, (.sipush 240, 3, .int 240, 0, 0)),
  (18, (.if_icmp .le 30, 3, .null, 0, 48)),
  (21, (.aload_n 0, 1, .null, 0, 0)),
  (22, (.getfield 15, 3, .ref 240, 0, 1)),
  (25, (.bipush 12, 2, .int 12, 0, 0)),
  (27, (.iaload, 1, .null, 1, 0)),
  (28, (.ifCond .eq 20, 3, .null, 0, 48)),
  (31, (.aload_n 0, 1, .null, 0, 0)),
  (32, (.getfield 59, 3, .ref 246, 0, 7)),
  (35, (.aload_n 0, 1, .null, 0, 0)),
  (36, (.getfield 15, 3, .ref 240, 0, 1)),
  (39, (.bipush 10, 2, .int 10, 0, 0)),
  (41, (.iaload, 1, .null, 1, 0)),
  (42, (.invokevirtual 327, 3, .ref 597, 0, 0)),
  (45, (.ifCond .eq 4, 3, .null, 0, 49)),
  (48, (.return_, 1, .null, 0, 0)),
  (49, (.aload_n 0, 1, .null, 0, 0)),
  (50, (.invokevirtual 137, 3, .ref 298, 0, 0)),
  (53, (.aload_n 0, 1, .null, 0, 0)),
  (54, (.getfield 15, 3, .ref 240, 0, 1)),
  (57, (.invokestatic 182, 3, .ref 326, 0, 0)),
  (60, (.lstore_n 1, 1, .null, 0, 0)),
  (61, (.aload_n 0, 1, .null, 0, 0)),
  (62, (.getfield 15, 3, .ref 240, 0, 1)),
  (65, (.bipush 12, 2, .int 12, 0, 0)),
  (67, (.invokestatic 188, 3, .ref 340, 0, 0)),
  (70, (.istore_n 3, 1, .null, 0, 0)),
  (71, (.aload_n 0, 1, .null, 0, 0)),
  (72, (.getfield 59, 3, .ref 246, 0, 7)),
  (75, (.lload_n 1, 1, .null, 0, 0)),
  (76, (.iload_n 3, 1, .null, 0, 0)),
  (77, (.aload_n 0, 1, .null, 0, 0)),
  (78, (.getfield 15, 3, .ref 240, 0, 1)),
  (81, (.bipush 11, 2, .int 11, 0, 0)),
  (83, (.iaload, 1, .null, 1, 0)),
  (84, (.invokevirtual 330, 3, .ref 601, 0, 0)),
  (87, (.ifCond .eq 9, 3, .null, 0, 96)),
  (90, (.aload_n 0, 1, .null, 0, 0)),
  (91, (.lload_n 1, 1, .null, 0, 0)),
  (92, (.iload_n 3, 1, .null, 0, 0)),
  (93, (.invokevirtual 192, 3, .ref 343, 0, 0)),
  (96, (.return_, 1, .null, 0, 0))]
set_option maxRecDepth 100000 in
theorem ckS_sendOutWhenDue : ab_ckM mS_sendOutWhenDue kS_sendOutWhenDue = true := by decide +kernel
set_option maxRecDepth 100000 in
theorem wS_sendOutWhenDue : ab_MW mS_sendOutWhenDue 1 0 := ab_mw_ok (i1 := 60) (i2 := 595) (i3 := 30) (by decide +kernel) (ab_t3 (List.mem_of_getElem? (i := 57) rfl))
abbrev mS_sendOut : ab_Mt := (⟨"BusServo", "sendOut", "(JI)V"⟩, prog_1_method_39_code, 4, none)
def kS_sendOut : ab_Cd := [
  (0, (.aload_n 0, 1, .null, 0, 0)),
  (1, (.getfield 59, 3, .ref 246, 0, 7)),
  (4, (.lload_n 1, 1, .null, 0, 0)),
  (5, (.iload_n 3, 1, .null, 0, 0)),
  (6, (.invokevirtual 334, 3, .ref 347, 0, 0)),
  (9, (.aload_n 0, 1, .null, 0, 0)),
  (10, (.getfield 22, 3, .ref 241, 0, 2)),
  (13, (.sipush 384, 3, .int 384, 0, 0)),
  (16, (.aload_n 0, 1, .null, 0, 0)),
  (17, (.getfield 9, 3, .ref 239, 0, 0)),
  (20, (.iadd, 1, .null, 0, 0)),
  (21, (.iload_n 3, 1, .null, 0, 0)),
  (22, (.lload_n 1, 1, .null, 0, 0)),
  (23, (.invokevirtual 168, 3, .ref 235, 0, 0)),
  (26, (.return_, 1, .null, 0, 0))]
set_option maxRecDepth 100000 in
theorem ckS_sendOut : ab_ckM mS_sendOut kS_sendOut = true := by decide +kernel
set_option maxRecDepth 100000 in
theorem wS_sendOut : ab_MW mS_sendOut 1 2 := ab_mw_ok (i1 := 60) (i2 := 345) (i3 := 6) (by decide +kernel) (ab_t2 (List.mem_of_getElem? (i := 47) rfl))
abbrev mS_fault : ab_Mt := (⟨"BusServo", "fault", "(I)V"⟩, prog_1_method_40_code, 2, none)
def kS_fault : ab_Cd := [
  (0, (.aload_n 0, 1, .null, 0, 0)),
  (1, (.getfield 36, 3, .ref 243, 0, 4)),
  (4, (.invokevirtual 337, 3, .ref 512, 0, 0)),
  (7, (.ifCond .ne 4, 3, .null, 0, 11)),
  (10, (.return_, 1, .null, 0, 0)),
  (11, (.aload_n 0, 1, .null, 0, 0)),
  (12, (.getfield 15, 3, .ref 240, 0, 1)),
  (15, (.iconst 0, 1, .int 0, 0, 0)),
  (16, (.iload_n 1, 1, .null, 0, 0)),
  (17, (.ldc_w 298, 3, .int 34321, 0, 517)),
  (20, (.if_icmp .ne 8, 3, .null, 0, 28)),
  (23, (.bipush 33, 2, .int 33, 0, 0)),
  (25, (.goto 5, 3, .null, 0, 30)),
  (28, (.bipush 17, 2, .int 17, 0, 0)),
  (30, (.iastore, 1, .null, 0, 0)),
  (31, (.aload_n 0, 1, .null, 0, 0)),
  (32, (.iload_n 1, 1, .null, 0, 0)),
  (33, (.invokevirtual 318, 3, .ref 518, 0, 0)),
  (36, (.return_, 1, .null, 0, 0))]
set_option maxRecDepth 100000 in
theorem ckS_fault : ab_ckM mS_fault kS_fault = true := by decide +kernel
set_option maxRecDepth 100000 in
theorem wS_fault : ab_MW mS_fault 1 1 := ab_mw_ok (i1 := 60) (i2 := 510) (i3 := 21) (by decide +kernel) (ab_t2 (List.mem_of_getElem? (i := 212) rfl))
abbrev mS_sendEmergency : ab_Mt := (⟨"BusServo", "sendEmergency", "(I)V"⟩, prog_1_method_41_code, 2, none)
def kS_sendEmergency : ab_Cd := [
  (0, (.aload_n 0, 1, .null, 0, 0)),
  (1, (.getfield 140, 3, .ref 247, 0, 8)),
  (4, (.iconst 4, 1, .int 4, 0, 0)),
  (5, (.if_icmp .eq 33, 3, .null, 0, 38)),
  (8, (.aload_n 0, 1, .null, 0, 0)),
  (9, (.getfield 22, 3, .ref 241, 0, 2)),
  (12, (.sipush 128, 3, .int 128, 0, 0)),
  (15, (.aload_n 0, 1, .null, 0, 0)),
  (16, (.getfield 9, 3, .ref 239, 0, 0)),
  (19, (.iadd, 1, .null, 0, 0)),
  (20, (.bipush 8, 2, .int 8, 0, 0)),
  (22, (.iload_n 1, 1, .null, 0, 0)),
  (23, (.i2l, 1, .null, 0, 0)),
  (24, (.aload_n 0, 1, .null, 0, 0)),
  (25, (.getfield 15, 3, .ref 240, 0, 1)),
  (28, (.iconst 0, 1, .int 0, 0, 0)),
  (29, (.iaload, 1, .null, 1, 0)),
  (30, (.i2l, 1, .null, 0, 0)),
  (31, (.bipush 16, 2, .int 16, 0, 0)),
  (33, (.lshl, 1, .null, 0, 0)),
  (34, (.lor, 1, .null, 0, 0)),
  (35, (.invokevirtual 168, 3, .ref 235, 0, 0)),
  (38, (.return_, 1, .null, 0, 0))]
set_option maxRecDepth 100000 in
theorem ckS_sendEmergency : ab_ckM mS_sendEmergency kS_sendEmergency = true := by decide +kernel
set_option maxRecDepth 100000 in
theorem wS_sendEmergency : ab_MW mS_sendEmergency 1 1 := ab_mw_ok (i1 := 60) (i2 := 520) (i3 := 22) (by decide +kernel) (ab_t2 (List.mem_of_getElem? (i := 222) rfl))
abbrev mS_refreshStatus : ab_Mt := (⟨"BusServo", "refreshStatus", "()V"⟩, prog_1_method_42_code, 2, none)
def kS_refreshStatus : ab_Cd := [
  (0, (.aload_n 0, 1, .null, 0, 0)),
  (1, (.getfield 36, 3, .ref 243, 0, 4)),
  (4, (.invokevirtual 340, 3, .ref 302, 0, 0)),
  (7, (.istore_n 1, 1, .null, 0, 0)),
  (8, (.aload_n 0, 1, .null, 0, 0)),
  (9, (.getfield 140, 3, .ref 247, 0, 8)),
  (12, (.iconst 5, 1, .int 5, 0, 0)),
  (13, (.if_icmp .ne 9, 3, .null, 0, 22)),
  (16, (.iload_n 1, 1, .null, 0, 0)),
  (17, (.sipush 512, 3, .int 512, 0, 0)),
  (20, (.ior, 1, .null, 0, 0)),
  (21, (.istore_n 1, 1, .null, 0, 0)),
  (22, (.aload_n 0, 1, .null, 0, 0)),
  (23, (.getfield 36, 3, .ref 243, 0, 4)),
  (26, (.invokevirtual 290, 3, .ref 308, 0, 0)),
  (29, (.ifCond .eq 19, 3, .null, 0, 48)),
  (32, (.aload_n 0, 1, .null, 0, 0)),
  (33, (.getfield 45, 3, .ref 244, 0, 5)),
  (36, (.invokevirtual 343, 3, .ref 312, 0, 0)),
  (39, (.ifCond .eq 9, 3, .null, 0, 48)),
  (42, (.iload_n 1, 1, .null, 0, 0)),
  (43, (.sipush 1024, 3, .int 1024, 0, 0)),
  (46, (.ior, 1, .null, 0, 0)),
  (47, (.istore_n 1, 1, .null, 0, 0)),
  (48, (.aload_n 0, 1, .null, 0, 0)),
  (49, (.getfield 15, 3, .ref 240, 0, 1)),
  (52, (.bipush 17, 2, .int 17, 0, 0)),
  (54, (.iload_n 1, 1, .null, 0, 0)),
  (55, (.iastore, 1, .null, 1, 0)),
  (56, (.return_, 1, .null, 0, 0))]
set_option maxRecDepth 100000 in
theorem ckS_refreshStatus : ab_ckM mS_refreshStatus kS_refreshStatus = true := by decide +kernel
set_option maxRecDepth 100000 in
theorem wS_refreshStatus : ab_MW mS_refreshStatus 1 0 := ab_mw_ok (i1 := 60) (i2 := 300) (i3 := 4) (by decide +kernel) (ab_t2 (List.mem_of_getElem? (i := 2) rfl))
