/-! methods and their code, by program -/
abbrev mC_find : ab_Mt := (⟨"BusServo$Catalog", "find", "(II)I"⟩, prog_2_method_2_code, 4, (some .int))
def kC_find : ab_Cd := [
  (0, (.iload_n 0, 1, .null, 0, 0)),
  (1, (.ifCond .lt 20, 3, .null, 0, 21)),
  (4, (.iload_n 0, 1, .null, 0, 0)),
  (5, (.ldc 7, 2, .int 65535, 0, 335)),
  (7, (.if_icmp .gt 14, 3, .null, 0, 21)),
  (10, (.iload_n 1, 1, .null, 0, 0)),
  (11, (.ifCond .lt 10, 3, .null, 0, 21)),
  (14, (.iload_n 1, 1, .null, 0, 0)),
  (15, (.sipush 255, 3, .int 255, 0, 0)),
  (18, (.if_icmp .le 5, 3, .null, 0, 23)),
  (21, (.iconst (-1), 1, .int (-1), 0, 0)),
  (22, (.ireturn, 1, .null, 0, 0)),
  (23, (.iload_n 0, 1, .null, 0, 0)),
  (24, (.sipush 256, 3, .int 256, 0, 0)),
  (27, (.imul, 1, .null, 0, 0)),
  (28, (.iload_n 1, 1, .null, 0, 0)),
  (29, (.iadd, 1, .null, 0, 0)),
  (30, (.istore_n 2, 1, .null, 0, 0)),
  (31, (.iconst 0, 1, .int 0, 0, 0)),
  (32, (.istore_n 3, 1, .null, 0, 0)),
  (33, (.iload_n 3, 1, .null, 0, 0)),
  (34, (.bipush 30, 2, .int 30, 0, 0)),
  (36, (.if_icmp .ge 23, 3, .null, 0, 59)),
  (39, (.getstatic 10, 3, .ref 204, 0, 0)),
  (42, (.iload_n 3, 1, .null, 0, 0)),
  (43, (.bipush 6, 2, .int 6, 0, 0)),
  (45, (.imul, 1, .null, 0, 0)),
  (46, (.iaload, 1, .null, 0, 0)),
  (47, (.iload_n 2, 1, .null, 0, 0)),
  (48, (.if_icmp .ne 5, 3, .null, 0, 53)),
  (51, (.iload_n 3, 1, .null, 0, 0)),
  (52, (.ireturn, 1, .null, 0, 0)),
  (53, (.iinc 3 1, 3, .int 1, 0, 0)),
  (56, (.goto (-23), 3, .null, 0, 33)),
  (59, (.iconst (-1), 1, .int (-1), 0, 0)),
  (60, (.ireturn, 1, .null, 0, 0))]
set_option maxRecDepth 100000 in
theorem ckC_find : ab_ckM mC_find kC_find = true := by decide +kernel
set_option maxRecDepth 100000 in
theorem wC_find : ab_MW mC_find 0 2 := ab_mw_ok (i1 := 67) (i2 := 333) (i3 := 0) (by decide +kernel) (ab_t2 (List.mem_of_getElem? (i := 35) rfl))
abbrev mC_hasIndex : ab_Mt := (⟨"BusServo$Catalog", "hasIndex", "(I)Z"⟩, prog_2_method_3_code, 2, (some .boolean))
def kC_hasIndex : ab_Cd := [
  (0, (.iconst 0, 1, .int 0, 0, 0)),
  (1, (.istore_n 1, 1, .null, 0, 0)),
  (2, (.iload_n 1, 1, .null, 0, 0)),
  (3, (.bipush 30, 2, .int 30, 0, 0)),
  (5, (.if_icmp .ge 26, 3, .null, 0, 31)),
  (8, (.getstatic 10, 3, .ref 204, 0, 0)),
  (11, (.iload_n 1, 1, .null, 0, 0)),
  (12, (.bipush 6, 2, .int 6, 0, 0)),
  (14, (.imul, 1, .null, 0, 0)),
  (15, (.iaload, 1, .null, 0, 0)),
  (16, (.bipush 8, 2, .int 8, 0, 0)),
  (18, (.ishr, 1, .null, 0, 0)),
  (19, (.iload_n 0, 1, .null, 0, 0)),
  (20, (.if_icmp .ne 5, 3, .null, 0, 25)),
  (23, (.iconst 1, 1, .int 1, 0, 0)),
  (24, (.ireturn, 1, .null, 0, 0)),
  (25, (.iinc 1 1, 3, .int 1, 0, 0)),
  (28, (.goto (-26), 3, .null, 0, 2)),
  (31, (.iconst 0, 1, .int 0, 0, 0)),
  (32, (.ireturn, 1, .null, 0, 0))]
set_option maxRecDepth 100000 in
theorem ckC_hasIndex : ab_ckM mC_hasIndex kC_hasIndex = true := by decide +kernel
set_option maxRecDepth 100000 in
theorem wC_hasIndex : ab_MW mC_hasIndex 0 1 := ab_mw_ok (i1 := 67) (i2 := 387) (i3 := 0) (by decide +kernel) (ab_t2 (List.mem_of_getElem? (i := 89) rfl))
abbrev mC_bytes : ab_Mt := (⟨"BusServo$Catalog", "bytes", "(I)I"⟩, prog_2_method_4_code, 1, (some .int))
def kC_bytes : ab_Cd := [
  (0, (.getstatic 10, 3, .ref 204, 0, 0)),
  (3, (.iload_n 0, 1, .null, 0, 0)),
  (4, (.bipush 6, 2, .int 6, 0, 0)),
  (6, (.imul, 1, .null, 0, 0)),
  (7, (.iconst 1, 1, .int 1, 0, 0)),
  (8, (.iadd, 1, .null, 0, 0)),
  (9, (.iaload, 1, .null, 0, 0)),
  (10, (.ireturn, 1, .null, 0, 0))]
set_option maxRecDepth 100000 in
theorem ckC_bytes : ab_ckM mC_bytes kC_bytes = true := by decide +kernel
set_option maxRecDepth 100000 in
theorem wC_bytes : ab_MW mC_bytes 0 1 := ab_mw_ok (i1 := 67) (i2 := 337) (i3 := 0) (by decide +kernel) (ab_t2 (List.mem_of_getElem? (i := 39) rfl))
abbrev mC_kind : ab_Mt := (⟨"BusServo$Catalog", "kind", "(I)I"⟩, prog_2_method_5_code, 1, (some .int))
def kC_kind : ab_Cd := [
  (0, (.getstatic 10, 3, .ref 204, 0, 0)),
  (3, (.iload_n 0, 1, .null, 0, 0)),
  (4, (.bipush 6, 2, .int 6, 0, 0)),
  (6, (.imul, 1, .null, 0, 0)),
  (7, (.iconst 2, 1, .int 2, 0, 0)),
  (8, (.iadd, 1, .null, 0, 0)),
  (9, (.iaload, 1, .null, 0, 0)),
  (10, (.ireturn, 1, .null, 0, 0))]
set_option maxRecDepth 100000 in
theorem ckC_kind : ab_ckM mC_kind kC_kind = true := by decide +kernel
set_option maxRecDepth 100000 in
theorem wC_kind : ab_MW mC_kind 0 1 := ab_mw_ok (i1 := 67) (i2 := 401) (i3 := 0) (by decide +kernel) (ab_t2 (List.mem_of_getElem? (i := 103) rfl))
abbrev mC_start : ab_Mt := (⟨"BusServo$Catalog", "start", "(I)I"⟩, prog_2_method_6_code, 1, (some .int))
def kC_start : ab_Cd := [
  (0, (.getstatic 10, 3, .ref 204, 0, 0)),
  (3, (.iload_n 0, 1, .null, 0, 0)),
  (4, (.bipush 6, 2, .int 6, 0, 0)),
  (6, (.imul, 1, .null, 0, 0)),
  (7, (.iconst 3, 1, .int 3, 0, 0)),
  (8, (.iadd, 1, .null, 0, 0)),
  (9, (.iaload, 1, .null, 0, 0)),
  (10, (.ireturn, 1, .null, 0, 0))]
set_option maxRecDepth 100000 in
theorem ckC_start : ab_ckM mC_start kC_start = true := by decide +kernel
set_option maxRecDepth 100000 in
theorem wC_start : ab_MW mC_start 0 1 := ab_mw_ok (i1 := 67) (i2 := 202) (i3 := 0) (by decide +kernel) (ab_t1 (List.mem_of_getElem? (i := 144) rfl))
abbrev mC_least : ab_Mt := (⟨"BusServo$Catalog", "least", "(I)I"⟩, prog_2_method_7_code, 1, (some .int))
def kC_least : ab_Cd := [
  (0, (.getstatic 10, 3, .ref 204, 0, 0)),
  (3, (.iload_n 0, 1, .null, 0, 0)),
  (4, (.bipush 6, 2, .int 6, 0, 0)),
  (6, (.imul, 1, .null, 0, 0)),
  (7, (.iconst 4, 1, .int 4, 0, 0)),
  (8, (.iadd, 1, .null, 0, 0)),
  (9, (.iaload, 1, .null, 0, 0)),
  (10, (.ireturn, 1, .null, 0, 0))]
set_option maxRecDepth 100000 in
theorem ckC_least : ab_ckM mC_least kC_least = true := by decide +kernel
set_option maxRecDepth 100000 in
theorem wC_least : ab_MW mC_least 0 1 := ab_mw_ok (i1 := 67) (i2 := 369) (i3 := 0) (by decide +kernel) (ab_t2 (List.mem_of_getElem? (i := 71) rfl))
abbrev mC_greatest : ab_Mt := (⟨"BusServo$Catalog", "greatest", "(I)I"⟩, prog_2_method_8_code, 1, (some .int))
def kC_greatest : ab_Cd := [
  (0, (.getstatic 10, 3, .ref 204, 0, 0)),
  (3, (.iload_n 0, 1, .null, 0, 0)),
  (4, (.bipush 6, 2, .int 6, 0, 0)),
  (6, (.imul, 1, .null, 0, 0)),
  (7, (.iconst 5, 1, .int 5, 0, 0)),
  (8, (.iadd, 1, .null, 0, 0)),
  (9, (.iaload, 1, .null, 0, 0)),
  (10, (.ireturn, 1, .null, 0, 0))]
set_option maxRecDepth 100000 in
theorem ckC_greatest : ab_ckM mC_greatest kC_greatest = true := by decide +kernel
set_option maxRecDepth 100000 in
theorem wC_greatest : ab_MW mC_greatest 0 1 := ab_mw_ok (i1 := 67) (i2 := 365) (i3 := 0) (by decide +kernel) (ab_t2 (List.mem_of_getElem? (i := 67) rfl))
abbrev mC_kept : ab_Mt := (⟨"BusServo$Catalog", "kept", "(I)I"⟩, prog_2_method_9_code, 1, (some .int))
def kC_kept : ab_Cd := [
  (0, (.getstatic 14, 3, .ref 209, 0, 1)),
  (3, (.iload_n 0, 1, .null, 0, 0)),
  (4, (.iaload, 1, .null, 0, 0)),
  (5, (.ireturn, 1, .null, 0, 0))]
set_option maxRecDepth 100000 in
theorem ckC_kept : ab_ckM mC_kept kC_kept = true := by decide +kernel
set_option maxRecDepth 100000 in
theorem wC_kept : ab_MW mC_kept 0 1 := ab_mw_ok (i1 := 67) (i2 := 207) (i3 := 0) (by decide +kernel) (ab_t1 (List.mem_of_getElem? (i := 149) rfl))
abbrev mC_isCount : ab_Mt := (⟨"BusServo$Catalog", "isCount", "(I)Z"⟩, prog_2_method_10_code, 1, (some .boolean))
def kC_isCount : ab_Cd := [
  (0, (.iload_n 0, 1, .null, 0, 0)),
  (1, (.iconst 5, 1, .int 5, 0, 0)),
  (2, (.if_icmp .eq 9, 3, .null, 0, 11)),
  (5, (.iload_n 0, 1, .null, 0, 0)),
  (6, (.bipush 12, 2, .int 12, 0, 0)),
  (8, (.if_icmp .ne 7, 3, .null, 0, 15)),
  (11, (.iconst 1, 1, .int 1, 0, 0)),
  (12, (.goto 4, 3, .null, 0, 16)),
  (15, (.iconst 0, 1, .int 0, 0, 0)),
  (16, (.ireturn, 1, .null, 0, 0))]
set_option maxRecDepth 100000 in
theorem ckC_isCount : ab_ckM mC_isCount kC_isCount = true := by decide +kernel
set_option maxRecDepth 100000 in
theorem wC_isCount : ab_MW mC_isCount 0 1 := ab_mw_ok (i1 := 67) (i2 := 429) (i3 := 0) (by decide +kernel) (ab_t2 (List.mem_of_getElem? (i := 131) rfl))
abbrev mC_countOf : ab_Mt := (⟨"BusServo$Catalog", "countOf", "(I)I"⟩, prog_2_method_11_code, 1, (some .int))
def kC_countOf : ab_Cd := [
  (0, (.iload_n 0, 1, .null, 0, 0)),
  (1, (.bipush 12, 2, .int 12, 0, 0)),
  (3, (.if_icmp .ge 7, 3, .null, 0, 10)),
  (6, (.iconst 5, 1, .int 5, 0, 0)),
  (7, (.goto 5, 3, .null, 0, 12)),
  (10, (.bipush 12, 2, .int 12, 0, 0)),
  (12, (.ireturn, 1, .null, 0, 0))]
set_option maxRecDepth 100000 in
theorem ckC_countOf : ab_ckM mC_countOf kC_countOf = true := by decide +kernel
set_option maxRecDepth 100000 in
theorem wC_countOf : ab_MW mC_countOf 0 1 := ab_mw_ok (i1 := 67) (i2 := 432) (i3 := 0) (by decide +kernel) (ab_t2 (List.mem_of_getElem? (i := 134) rfl))
abbrev mN_bytesWritten : ab_Mt := (⟨"BusServo$Channel", "bytesWritten", "(I)I"⟩, prog_3_method_2_code, 1, (some .int))
def kN_bytesWritten : ab_Cd := [
  (0, (.iload_n 0, 1, .null, 0, 0)),
  (1, (.lookupswitch 51 #[(35, 49), (39, 47), (43, 45), (47, 43)], 43, .null, 0, 0)),
  (44, (.iconst 1, 1, .int 1, 0, 0)),
  (45, (.ireturn, 1, .null, 0, 0)),
  (46, (.iconst 2, 1, .int 2, 0, 0)),
  (47, (.ireturn, 1, .null, 0, 0)),
  (48, (.iconst 3, 1, .int 3, 0, 0)),
  (49, (.ireturn, 1, .null, 0, 0)),
  (50, (.iconst 4, 1, .int 4, 0, 0)),
  (51, (.ireturn, 1, .null, 0, 0)),
  (52, (.iconst 0, 1, .int 0, 0, 0)),
  (53, (.ireturn, 1, .null, 0, 0))]
set_option maxRecDepth 100000 in
theorem ckN_bytesWritten : ab_ckM mN_bytesWritten kN_bytesWritten = true := by decide +kernel
set_option maxRecDepth 100000 in
theorem wN_bytesWritten : ab_MW mN_bytesWritten 0 1 := ab_mw_ok (i1 := 71) (i2 := 383) (i3 := 0) (by decide +kernel) (ab_t2 (List.mem_of_getElem? (i := 85) rfl))
abbrev mN_readAnswer : ab_Mt := (⟨"BusServo$Channel", "readAnswer", "(I)I"⟩, prog_3_method_3_code, 1, (some .int))
def kN_readAnswer : ab_Cd := [
  (0, (.iload_n 0, 1, .null, 0, 0)),
  (1, (.iconst 1, 1, .int 1, 0, 0)),
  (2, (.if_icmp .ne 6, 3, .null, 0, 8)),
  (5, (.bipush 79, 2, .int 79, 0, 0)),
  (7, (.ireturn, 1, .null, 0, 0)),
  (8, (.iload_n 0, 1, .null, 0, 0)),
  (9, (.iconst 2, 1, .int 2, 0, 0)),
  (10, (.if_icmp .ne 8, 3, .null, 0, 18)),
  (13, (.bipush 75, 2, .int 75, 0, 0)),
  (15, (.goto 5, 3, .null, 0, 20)),
  (18, (.bipush 67, 2, .int 67, 0, 0)),
  (20, (.ireturn, 1, .null, 0, 0))]
set_option maxRecDepth 100000 in
theorem ckN_readAnswer : ab_ckM mN_readAnswer kN_readAnswer = true := by decide +kernel
set_option maxRecDepth 100000 in
theorem wN_readAnswer : ab_MW mN_readAnswer 0 1 := ab_mw_ok (i1 := 71) (i2 := 406) (i3 := 0) (by decide +kernel) (ab_t2 (List.mem_of_getElem? (i := 108) rfl))
abbrev mN_refusalOfAddress : ab_Mt := (⟨"BusServo$Channel", "refusalOfAddress", "(III)I"⟩, prog_3_method_4_code, 3, (some .int))
def kN_refusalOfAddress : ab_Cd := [
  (0, (.iload_n 0, 1, .null, 0, 0)),
  (1, (.bipush 64, 2, .int 64, 0, 0)),
  (3, (.if_icmp .eq 13, 3, .null, 0, 16)),
  (6, (.iload_n 0, 1, .null, 0, 0)),
  (7, (.invokestatic 9, 3, .ref 382, 0, 0)),
  (10, (.ifCond .ne 6, 3, .null, 0, 16)),
  (13, (.ldc 13, 2, .int 84148225, 0, 385)),
  (15, (.ireturn, 1, .null, 0, 0)),
  (16, (.iload_n 2, 1, .null, 0, 0)),
  (17, (.iconst (-1), 1, .int (-1), 0, 0)),
  (18, (.if_icmp .eq 5, 3, .null, 0, 23)),
  (21, (.iconst 0, 1, .int 0, 0, 0)),
  (22, (.ireturn, 1, .null, 0, 0)),
  (23, (.iload_n 1, 1, .null, 0, 0)),
  (24, (.invokestatic 16, 3, .ref 386, 0, 0)),
  (27, (.ifCond .eq 8, 3, .null, 0, 35)),
  (30, (.ldc 20, 2, .int 101253137, 0, 389)),
  (32, (.goto 5, 3, .null, 0, 37)),
  (35, (.ldc 21, 2, .int 100794368, 0, 390)),
  (37, (.ireturn, 1, .null, 0, 0))]
set_option maxRecDepth 100000 in
theorem ckN_refusalOfAddress : ab_ckM mN_refusalOfAddress kN_refusalOfAddress = true := by decide +kernel
set_option maxRecDepth 100000 in
theorem wN_refusalOfAddress : ab_MW mN_refusalOfAddress 0 3 := ab_mw_ok (i1 := 71) (i2 := 380) (i3 := 0) (by decide +kernel) (ab_t2 (List.mem_of_getElem? (i := 82) rfl))
abbrev mN_refusalOfValue : ab_Mt := (⟨"BusServo$Channel", "refusalOfValue", "(II)I"⟩, prog_3_method_5_code, 2, (some .int))
def kN_refusalOfValue : ab_Cd := [
  (0, (.iload_n 1, 1, .null, 0, 0)),
  (1, (.iload_n 0, 1, .null, 0, 0)),
  (2, (.invokestatic 22, 3, .ref 364, 0, 0)),
  (5, (.if_icmp .le 6, 3, .null, 0, 11)),
  (8, (.ldc 25, 2, .int 101253169, 0, 367)),
  (10, (.ireturn, 1, .null, 0, 0)),
  (11, (.iload_n 1, 1, .null, 0, 0)),
  (12, (.iload_n 0, 1, .null, 0, 0)),
  (13, (.invokestatic 26, 3, .ref 368, 0, 0)),
  (16, (.if_icmp .ge 6, 3, .null, 0, 22)),
  (19, (.ldc 29, 2, .int 101253170, 0, 371)),
  (21, (.ireturn, 1, .null, 0, 0)),
  (22, (.iload_n 0, 1, .null, 0, 0)),
  (23, (.bipush 18, 2, .int 18, 0, 0)),
  (25, (.if_icmp .ne 13, 3, .null, 0, 38)),
  (28, (.iload_n 1, 1, .null, 0, 0)),
  (29, (.iconst 2, 1, .int 2, 0, 0)),
  (30, (.if_icmp .ne 8, 3, .null, 0, 38)),
  (33, (.ldc 30, 2, .int 101253168, 0, 372)),
  (35, (.goto 4, 3, .null, 0, 39)),
  (38, (.iconst 0, 1, .int 0, 0, 0)),
  (39, (.ireturn, 1, .null, 0, 0))]
set_option maxRecDepth 100000 in
theorem ckN_refusalOfValue : ab_ckM mN_refusalOfValue kN_refusalOfValue = true := by decide +kernel
set_option maxRecDepth 100000 in
theorem wN_refusalOfValue : ab_MW mN_refusalOfValue 0 2 := ab_mw_ok (i1 := 71) (i2 := 362) (i3 := 0) (by decide +kernel) (ab_t2 (List.mem_of_getElem? (i := 64) rfl))
abbrev mB_init : ab_Mt := (⟨"BusServo$Mailbox", "<init>", "()V"⟩, prog_4_method_1_code, 1, none)
def kB_init : ab_Cd := [
  (0, (.aload_n 0, 1, .null, 0, 0)),
  (1, (.invokespecial 1, 3, .ref 85, 0, 0)),
  (4, (.aload_n 0, 1, .null, 0, 0)),
  (5, (.bipush 12, 2, .int 12, 0, 0)),
  (7, (.newarray .int, 2, .null, 0, 0)),
  (9, (.putfield 9, 3, .ref 86, 1, 0)),
  (12, (.aload_n 0, 1, .null, 0, 0)),
  (13, (.bipush 12, 2, .int 12, 0, 0)),
  (15, (.newarray .int, 2, .null, 0, 0)),
  (17, (.putfield 13, 3, .ref 87, 1, 1)),
  (20, (.aload_n 0, 1, .null, 0, 0)),
  (21, (.bipush 12, 2, .int 12, 0, 0)),
  (23, (.newarray .long, 2, .null, 0, 0)),
  (25, (.putfield 16, 3, .ref 88, 1, 2)),
  (28, (.return_, 1, .null, 0, 0))]
set_option maxRecDepth 100000 in
theorem ckB_init : ab_ckM mB_init kB_init = true := by decide +kernel
set_option maxRecDepth 100000 in
theorem wB_init : ab_MW mB_init 2 0 := ab_mw_ok (i1 := 61) (i2 := 83) (i3 := 0) (by decide +kernel) (ab_t1 (List.mem_of_getElem? (i := 25) rfl))
abbrev mB_isBusOn : ab_Mt := (⟨"BusServo$Mailbox", "isBusOn", "()Z"⟩, prog_4_method_2_code, 1, (some .boolean))
def kB_isBusOn : ab_Cd := [
  (0, (.aload_n 0, 1, .null, 0, 0)),
  (1, (.getfield 20, 3, .ref 91, 1, 5)),
  (4, (.ireturn, 1, .null, 0, 0))]
set_option maxRecDepth 100000 in
theorem ckB_isBusOn : ab_ckM mB_isBusOn kB_isBusOn = true := by decide +kernel
set_option maxRecDepth 100000 in
theorem wB_isBusOn : ab_MW mB_isBusOn 1 0 := ab_mw_ok (i1 := 61) (i2 := 275) (i3 := 276) (by decide +kernel) (ab_t1 (List.mem_of_getElem? (i := 218) rfl))
abbrev mB_setBus : ab_Mt := (⟨"BusServo$Mailbox", "setBus", "(Z)V"⟩, prog_4_method_3_code, 2, none)
def kB_setBus : ab_Cd := [
  (0, (.aload_n 0, 1, .null, 0, 0)),
  (1, (.iload_n 1, 1, .null, 0, 0)),
  (2, (.putfield 20, 3, .retAddr 91, 1, 5)),
  (5, (.return_, 1, .null, 0, 0))]
set_option maxRecDepth 100000 in
theorem ckB_setBus : ab_ckM mB_setBus kB_setBus = true := by decide +kernel
set_option maxRecDepth 100000 in
theorem wB_setBus : ab_MW mB_setBus 1 1 := ab_mw_ok (i1 := 61) (i2 := 228) (i3 := 229) (by decide +kernel) (ab_t1 (List.mem_of_getElem? (i := 171) rfl))
abbrev mB_clear : ab_Mt := (⟨"BusServo$Mailbox", "clear", "()V"⟩, prog_4_method_4_code, 1, none)
def kB_clear : ab_Cd := [
  (0, (.aload_n 0, 1, .null, 0, 0)),
  (1, (.iconst 0, 1, .int 0, 0, 0)),
  (2, (.putfield 24, 3, .ref 89, 1, 3)),
  (5, (.return_, 1, .null, 0, 0))]
set_option maxRecDepth 100000 in
theorem ckB_clear : ab_ckM mB_clear kB_clear = true := by decide +kernel
set_option maxRecDepth 100000 in
theorem wB_clear : ab_MW mB_clear 1 0 := ab_mw_ok (i1 := 61) (i2 := 232) (i3 := 233) (by decide +kernel) (ab_t1 (List.mem_of_getElem? (i := 175) rfl))
abbrev mB_size : ab_Mt := (⟨"BusServo$Mailbox", "size", "()I"⟩, prog_4_method_5_code, 1, (some .int))
def kB_size : ab_Cd := [
  (0, (.aload_n 0, 1, .null, 0, 0)),
  (1, (.getfield 24, 3, .ref 89, 1, 3)),
  (4, (.ireturn, 1, .null, 0, 0))]
set_option maxRecDepth 100000 in
theorem ckB_size : ab_ckM mB_size kB_size = true := by decide +kernel
set_option maxRecDepth 100000 in
theorem wB_size : ab_MW mB_size 1 0 := ab_mw_ok (i1 := 61) (i2 := 655) (i3 := 656) (by decide +kernel) (ab_t3 (List.mem_of_getElem? (i := 118) rfl))
abbrev mB_lostFrames : ab_Mt := (⟨"BusServo$Mailbox", "lostFrames", "()I"⟩, prog_4_method_6_code, 1, (some .int))
def kB_lostFrames : ab_Cd := [
  (0, (.aload_n 0, 1, .null, 0, 0)),
  (1, (.getfield 28, 3, .ref 90, 1, 4)),
  (4, (.ireturn, 1, .null, 0, 0))]
set_option maxRecDepth 100000 in
theorem ckB_lostFrames : ab_ckM mB_lostFrames kB_lostFrames = true := by decide +kernel
set_option maxRecDepth 100000 in
theorem wB_lostFrames : ab_MW mB_lostFrames 1 0 := ab_mw_ok (i1 := 61) (i2 := 663) (i3 := 664) (by decide +kernel) (ab_t3 (List.mem_of_getElem? (i := 126) rfl))
abbrev mB_send : ab_Mt := (⟨"BusServo$Mailbox", "send", "(IIJ)V"⟩, prog_4_method_7_code, 6, none)
def kB_send_0 : ab_Cd := [
  (0, (.aload_n 0, 1, .null, 0, 0)),
  (1, (.getfield 20, 3, .ref 91, 1, 5)),
  (4, (.ifCond .eq 12, 3, .null, 0, 16)),
  (7, (.aload_n 0, 1, .null, 0, 0)),
  (8, (.getfield 24, 3, .ref 89, 1, 3)),
  (11, (.bipush 12, 2, .int 12, 0, 0)),
  (13, (.if_icmp .lt 14, 3, .null, 0, 27)),
  (16, (.aload_n 0, 1, .null, 0, 0)),
  (17, (.dup, 1, .null, 0, 0)),
  (18, (.getfield 28, 3, .ref 90, 1, 4)),
  (21, (.iconst 1, 1, .int 1, 0, 0)),
  (22, (.iadd, 1, .null, 0, 0)),
  (23, (.putfield 28, 3, .ref 90, 1, 4)),
  (26, (.return_, 1, .null, 0, 0)),
  (27, (.aload_n 0, 1, .null, 0, 0)),
  (28, (.getfield 24, 3, .ref 89, 1, 3)),
  (31, (.istore 5, 2, .null, 0, 0)),
  (33, (.iload 5, 2, .null, 0, 0)),
  (35, (.ifCond .le 70, 3, .null, 0, 105)),
  (38, (.aload_n 0, 1, .null, 0, 0)),
  (39, (.getfield 9, 3, .ref 86, 1, 0)),
  (42, (.iload 5, 2, .null, 0, 0)),
  (44, (.iconst 1, 1, .int 1, 0, 0)),
  (45, (.isub, 1, .null, 0, 0)),
  (46, (.iaload, 1, .null, 0, 0)),
  (47, (.iload_n 1, 1, .null, 0, 0)),
  (48, (.if_icmp .le 57, 3, .null, 0, 105)),
  (51, (.aload_n 0, 1, .null, 0, 0)),
  (52, (.getfield 9, 3, .ref 86, 1, 0)),
  (55, (.iload 5, 2, .null, 0, 0)),
  (57, (.aload_n 0, 1, .null, 0, 0)),
  (58, (.getfield 9, 3, .ref 86, 1, 0)),
  (61, (.iload 5, 2, .null, 0, 0)),
  (63, (.iconst 1, 1, .int 1, 0, 0)),
  (64, (.isub, 1, .null, 0, 0)),
  (65, (.iaload, 1, .null, 0, 0)),
  (66, (.iastore, 1, .null, 0, 0)),
  (67, (.aload_n 0, 1, .null, 0, 0)),
  (68, (.getfield 13, 3, .ref 87, 1, 1)),
  (71, (.iload 5, 2, .null, 0, 0)),
  (73, (.aload_n 0, 1, .null, 0, 0)),
  (74, (.getfield 13, 3, .ref 87, 1, 1)),
  (77, (.iload 5, 2, .null, 0, 0)),
  (79, (.iconst 1, 1, .int 1, 0, 0)),
  (80, (.isub, 1, .null, 0, 0)),
  (81, (.iaload, 1, .null, 0, 0)),
  (82, (.iastore, 1, .null, 0, 0)),
  (83, (.aload_n 0, 1, .null, 0, 0)),
  (84, (.getfield 16, 3, .ref 88, 1, 2)),
  (87, (.iload 5, 2, .null, 0, 0)),
  (89, (.aload_n 0, 1, .null, 0, 0)),
  (90, (.getfield 16, 3, .ref 88, 1, 2)),
  (93, (.iload 5, 2, .null, 0, 0)),
  (95, (.iconst 1, 1, .int 1, 0, 0)),
  (96, (.isub, 1, .null, 0, 0)),
  (97, (.laload, 1, .null, 0, 0)),
  (98, (.lastore, 1, .null, 0, 0)),
  (99, (.iinc 5 (-1), 3, .int (-1), 0, 0)),
  (102, (.goto (-69), 3, .null, 0, 33)),
  (105, (.aload_n 0, 1, .null, 0, 0)),
  (106, (.getfield 9, 3, .ref 86, 1, 0)),
  (109, (.iload 5, 2, .null, 0, 0)),
  (111, (.iload_n 1, 1, .null, 0, 0)),
  (112, (.iastore, 1, .null, 0, 0))]
set_option maxRecDepth 100000 in
theorem ckB_send_0 : ab_ckM mB_send kB_send_0 = true := by decide +kernel
def kB_send_1 : ab_Cd := [
  (113, (.aload_n 0, 1, .null, 0, 0)),
  (114, (.getfield 13, 3, .ref 87, 1, 1)),
  (117, (.iload 5, 2, .null, 0, 0)),
  (119, (.iload_n 2, 1, .null, 0, 0)),
  (120, (.iastore, 1, .null, 0, 0)),
  (121, (.aload_n 0, 1, .null, 0, 0)),
  (122, (.getfield 16, 3, .ref 88, 1, 2)),
  (125, (.iload 5, 2, .null, 0, 0)),
  (127, (.lload_n 3, 1, .null, 0, 0)),
  (128, (.lastore, 1, .null, 0, 0)),
  (129, (.aload_n 0, 1, .null, 0, 0)),
  (130, (.dup, 1, .null, 0, 0)),
  (131, (.getfield 24, 3, .ref 89, 1, 3)),
  (134, (.iconst 1, 1, .int 1, 0, 0)),
  (135, (.iadd, 1, .null, 0, 0)),
  (136, (.putfield 24, 3, .ref 89, 1, 3)),
  (139, (.return_, 1, .null, 0, 0))]
set_option maxRecDepth 100000 in
theorem ckB_send_1 : ab_ckM mB_send kB_send_1 = true := by decide +kernel
def kB_send : ab_Cd := kB_send_0 ++ (kB_send_1)
theorem ckB_send : ab_ckM mB_send kB_send = true := ab_ck_app ckB_send_0 (ckB_send_1)
set_option maxRecDepth 100000 in
theorem wB_send : ab_MW mB_send 1 3 := ab_mw_ok (i1 := 61) (i2 := 236) (i3 := 237) (by decide +kernel) (ab_t1 (List.mem_of_getElem? (i := 179) rfl))
abbrev mB_firstIdentifier : ab_Mt := (⟨"BusServo$Mailbox", "firstIdentifier", "()I"⟩, prog_4_method_8_code, 1, (some .int))
def kB_firstIdentifier : ab_Cd := [
  (0, (.aload_n 0, 1, .null, 0, 0)),
  (1, (.getfield 24, 3, .ref 89, 1, 3)),
  (4, (.ifCond .ne 7, 3, .null, 0, 11)),
  (7, (.iconst (-1), 1, .int (-1), 0, 0)),
  (8, (.goto 9, 3, .null, 0, 17)),
  (11, (.aload_n 0, 1, .null, 0, 0)),
  (12, (.getfield 9, 3, .ref 86, 1, 0)),
  (15, (.iconst 0, 1, .int 0, 0, 0)),
  (16, (.iaload, 1, .null, 1, 0)),
  (17, (.ireturn, 1, .null, 0, 0))]
set_option maxRecDepth 100000 in
theorem ckB_firstIdentifier : ab_ckM mB_firstIdentifier kB_firstIdentifier = true := by decide +kernel
set_option maxRecDepth 100000 in
theorem wB_firstIdentifier : ab_MW mB_firstIdentifier 1 0 := ab_mw_ok (i1 := 61) (i2 := 623) (i3 := 624) (by decide +kernel) (ab_t3 (List.mem_of_getElem? (i := 86) rfl))
abbrev mB_firstLength : ab_Mt := (⟨"BusServo$Mailbox", "firstLength", "()I"⟩, prog_4_method_9_code, 1, (some .int))
def kB_firstLength : ab_Cd := [
  (0, (.aload_n 0, 1, .null, 0, 0)),
  (1, (.getfield 24, 3, .ref 89, 1, 3)),
  (4, (.ifCond .ne 7, 3, .null, 0, 11)),
  (7, (.iconst (-1), 1, .int (-1), 0, 0)),
  (8, (.goto 9, 3, .null, 0, 17)),
  (11, (.aload_n 0, 1, .null, 0, 0)),
  (12, (.getfield 13, 3, .ref 87, 1, 1)),
  (15, (.iconst 0, 1, .int 0, 0, 0)),
  (16, (.iaload, 1, .null, 1, 0)),
  (17, (.ireturn, 1, .null, 0, 0))]
set_option maxRecDepth 100000 in
theorem ckB_firstLength : ab_ckM mB_firstLength kB_firstLength = true := by decide +kernel
set_option maxRecDepth 100000 in
theorem wB_firstLength : ab_MW mB_firstLength 1 0 := ab_mw_ok (i1 := 61) (i2 := 631) (i3 := 632) (by decide +kernel) (ab_t3 (List.mem_of_getElem? (i := 94) rfl))
abbrev mB_firstData : ab_Mt := (⟨"BusServo$Mailbox", "firstData", "()J"⟩, prog_4_method_10_code, 1, (some .long))
def kB_firstData : ab_Cd := [
  (0, (.aload_n 0, 1, .null, 0, 0)),
  (1, (.getfield 24, 3, .ref 89, 1, 3)),
  (4, (.ifCond .ne 7, 3, .null, 0, 11)),
  (7, (.lconst 0, 1, .long 0, 0, 0)),
  (8, (.goto 9, 3, .null, 0, 17)),
  (11, (.aload_n 0, 1, .null, 0, 0)),
  (12, (.getfield 16, 3, .ref 88, 1, 2)),
  (15, (.iconst 0, 1, .int 0, 0, 0)),
  (16, (.laload, 1, .null, 0, 0)),
  (17, (.lreturn, 1, .null, 0, 0))]
set_option maxRecDepth 100000 in
theorem ckB_firstData : ab_ckM mB_firstData kB_firstData = true := by decide +kernel
set_option maxRecDepth 100000 in
theorem wB_firstData : ab_MW mB_firstData 1 0 := ab_mw_ok (i1 := 61) (i2 := 639) (i3 := 640) (by decide +kernel) (ab_t3 (List.mem_of_getElem? (i := 102) rfl))
abbrev mB_dropFirst : ab_Mt := (⟨"BusServo$Mailbox", "dropFirst", "()Z"⟩, prog_4_method_11_code, 2, (some .boolean))
def kB_dropFirst : ab_Cd := [
  (0, (.aload_n 0, 1, .null, 0, 0)),
  (1, (.getfield 24, 3, .ref 89, 1, 3)),
  (4, (.ifCond .ne 5, 3, .null, 0, 9)),
  (7, (.iconst 0, 1, .int 0, 0, 0)),
  (8, (.ireturn, 1, .null, 0, 0)),
  (9, (.aload_n 0, 1, .null, 0, 0)),
  (10, (.dup, 1, .null, 0, 0)),
  (11, (.getfield 24, 3, .ref 89, 1, 3)),
  (14, (.iconst 1, 1, .int 1, 0, 0)),
  (15, (.isub, 1, .null, 0, 0)),
  (16, (.putfield 24, 3, .ref 89, 1, 3)),
  (19, (.iconst 0, 1, .int 0, 0, 0)),
  (20, (.istore_n 1, 1, .null, 0, 0)),
  (21, (.iload_n 1, 1, .null, 0, 0)),
  (22, (.aload_n 0, 1, .null, 0, 0)),
  (23, (.getfield 24, 3, .ref 89, 1, 3)),
  (26, (.if_icmp .ge 51, 3, .null, 0, 77)),
  (29, (.aload_n 0, 1, .null, 0, 0)),
  (30, (.getfield 9, 3, .ref 86, 1, 0)),
  (33, (.iload_n 1, 1, .null, 0, 0)),
  (34, (.aload_n 0, 1, .null, 0, 0)),
  (35, (.getfield 9, 3, .ref 86, 1, 0)),
  (38, (.iload_n 1, 1, .null, 0, 0)),
  (39, (.iconst 1, 1, .int 1, 0, 0)),
  (40, (.iadd, 1, .null, 0, 0)),
  (41, (.iaload, 1, .null, 0, 0)),
  (42, (.iastore, 1, .null, 0, 0)),
  (43, (.aload_n 0, 1, .null, 0, 0)),
  (44, (.getfield 13, 3, .ref 87, 1, 1)),
  (47, (.iload_n 1, 1, .null, 0, 0)),
  (48, (.aload_n 0, 1, .null, 0, 0)),
  (49, (.getfield 13, 3, .ref 87, 1, 1)),
  (52, (.iload_n 1, 1, .null, 0, 0)),
  (53, (.iconst 1, 1, .int 1, 0, 0)),
  (54, (.iadd, 1, .null, 0, 0)),
  (55, (.iaload, 1, .null, 0, 0)),
  (56, (.iastore, 1, .null, 0, 0)),
  (57, (.aload_n 0, 1, .null, 0, 0)),
  (58, (.getfield 16, 3, .ref 88, 1, 2)),
  (61, (.iload_n 1, 1, .null, 0, 0)),
  (62, (.aload_n 0, 1, .null, 0, 0)),
  (63, (.getfield 16, 3, .ref 88, 1, 2)),
  (66, (.iload_n 1, 1, .null, 0, 0)),
  (67, (.iconst 1, 1, .int 1, 0, 0)),
  (68, (.iadd, 1, .null, 0, 0)),
  (69, (.laload, 1, .null, 0, 0)),
  (70, (.lastore, 1, .null, 0, 0)),
  (71, (.iinc 1 1, 3, .int 1, 0, 0)),
  (74, (.goto (-53), 3, .null, 0, 21)),
  (77, (.iconst 1, 1, .int 1, 0, 0)),
  (78, (.ireturn, 1, .null, 0, 0))]
set_option maxRecDepth 100000 in
theorem ckB_dropFirst : ab_ckM mB_dropFirst kB_dropFirst = true := by decide +kernel
set_option maxRecDepth 100000 in
theorem wB_dropFirst : ab_MW mB_dropFirst 1 0 := ab_mw_ok (i1 := 61) (i2 := 647) (i3 := 648) (by decide +kernel) (ab_t3 (List.mem_of_getElem? (i := 110) rfl))
abbrev mG_number : ab_Mt := (⟨"BusServo$Mapping", "number", "(JI)I"⟩, prog_5_method_2_code, 3, (some .int))
def kG_number : ab_Cd := [
  (0, (.iload_n 2, 1, .null, 0, 0)),
  (1, (.iconst 4, 1, .int 4, 0, 0)),
  (2, (.if_icmp .lt 8, 3, .null, 0, 10)),
  (5, (.lload_n 0, 1, .null, 0, 0)),
  (6, (.l2i, 1, .null, 0, 0)),
  (7, (.goto 14, 3, .null, 0, 21)),
  (10, (.lload_n 0, 1, .null, 0, 0)),
  (11, (.l2i, 1, .null, 0, 0)),
  (12, (.iconst 1, 1, .int 1, 0, 0)),
  (13, (.bipush 8, 2, .int 8, 0, 0)),
  (15, (.iload_n 2, 1, .null, 0, 0)),
  (16, (.imul, 1, .null, 0, 0)),
  (17, (.ishl, 1, .null, 0, 0)),
  (18, (.iconst 1, 1, .int 1, 0, 0)),
  (19, (.isub, 1, .null, 0, 0)),
  (20, (.iand, 1, .null, 0, 0)),
  (21, (.ireturn, 1, .null, 0, 0))]
set_option maxRecDepth 100000 in
theorem ckG_number : ab_ckM mG_number kG_number = true := by decide +kernel
set_option maxRecDepth 100000 in
theorem wG_number : ab_MW mG_number 0 2 := ab_mw_ok (i1 := 70) (i2 := 359) (i3 := 0) (by decide +kernel) (ab_t2 (List.mem_of_getElem? (i := 61) rfl))
abbrev mG_refusalOfCount : ab_Mt := (⟨"BusServo$Mapping", "refusalOfCount", "([III)I"⟩, prog_5_method_3_code, 7, (some .int))
def kG_refusalOfCount : ab_Cd := [
  (0, (.iconst 0, 1, .int 0, 0, 0)),
  (1, (.istore_n 3, 1, .null, 0, 0)),
  (2, (.iconst 1, 1, .int 1, 0, 0)),
  (3, (.istore 4, 2, .null, 0, 0)),
  (5, (.iload 4, 2, .null, 0, 0)),
  (7, (.iload_n 2, 1, .null, 0, 0)),
  (8, (.if_icmp .gt 59, 3, .null, 0, 67)),
  (11, (.aload_n 0, 1, .null, 0, 0)),
  (12, (.iload_n 1, 1, .null, 0, 0)),
  (13, (.iload 4, 2, .null, 0, 0)),
  (15, (.iadd, 1, .null, 0, 0)),
  (16, (.iaload, 1, .null, 0, 0)),
  (17, (.istore 5, 2, .null, 0, 0)),
  (19, (.iload 5, 2, .null, 0, 0)),
  (21, (.invokestatic 7, 3, .ref 329, 0, 0)),
  (24, (.istore 6, 2, .null, 0, 0)),
  (26, (.iload 6, 2, .null, 0, 0)),
  (28, (.iconst (-1), 1, .int (-1), 0, 0)),
  (29, (.if_icmp .eq 12, 3, .null, 0, 41)),
  (32, (.iload 6, 2, .null, 0, 0)),
  (34, (.iload_n 1, 1, .null, 0, 0)),
  (35, (.invokestatic 15, 3, .ref 450, 0, 0)),
  (38, (.ifCond .ne 6, 3, .null, 0, 44)),
  (41, (.ldc 21, 2, .int 100925505, 0, 454)),
  (43, (.ireturn, 1, .null, 0, 0)),
  (44, (.iload_n 3, 1, .null, 0, 0)),
  (45, (.iload 6, 2, .null, 0, 0)),
  (47, (.invokestatic 22, 3, .ref 336, 0, 0)),
  (50, (.iadd, 1, .null, 0, 0)),
  (51, (.istore_n 3, 1, .null, 0, 0)),
  (52, (.iload_n 3, 1, .null, 0, 0)),
  (53, (.bipush 8, 2, .int 8, 0, 0)),
  (55, (.if_icmp .le 6, 3, .null, 0, 61)),
  (58, (.ldc 25, 2, .int 100925506, 0, 455)),
  (60, (.ireturn, 1, .null, 0, 0)),
  (61, (.iinc 4 1, 3, .int 1, 0, 0)),
  (64, (.goto (-59), 3, .null, 0, 5)),
  (67, (.iconst 0, 1, .int 0, 0, 0)),
  (68, (.ireturn, 1, .null, 0, 0))]
set_option maxRecDepth 100000 in
theorem ckG_refusalOfCount : ab_ckM mG_refusalOfCount kG_refusalOfCount = true := by decide +kernel
set_option maxRecDepth 100000 in
theorem wG_refusalOfCount : ab_MW mG_refusalOfCount 0 3 := ab_mw_ok (i1 := 70) (i2 := 448) (i3 := 0) (by decide +kernel) (ab_t2 (List.mem_of_getElem? (i := 150) rfl))
abbrev mG_slotOf : ab_Mt := (⟨"BusServo$Mapping", "slotOf", "(I)I"⟩, prog_5_method_4_code, 3, (some .int))
def kG_slotOf : ab_Cd := [
  (0, (.iload_n 0, 1, .null, 0, 0)),
  (1, (.bipush 16, 2, .int 16, 0, 0)),
  (3, (.iushr, 1, .null, 0, 0)),
  (4, (.istore_n 1, 1, .null, 0, 0)),
  (5, (.iload_n 1, 1, .null, 0, 0)),
  (6, (.iload_n 0, 1, .null, 0, 0)),
  (7, (.bipush 8, 2, .int 8, 0, 0)),
  (9, (.iushr, 1, .null, 0, 0)),
  (10, (.sipush 255, 3, .int 255, 0, 0)),
  (13, (.iand, 1, .null, 0, 0)),
  (14, (.invokestatic 26, 3, .ref 332, 0, 0)),
  (17, (.istore_n 2, 1, .null, 0, 0)),
  (18, (.iload_n 2, 1, .null, 0, 0)),
  (19, (.iconst (-1), 1, .int (-1), 0, 0)),
  (20, (.if_icmp .eq 25, 3, .null, 0, 45)),
  (23, (.iload_n 1, 1, .null, 0, 0)),
  (24, (.sipush 24576, 3, .int 24576, 0, 0)),
  (27, (.if_icmp .lt 18, 3, .null, 0, 45)),
  (30, (.iload_n 0, 1, .null, 0, 0)),
  (31, (.sipush 255, 3, .int 255, 0, 0)),
  (34, (.iand, 1, .null, 0, 0)),
  (35, (.bipush 8, 2, .int 8, 0, 0)),
  (37, (.iload_n 2, 1, .null, 0, 0)),
  (38, (.invokestatic 22, 3, .ref 336, 0, 0)),
  (41, (.imul, 1, .null, 0, 0)),
  (42, (.if_icmp .eq 5, 3, .null, 0, 47)),
  (45, (.iconst (-1), 1, .int (-1), 0, 0)),
  (46, (.ireturn, 1, .null, 0, 0)),
  (47, (.iload_n 2, 1, .null, 0, 0)),
  (48, (.ireturn, 1, .null, 0, 0))]
set_option maxRecDepth 100000 in
theorem ckG_slotOf : ab_ckM mG_slotOf kG_slotOf = true := by decide +kernel
set_option maxRecDepth 100000 in
theorem wG_slotOf : ab_MW mG_slotOf 0 1 := ab_mw_ok (i1 := 70) (i2 := 330) (i3 := 0) (by decide +kernel) (ab_t2 (List.mem_of_getElem? (i := 32) rfl))
abbrev mG_isMappable : ab_Mt := (⟨"BusServo$Mapping", "isMappable", "(II)Z"⟩, prog_5_method_5_code, 3, (some .boolean))
def kG_isMappable : ab_Cd := [
  (0, (.iload_n 0, 1, .null, 0, 0)),
  (1, (.invokestatic 30, 3, .ref 453, 0, 0)),
  (4, (.istore_n 2, 1, .null, 0, 0)),
  (5, (.iload_n 1, 1, .null, 0, 0)),
  (6, (.iconst 5, 1, .int 5, 0, 0)),
  (7, (.if_icmp .ne 14, 3, .null, 0, 21)),
  (10, (.iload_n 2, 1, .null, 0, 0)),
  (11, (.iconst 2, 1, .int 2, 0, 0)),
  (12, (.if_icmp .ne 7, 3, .null, 0, 19)),
  (15, (.iconst 1, 1, .int 1, 0, 0)),
  (16, (.goto 4, 3, .null, 0, 20)),
  (19, (.iconst 0, 1, .int 0, 0, 0)),
  (20, (.ireturn, 1, .null, 0, 0)),
  (21, (.iload_n 2, 1, .null, 0, 0)),
  (22, (.ifCond .eq 13, 3, .null, 0, 35)),
  (25, (.iload_n 2, 1, .null, 0, 0)),
  (26, (.iconst 2, 1, .int 2, 0, 0)),
  (27, (.if_icmp .eq 8, 3, .null, 0, 35)),
  (30, (.iload_n 2, 1, .null, 0, 0)),
  (31, (.iconst 3, 1, .int 3, 0, 0)),
  (32, (.if_icmp .ne 7, 3, .null, 0, 39)),
  (35, (.iconst 1, 1, .int 1, 0, 0)),
  (36, (.goto 4, 3, .null, 0, 40)),
  (39, (.iconst 0, 1, .int 0, 0, 0)),
  (40, (.ireturn, 1, .null, 0, 0))]
set_option maxRecDepth 100000 in
theorem ckG_isMappable : ab_ckM mG_isMappable kG_isMappable = true := by decide +kernel
set_option maxRecDepth 100000 in
theorem wG_isMappable : ab_MW mG_isMappable 0 2 := ab_mw_ok (i1 := 70) (i2 := 451) (i3 := 0) (by decide +kernel) (ab_t2 (List.mem_of_getElem? (i := 153) rfl))
abbrev mG_totalBytes : ab_Mt := (⟨"BusServo$Mapping", "totalBytes", "([II)I"⟩, prog_5_method_6_code, 5, (some .int))
def kG_totalBytes : ab_Cd := [
  (0, (.iconst 0, 1, .int 0, 0, 0)),
  (1, (.istore_n 2, 1, .null, 0, 0)),
  (2, (.aload_n 0, 1, .null, 0, 0)),
  (3, (.iload_n 1, 1, .null, 0, 0)),
  (4, (.iaload, 1, .null, 0, 0)),
  (5, (.istore_n 3, 1, .null, 0, 0)),
  (6, (.iconst 1, 1, .int 1, 0, 0)),
  (7, (.istore 4, 2, .null, 0, 0)),
  (9, (.iload 4, 2, .null, 0, 0)),
  (11, (.iload_n 3, 1, .null, 0, 0)),
  (12, (.if_icmp .gt 25, 3, .null, 0, 37)),
  (15, (.iload_n 2, 1, .null, 0, 0)),
  (16, (.aload_n 0, 1, .null, 0, 0)),
  (17, (.iload_n 1, 1, .null, 0, 0)),
  (18, (.iload 4, 2, .null, 0, 0)),
  (20, (.iadd, 1, .null, 0, 0)),
  (21, (.iaload, 1, .null, 0, 0)),
  (22, (.sipush 255, 3, .int 255, 0, 0)),
  (25, (.iand, 1, .null, 0, 0)),
  (26, (.bipush 8, 2, .int 8, 0, 0)),
  (28, (.idiv, 1, .null, 1, 0)),
  (29, (.iadd, 1, .null, 0, 0)),
  (30, (.istore_n 2, 1, .null, 0, 0)),
  (31, (.iinc 4 1, 3, .int 1, 0, 0)),
  (34, (.goto (-25), 3, .null, 0, 9)),
  (37, (.iload_n 2, 1, .null, 0, 0)),
  (38, (.ireturn, 1, .null, 0, 0))]
set_option maxRecDepth 100000 in
theorem ckG_totalBytes : ab_ckM mG_totalBytes kG_totalBytes = true := by decide +kernel
set_option maxRecDepth 100000 in
theorem wG_totalBytes : ab_MW mG_totalBytes 0 2 := ab_mw_ok (i1 := 70) (i2 := 341) (i3 := 0) (by decide +kernel) (ab_t2 (List.mem_of_getElem? (i := 43) rfl))
abbrev mG_pack : ab_Mt := (⟨"BusServo$Mapping", "pack", "([I)J"⟩, prog_5_method_7_code, 7, (some .long))
def kG_pack : ab_Cd := [
  (0, (.lconst 0, 1, .long 0, 0, 0)),
  (1, (.lstore_n 1, 1, .null, 0, 0)),
  (2, (.iconst 0, 1, .int 0, 0, 0)),
  (3, (.istore_n 3, 1, .null, 0, 0)),
  (4, (.aload_n 0, 1, .null, 0, 0)),
  (5, (.bipush 12, 2, .int 12, 0, 0)),
  (7, (.iaload, 1, .null, 1, 0)),
  (8, (.istore 4, 2, .null, 0, 0)),
  (10, (.iconst 1, 1, .int 1, 0, 0)),
  (11, (.istore 5, 2, .null, 0, 0)),
  (13, (.iload 5, 2, .null, 0, 0)),
  (15, (.iload 4, 2, .null, 0, 0)),
  (17, (.if_icmp .gt 52, 3, .null, 0, 69)),
  (20, (.aload_n 0, 1, .null, 0, 0)),
  (21, (.bipush 12, 2, .int 12, 0, 0)),
  (23, (.iload 5, 2, .null, 0, 0)),
  (25, (.iadd, 1, .null, 0, 0)),
  (26, (.iaload, 1, .null, 0, 0)),
  (27, (.invokestatic 7, 3, .ref 329, 0, 0)),
  (30, (.istore 6, 2, .null, 0, 0)),
  (32, (.iload 6, 2, .null, 0, 0)),
  (34, (.iconst (-1), 1, .int (-1), 0, 0)),
  (35, (.if_icmp .eq 28, 3, .null, 0, 63)),
  (38, (.lload_n 1, 1, .null, 0, 0)),
  (39, (.aload_n 0, 1, .null, 0, 0)),
  (40, (.iload 6, 2, .null, 0, 0)),
  (42, (.iaload, 1, .null, 0, 0)),
  (43, (.i2l, 1, .null, 0, 0)),
  (44, (.ldc2_w 33, 3, .long 4294967295, 0, 339)),
  (47, (.land, 1, .null, 0, 0)),
  (48, (.iload_n 3, 1, .null, 0, 0)),
  (49, (.lshl, 1, .null, 0, 0)),
  (50, (.lor, 1, .null, 0, 0)),
  (51, (.lstore_n 1, 1, .null, 0, 0)),
  (52, (.iload_n 3, 1, .null, 0, 0)),
  (53, (.bipush 8, 2, .int 8, 0, 0)),
  (55, (.iload 6, 2, .null, 0, 0)),
  (57, (.invokestatic 22, 3, .ref 336, 0, 0)),
  (60, (.imul, 1, .null, 0, 0)),
  (61, (.iadd, 1, .null, 0, 0)),
  (62, (.istore_n 3, 1, .null, 0, 0)),
  (63, (.iinc 5 1, 3, .int 1, 0, 0)),
  (66, (.goto (-53), 3, .null, 0, 13)),
  (69, (.lload_n 1, 1, .null, 0, 0)),
  (70, (.lreturn, 1, .null, 0, 0))]
set_option maxRecDepth 100000 in
theorem ckG_pack : ab_ckM mG_pack kG_pack = true := by decide +kernel
set_option maxRecDepth 100000 in
theorem wG_pack : ab_MW mG_pack 0 1 := ab_mw_ok (i1 := 70) (i2 := 327) (i3 := 0) (by decide +kernel) (ab_t2 (List.mem_of_getElem? (i := 29) rfl))
abbrev mG_unpack : ab_Mt := (⟨"BusServo$Mapping", "unpack", "([IJ)V"⟩, prog_5_method_8_code, 9, none)
def kG_unpack : ab_Cd := [
  (0, (.lload_n 1, 1, .null, 0, 0)),
  (1, (.lstore_n 3, 1, .null, 0, 0)),
  (2, (.aload_n 0, 1, .null, 0, 0)),
  (3, (.iconst 5, 1, .int 5, 0, 0)),
  (4, (.iaload, 1, .null, 1, 0)),
  (5, (.istore 5, 2, .null, 0, 0)),
  (7, (.iconst 1, 1, .int 1, 0, 0)),
  (8, (.istore 6, 2, .null, 0, 0)),
  (10, (.iload 6, 2, .null, 0, 0)),
  (12, (.iload 5, 2, .null, 0, 0)),
  (14, (.if_icmp .gt 64, 3, .null, 0, 78)),
  (17, (.aload_n 0, 1, .null, 0, 0)),
  (18, (.iconst 5, 1, .int 5, 0, 0)),
  (19, (.iload 6, 2, .null, 0, 0)),
  (21, (.iadd, 1, .null, 0, 0)),
  (22, (.iaload, 1, .null, 0, 0)),
  (23, (.invokestatic 7, 3, .ref 329, 0, 0)),
  (26, (.istore 7, 2, .null, 0, 0)),
  (28, (.iload 7, 2, .null, 0, 0)),
  (30, (.iconst (-1), 1, .int (-1), 0, 0)),
  (31, (.if_icmp .eq 41, 3, .null, 0, 72)),
  (34, (.lload_n 3, 1, .null, 0, 0)),
  (35, (.iload 7, 2, .null, 0, 0)),
  (37, (.invokestatic 22, 3, .ref 336, 0, 0)),
  (40, (.invokestatic 35, 3, .ref 358, 0, 0)),
  (43, (.istore 8, 2, .null, 0, 0)),
  (45, (.iload 7, 2, .null, 0, 0)),
  (47, (.iload 8, 2, .null, 0, 0)),
  (49, (.invokestatic 39, 3, .ref 361, 0, 0)),
  (52, (.ifCond .ne 9, 3, .null, 0, 61)),
  (55, (.aload_n 0, 1, .null, 0, 0)),
  (56, (.iload 7, 2, .null, 0, 0)),
  (58, (.iload 8, 2, .null, 0, 0)),
  (60, (.iastore, 1, .null, 0, 0)),
  (61, (.lload_n 3, 1, .null, 0, 0)),
  (62, (.bipush 8, 2, .int 8, 0, 0)),
  (64, (.iload 7, 2, .null, 0, 0)),
  (66, (.invokestatic 22, 3, .ref 336, 0, 0)),
  (69, (.imul, 1, .null, 0, 0)),
  (70, (.lushr, 1, .null, 0, 0)),
  (71, (.lstore_n 3, 1, .null, 0, 0)),
  (72, (.iinc 6 1, 3, .int 1, 0, 0)),
  (75, (.goto (-65), 3, .null, 0, 10)),
  (78, (.return_, 1, .null, 0, 0))]
set_option maxRecDepth 100000 in
theorem ckG_unpack : ab_ckM mG_unpack kG_unpack = true := by decide +kernel
set_option maxRecDepth 100000 in
theorem wG_unpack : ab_MW mG_unpack 0 2 := ab_mw_ok (i1 := 70) (i2 := 356) (i3 := 0) (by decide +kernel) (ab_t2 (List.mem_of_getElem? (i := 58) rfl))
abbrev mV_init : ab_Mt := (⟨"BusServo$Motion", "<init>", "([I)V"⟩, prog_6_method_1_code, 2, none)
def kV_init : ab_Cd := [
  (0, (.aload_n 0, 1, .null, 0, 0)),
  (1, (.invokespecial 1, 3, .ref 146, 0, 0)),
  (4, (.aload_n 0, 1, .null, 0, 0)),
  (5, (.aload_n 1, 1, .null, 0, 0)),
  (6, (.putfield 7, 3, .ref 147, 4, 0)),
  (9, (.return_, 1, .null, 0, 0))]
set_option maxRecDepth 100000 in
theorem ckV_init : ab_ckM mV_init kV_init = true := by decide +kernel
set_option maxRecDepth 100000 in
theorem wV_init : ab_MW mV_init 2 1 := ab_mw_ok (i1 := 64) (i2 := 144) (i3 := 0) (by decide +kernel) (ab_t1 (List.mem_of_getElem? (i := 86) rfl))
abbrev mV_demanded : ab_Mt := (⟨"BusServo$Motion", "demanded", "()I"⟩, prog_6_method_2_code, 1, (some .int))
def kV_demanded : ab_Cd := [
  (0, (.aload_n 0, 1, .null, 0, 0)),
  (1, (.getfield 13, 3, .ref 148, 4, 1)),
  (4, (.ireturn, 1, .null, 0, 0))]
set_option maxRecDepth 100000 in
theorem ckV_demanded : ab_ckM mV_demanded kV_demanded = true := by decide +kernel
set_option maxRecDepth 100000 in
theorem wV_demanded : ab_MW mV_demanded 1 0 := ab_mw_ok (i1 := 64) (i2 := 523) (i3 := 524) (by decide +kernel) (ab_t2 (List.mem_of_getElem? (i := 226) rfl))
abbrev mV_isArrived : ab_Mt := (⟨"BusServo$Motion", "isArrived", "()Z"⟩, prog_6_method_3_code, 1, (some .boolean))
def kV_isArrived : ab_Cd := [
  (0, (.aload_n 0, 1, .null, 0, 0)),
  (1, (.getfield 7, 3, .ref 147, 4, 0)),
  (4, (.bipush 18, 2, .int 18, 0, 0)),
  (6, (.iaload, 1, .null, 1, 0)),
  (7, (.iconst 1, 1, .int 1, 0, 0)),
  (8, (.if_icmp .ne 28, 3, .null, 0, 36)),
  (11, (.aload_n 0, 1, .null, 0, 0)),
  (12, (.getfield 7, 3, .ref 147, 4, 0)),
  (15, (.bipush 21, 2, .int 21, 0, 0)),
  (17, (.iaload, 1, .null, 1, 0)),
  (18, (.ifCond .ne 18, 3, .null, 0, 36)),
  (21, (.aload_n 0, 1, .null, 0, 0)),
  (22, (.getfield 13, 3, .ref 148, 4, 1)),
  (25, (.aload_n 0, 1, .null, 0, 0)),
  (26, (.invokevirtual 19, 3, .ref 316, 0, 0)),
  (29, (.if_icmp .ne 7, 3, .null, 0, 36)),
  (32, (.iconst 1, 1, .int 1, 0, 0)),
  (33, (.goto 4, 3, .null, 0, 37)),
  (36, (.iconst 0, 1, .int 0, 0, 0)),
  (37, (.ireturn, 1, .null, 0, 0))]
set_option maxRecDepth 100000 in
theorem ckV_isArrived : ab_ckM mV_isArrived kV_isArrived = true := by decide +kernel
set_option maxRecDepth 100000 in
theorem wV_isArrived : ab_MW mV_isArrived 1 0 := ab_mw_ok (i1 := 64) (i2 := 313) (i3 := 314) (by decide +kernel) (ab_t2 (List.mem_of_getElem? (i := 16) rfl))
abbrev mV_rest : ab_Mt := (⟨"BusServo$Motion", "rest", "(I)V"⟩, prog_6_method_4_code, 2, none)
def kV_rest : ab_Cd := [
  (0, (.aload_n 0, 1, .null, 0, 0)),
  (1, (.getfield 7, 3, .ref 147, 4, 0)),
  (4, (.bipush 21, 2, .int 21, 0, 0)),
  (6, (.iconst 0, 1, .int 0, 0, 0)),
  (7, (.iastore, 1, .null, 1, 0)),
  (8, (.aload_n 0, 1, .null, 0, 0)),
  (9, (.iload_n 1, 1, .null, 0, 0)),
  (10, (.putfield 13, 3, .ref 148, 4, 1)),
  (13, (.return_, 1, .null, 0, 0))]
set_option maxRecDepth 100000 in
theorem ckV_rest : ab_ckM mV_rest kV_rest = true := by decide +kernel
set_option maxRecDepth 100000 in
theorem wV_rest : ab_MW mV_rest 1 1 := ab_mw_ok (i1 := 64) (i2 := 212) (i3 := 213) (by decide +kernel) (ab_t1 (List.mem_of_getElem? (i := 155) rfl))
abbrev mV_brake : ab_Mt := (⟨"BusServo$Motion", "brake", "()V"⟩, prog_6_method_5_code, 1, none)
def kV_brake : ab_Cd := [
  (0, (.aload_n 0, 1, .null, 0, 0)),
  (1, (.aload_n 0, 1, .null, 0, 0)),
  (2, (.getfield 7, 3, .ref 147, 4, 0)),
  (5, (.bipush 21, 2, .int 21, 0, 0)),
  (7, (.iaload, 1, .null, 1, 0)),
  (8, (.aload_n 0, 1, .null, 0, 0)),
  (9, (.getfield 7, 3, .ref 147, 4, 0)),
  (12, (.bipush 28, 2, .int 28, 0, 0)),
  (14, (.iaload, 1, .null, 1, 0)),
  (15, (.invokestatic 23, 3, .ref 566, 0, 0)),
  (18, (.invokevirtual 27, 3, .ref 569, 0, 0)),
  (21, (.return_, 1, .null, 0, 0))]
set_option maxRecDepth 100000 in
theorem ckV_brake : ab_ckM mV_brake kV_brake = true := by decide +kernel
set_option maxRecDepth 100000 in
theorem wV_brake : ab_MW mV_brake 1 0 := ab_mw_ok (i1 := 64) (i2 := 586) (i3 := 587) (by decide +kernel) (ab_t3 (List.mem_of_getElem? (i := 49) rfl))
abbrev mV_follow : ab_Mt := (⟨"BusServo$Motion", "follow", "()V"⟩, prog_6_method_6_code, 2, none)
def kV_follow : ab_Cd := [
  (0, (.aload_n 0, 1, .null, 0, 0)),
  (1, (.getfield 7, 3, .ref 147, 4, 0)),
  (4, (.bipush 18, 2, .int 18, 0, 0)),
  (6, (.iaload, 1, .null, 1, 0)),
  (7, (.iconst 1, 1, .int 1, 0, 0)),
  (8, (.if_icmp .ne 31, 3, .null, 0, 39)),
  (11, (.aload_n 0, 1, .null, 0, 0)),
  (12, (.aload_n 0, 1, .null, 0, 0)),
  (13, (.invokevirtual 19, 3, .ref 316, 0, 0)),
  (16, (.aload_n 0, 1, .null, 0, 0)),
  (17, (.getfield 7, 3, .ref 147, 4, 0)),
  (20, (.bipush 26, 2, .int 26, 0, 0)),
  (22, (.iaload, 1, .null, 1, 0)),
  (23, (.aload_n 0, 1, .null, 0, 0)),
  (24, (.getfield 7, 3, .ref 147, 4, 0)),
  (27, (.bipush 25, 2, .int 25, 0, 0)),
  (29, (.iaload, 1, .null, 1, 0)),
  (30, (.invokestatic 31, 3, .ref 320, 0, 0)),
  (33, (.invokevirtual 36, 3, .ref 562, 0, 0)),
  (36, (.goto 33, 3, .null, 0, 69)),
  (39, (.aload_n 0, 1, .null, 0, 0)),
  (40, (.getfield 7, 3, .ref 147, 4, 0)),
  (43, (.bipush 29, 2, .int 29, 0, 0)),
  (45, (.iaload, 1, .null, 1, 0)),
  (46, (.invokestatic 40, 3, .ref 573, 0, 0)),
  (49, (.istore_n 1, 1, .null, 0, 0)),
  (50, (.aload_n 0, 1, .null, 0, 0)),
  (51, (.aload_n 0, 1, .null, 0, 0)),
  (52, (.invokevirtual 44, 3, .ref 581, 0, 0)),
  (55, (.iload_n 1, 1, .null, 0, 0)),
  (56, (.aload_n 0, 1, .null, 0, 0)),
  (57, (.getfield 7, 3, .ref 147, 4, 0)),
  (60, (.bipush 25, 2, .int 25, 0, 0)),
  (62, (.iaload, 1, .null, 1, 0)),
  (63, (.invokestatic 31, 3, .ref 320, 0, 0)),
  (66, (.invokevirtual 36, 3, .ref 562, 0, 0)),
  (69, (.return_, 1, .null, 0, 0))]
set_option maxRecDepth 100000 in
theorem ckV_follow : ab_ckM mV_follow kV_follow = true := by decide +kernel
set_option maxRecDepth 100000 in
theorem wV_follow : ab_MW mV_follow 1 0 := ab_mw_ok (i1 := 64) (i2 := 559) (i3 := 560) (by decide +kernel) (ab_t3 (List.mem_of_getElem? (i := 22) rfl))
abbrev mV_positionAim : ab_Mt := (⟨"BusServo$Motion", "positionAim", "()I"⟩, prog_6_method_7_code, 2, (some .int))
def kV_positionAim : ab_Cd := [
  (0, (.aload_n 0, 1, .null, 0, 0)),
  (1, (.getfield 7, 3, .ref 147, 4, 0)),
  (4, (.bipush 22, 2, .int 22, 0, 0)),
  (6, (.iaload, 1, .null, 1, 0)),
  (7, (.aload_n 0, 1, .null, 0, 0)),
  (8, (.getfield 7, 3, .ref 147, 4, 0)),
  (11, (.bipush 24, 2, .int 24, 0, 0)),
  (13, (.iaload, 1, .null, 1, 0)),
  (14, (.invokestatic 31, 3, .ref 320, 0, 0)),
  (17, (.istore_n 1, 1, .null, 0, 0)),
  (18, (.iload_n 1, 1, .null, 0, 0)),
  (19, (.aload_n 0, 1, .null, 0, 0)),
  (20, (.getfield 7, 3, .ref 147, 4, 0)),
  (23, (.bipush 23, 2, .int 23, 0, 0)),
  (25, (.iaload, 1, .null, 1, 0)),
  (26, (.invokestatic 47, 3, .ref 323, 0, 0)),
  (29, (.ireturn, 1, .null, 0, 0))]
set_option maxRecDepth 100000 in
theorem ckV_positionAim : ab_ckM mV_positionAim kV_positionAim = true := by decide +kernel
set_option maxRecDepth 100000 in
theorem wV_positionAim : ab_MW mV_positionAim 1 0 := ab_mw_ok (i1 := 64) (i2 := 318) (i3 := 5) (by decide +kernel) (ab_t2 (List.mem_of_getElem? (i := 20) rfl))
abbrev mV_speedAim : ab_Mt := (⟨"BusServo$Motion", "speedAim", "()I"⟩, prog_6_method_8_code, 2, (some .int))
def kV_speedAim : ab_Cd := [
  (0, (.aload_n 0, 1, .null, 0, 0)),
  (1, (.getfield 7, 3, .ref 147, 4, 0)),
  (4, (.bipush 29, 2, .int 29, 0, 0)),
  (6, (.iaload, 1, .null, 1, 0)),
  (7, (.istore_n 1, 1, .null, 0, 0)),
  (8, (.iload_n 1, 1, .null, 0, 0)),
  (9, (.ifCond .ne 8, 3, .null, 0, 17)),
  (12, (.aload_n 0, 1, .null, 0, 0)),
  (13, (.getfield 13, 3, .ref 148, 4, 1)),
  (16, (.ireturn, 1, .null, 0, 0)),
  (17, (.iload_n 1, 1, .null, 0, 0)),
  (18, (.ifCond .le 20, 3, .null, 0, 38)),
  (21, (.aload_n 0, 1, .null, 0, 0)),
  (22, (.getfield 13, 3, .ref 148, 4, 1)),
  (25, (.aload_n 0, 1, .null, 0, 0)),
  (26, (.getfield 7, 3, .ref 147, 4, 0)),
  (29, (.bipush 24, 2, .int 24, 0, 0)),
  (31, (.iaload, 1, .null, 1, 0)),
  (32, (.invokestatic 47, 3, .ref 323, 0, 0)),
  (35, (.goto 17, 3, .null, 0, 52)),
  (38, (.aload_n 0, 1, .null, 0, 0)),
  (39, (.getfield 13, 3, .ref 148, 4, 1)),
  (42, (.aload_n 0, 1, .null, 0, 0)),
  (43, (.getfield 7, 3, .ref 147, 4, 0)),
  (46, (.bipush 23, 2, .int 23, 0, 0)),
  (48, (.iaload, 1, .null, 1, 0)),
  (49, (.invokestatic 31, 3, .ref 320, 0, 0)),
  (52, (.ireturn, 1, .null, 0, 0))]
set_option maxRecDepth 100000 in
theorem ckV_speedAim : ab_ckM mV_speedAim kV_speedAim = true := by decide +kernel
set_option maxRecDepth 100000 in
theorem wV_speedAim : ab_MW mV_speedAim 1 0 := ab_mw_ok (i1 := 64) (i2 := 583) (i3 := 29) (by decide +kernel) (ab_t3 (List.mem_of_getElem? (i := 45) rfl))
abbrev mV_approach : ab_Mt := (⟨"BusServo$Motion", "approach", "(II)V"⟩, prog_6_method_9_code, 11, none)
def kV_approach : ab_Cd := [
  (0, (.aload_n 0, 1, .null, 0, 0)),
  (1, (.getfield 7, 3, .ref 147, 4, 0)),
  (4, (.bipush 21, 2, .int 21, 0, 0)),
  (6, (.iaload, 1, .null, 1, 0)),
  (7, (.istore_n 3, 1, .null, 0, 0)),
  (8, (.aload_n 0, 1, .null, 0, 0)),
  (9, (.getfield 7, 3, .ref 147, 4, 0)),
  (12, (.bipush 27, 2, .int 27, 0, 0)),
  (14, (.iaload, 1, .null, 1, 0)),
  (15, (.istore 4, 2, .null, 0, 0)),
  (17, (.iload_n 1, 1, .null, 0, 0)),
  (18, (.aload_n 0, 1, .null, 0, 0)),
  (19, (.getfield 13, 3, .ref 148, 4, 1)),
  (22, (.isub, 1, .null, 0, 0)),
  (23, (.istore 5, 2, .null, 0, 0)),
  (25, (.iload_n 3, 1, .null, 0, 0)),
  (26, (.ifCond .le 8, 3, .null, 0, 34)),
  (29, (.iload 5, 2, .null, 0, 0)),
  (31, (.ifCond .le 12, 3, .null, 0, 43)),
  (34, (.iload_n 3, 1, .null, 0, 0)),
  (35, (.ifCond .ge 12, 3, .null, 0, 47)),
  (38, (.iload 5, 2, .null, 0, 0)),
  (40, (.ifCond .lt 7, 3, .null, 0, 47)),
  (43, (.iconst 1, 1, .int 1, 0, 0)),
  (44, (.goto 4, 3, .null, 0, 48)),
  (47, (.iconst 0, 1, .int 0, 0, 0)),
  (48, (.istore 6, 2, .null, 0, 0)),
  (50, (.iload 6, 2, .null, 0, 0)),
  (52, (.ifCond .eq 14, 3, .null, 0, 66)),
  (55, (.aload_n 0, 1, .null, 0, 0)),
  (56, (.iload_n 3, 1, .null, 0, 0)),
  (57, (.iload 4, 2, .null, 0, 0)),
  (59, (.invokestatic 23, 3, .ref 566, 0, 0)),
  (62, (.invokevirtual 27, 3, .ref 569, 0, 0)),
  (65, (.return_, 1, .null, 0, 0)),
  (66, (.iload_n 3, 1, .null, 0, 0)),
  (67, (.invokestatic 40, 3, .ref 573, 0, 0)),
  (70, (.istore 7, 2, .null, 0, 0)),
  (72, (.iload 7, 2, .null, 0, 0)),
  (74, (.iload 4, 2, .null, 0, 0)),
  (76, (.iadd, 1, .null, 0, 0)),
  (77, (.iload_n 2, 1, .null, 0, 0)),
  (78, (.invokestatic 31, 3, .ref 320, 0, 0)),
  (81, (.istore 8, 2, .null, 0, 0)),
  (83, (.aload_n 0, 1, .null, 0, 0)),
  (84, (.iload 8, 2, .null, 0, 0)),
  (86, (.iload 5, 2, .null, 0, 0)),
  (88, (.invokestatic 40, 3, .ref 573, 0, 0)),
  (91, (.invokevirtual 50, 3, .ref 574, 0, 0)),
  (94, (.istore 9, 2, .null, 0, 0)),
  (96, (.iload 9, 2, .null, 0, 0)),
  (98, (.iload 7, 2, .null, 0, 0)),
  (100, (.iload 4, 2, .null, 0, 0)),
  (102, (.isub, 1, .null, 0, 0)),
  (103, (.invokestatic 47, 3, .ref 323, 0, 0)),
  (106, (.istore 10, 2, .null, 0, 0)),
  (108, (.aload_n 0, 1, .null, 0, 0)),
  (109, (.iload 5, 2, .null, 0, 0)),
  (111, (.ifCond .ge 9, 3, .null, 0, 120)),
  (114, (.iload 10, 2, .null, 0, 0)),
  (116, (.ineg, 1, .null, 0, 0)),
  (117, (.goto 5, 3, .null, 0, 122)),
  (120, (.iload 10, 2, .null, 0, 0)),
  (122, (.invokevirtual 27, 3, .ref 569, 0, 0)),
  (125, (.return_, 1, .null, 0, 0))]
set_option maxRecDepth 100000 in
theorem ckV_approach : ab_ckM mV_approach kV_approach = true := by decide +kernel
set_option maxRecDepth 100000 in
theorem wV_approach : ab_MW mV_approach 1 2 := ab_mw_ok (i1 := 64) (i2 := 564) (i3 := 26) (by decide +kernel) (ab_t3 (List.mem_of_getElem? (i := 26) rfl))
abbrev mV_moveWith : ab_Mt := (⟨"BusServo$Motion", "moveWith", "(I)V"⟩, prog_6_method_10_code, 2, none)
def kV_moveWith : ab_Cd := [
  (0, (.aload_n 0, 1, .null, 0, 0)),
  (1, (.getfield 7, 3, .ref 147, 4, 0)),
  (4, (.bipush 21, 2, .int 21, 0, 0)),
  (6, (.iload_n 1, 1, .null, 0, 0)),
  (7, (.iastore, 1, .null, 1, 0)),
  (8, (.aload_n 0, 1, .null, 0, 0)),
  (9, (.dup, 1, .null, 0, 0)),
  (10, (.getfield 13, 3, .ref 148, 4, 1)),
  (13, (.iload_n 1, 1, .null, 0, 0)),
  (14, (.iadd, 1, .null, 0, 0)),
  (15, (.putfield 13, 3, .ref 148, 4, 1)),
  (18, (.return_, 1, .null, 0, 0))]
set_option maxRecDepth 100000 in
theorem ckV_moveWith : ab_ckM mV_moveWith kV_moveWith = true := by decide +kernel
set_option maxRecDepth 100000 in
theorem wV_moveWith : ab_MW mV_moveWith 1 1 := ab_mw_ok (i1 := 64) (i2 := 571) (i3 := 27) (by decide +kernel) (ab_t3 (List.mem_of_getElem? (i := 33) rfl))
abbrev mV_slower : ab_Mt := (⟨"BusServo$Motion", "slower", "(II)I"⟩, prog_6_method_11_code, 2, (some .int))
def kV_slower : ab_Cd := [
  (0, (.iload_n 0, 1, .null, 0, 0)),
  (1, (.ifCond .le 13, 3, .null, 0, 14)),
  (4, (.iload_n 0, 1, .null, 0, 0)),
  (5, (.iload_n 1, 1, .null, 0, 0)),
  (6, (.isub, 1, .null, 0, 0)),
  (7, (.iconst 0, 1, .int 0, 0, 0)),
  (8, (.invokestatic 47, 3, .ref 323, 0, 0)),
  (11, (.goto 10, 3, .null, 0, 21)),
  (14, (.iload_n 0, 1, .null, 0, 0)),
  (15, (.iload_n 1, 1, .null, 0, 0)),
  (16, (.iadd, 1, .null, 0, 0)),
  (17, (.iconst 0, 1, .int 0, 0, 0)),
  (18, (.invokestatic 31, 3, .ref 320, 0, 0)),
  (21, (.ireturn, 1, .null, 0, 0))]
set_option maxRecDepth 100000 in
theorem ckV_slower : ab_ckM mV_slower kV_slower = true := by decide +kernel
set_option maxRecDepth 100000 in
theorem wV_slower : ab_MW mV_slower 0 2 := ab_mw_ok (i1 := 64) (i2 := 567) (i3 := 0) (by decide +kernel) (ab_t3 (List.mem_of_getElem? (i := 29) rfl))
abbrev mV_fastestThatStops : ab_Mt := (⟨"BusServo$Motion", "fastestThatStops", "(II)I"⟩, prog_6_method_12_code, 7, (some .int))
def kV_fastestThatStops : ab_Cd := [
  (0, (.iconst 1, 1, .int 1, 0, 0)),
  (1, (.aload_n 0, 1, .null, 0, 0)),
  (2, (.getfield 7, 3, .ref 147, 4, 0)),
  (5, (.bipush 27, 2, .int 27, 0, 0)),
  (7, (.iaload, 1, .null, 1, 0)),
  (8, (.aload_n 0, 1, .null, 0, 0)),
  (9, (.getfield 7, 3, .ref 147, 4, 0)),
  (12, (.bipush 28, 2, .int 28, 0, 0)),
  (14, (.iaload, 1, .null, 1, 0)),
  (15, (.invokestatic 31, 3, .ref 320, 0, 0)),
  (18, (.invokestatic 47, 3, .ref 323, 0, 0)),
  (21, (.istore_n 3, 1, .null, 0, 0)),
  (22, (.iconst 0, 1, .int 0, 0, 0)),
  (23, (.istore 4, 2, .null, 0, 0)),
  (25, (.sipush 512, 3, .int 512, 0, 0)),
  (28, (.istore 5, 2, .null, 0, 0)),
  (30, (.iload 5, 2, .null, 0, 0)),
  (32, (.ifCond .le 39, 3, .null, 0, 71)),
  (35, (.iload 4, 2, .null, 0, 0)),
  (37, (.iload 5, 2, .null, 0, 0)),
  (39, (.iadd, 1, .null, 0, 0)),
  (40, (.istore 6, 2, .null, 0, 0)),
  (42, (.iload 6, 2, .null, 0, 0)),
  (44, (.iload_n 1, 1, .null, 0, 0)),
  (45, (.if_icmp .gt 17, 3, .null, 0, 62)),
  (48, (.iload 6, 2, .null, 0, 0)),
  (50, (.iload_n 3, 1, .null, 0, 0)),
  (51, (.invokestatic 53, 3, .ref 578, 0, 0)),
  (54, (.iload_n 2, 1, .null, 0, 0)),
  (55, (.if_icmp .gt 7, 3, .null, 0, 62)),
  (58, (.iload 6, 2, .null, 0, 0)),
  (60, (.istore 4, 2, .null, 0, 0)),
  (62, (.iload 5, 2, .null, 0, 0)),
  (64, (.iconst 2, 1, .int 2, 0, 0)),
  (65, (.idiv, 1, .null, 1, 0)),
  (66, (.istore 5, 2, .null, 0, 0)),
  (68, (.goto (-38), 3, .null, 0, 30)),
  (71, (.iload 4, 2, .null, 0, 0)),
  (73, (.ireturn, 1, .null, 0, 0))]
set_option maxRecDepth 100000 in
theorem ckV_fastestThatStops : ab_ckM mV_fastestThatStops kV_fastestThatStops = true := by decide +kernel
set_option maxRecDepth 100000 in
theorem wV_fastestThatStops : ab_MW mV_fastestThatStops 1 2 := ab_mw_ok (i1 := 64) (i2 := 576) (i3 := 28) (by decide +kernel) (ab_t3 (List.mem_of_getElem? (i := 38) rfl))
abbrev mV_stoppingWay : ab_Mt := (⟨"BusServo$Motion", "stoppingWay", "(II)I"⟩, prog_6_method_13_code, 3, (some .int))
def kV_stoppingWay : ab_Cd := [
  (0, (.iload_n 0, 1, .null, 0, 0)),
  (1, (.iload_n 1, 1, .null, 0, 0)),
  (2, (.iadd, 1, .null, 0, 0)),
  (3, (.iconst 1, 1, .int 1, 0, 0)),
  (4, (.isub, 1, .null, 0, 0)),
  (5, (.iload_n 1, 1, .null, 0, 0)),
  (6, (.idiv, 1, .null, 0, 0)),
  (7, (.istore_n 2, 1, .null, 0, 0)),
  (8, (.iload_n 2, 1, .null, 0, 0)),
  (9, (.iload_n 0, 1, .null, 0, 0)),
  (10, (.imul, 1, .null, 0, 0)),
  (11, (.iload_n 1, 1, .null, 0, 0)),
  (12, (.iload_n 2, 1, .null, 0, 0)),
  (13, (.iload_n 2, 1, .null, 0, 0)),
  (14, (.iconst 1, 1, .int 1, 0, 0)),
  (15, (.isub, 1, .null, 0, 0)),
  (16, (.imul, 1, .null, 0, 0)),
  (17, (.iconst 2, 1, .int 2, 0, 0)),
  (18, (.idiv, 1, .null, 1, 0)),
  (19, (.imul, 1, .null, 0, 0)),
  (20, (.isub, 1, .null, 0, 0)),
  (21, (.ireturn, 1, .null, 0, 0))]
set_option maxRecDepth 100000 in
theorem ckV_stoppingWay : ab_ckM mV_stoppingWay kV_stoppingWay = true := by decide +kernel
set_option maxRecDepth 100000 in
theorem wV_stoppingWay : ab_MW mV_stoppingWay 0 2 := ab_mw_ok (i1 := 64) (i2 := 579) (i3 := 0) (by decide +kernel) (ab_t3 (List.mem_of_getElem? (i := 41) rfl))
abbrev mO_init : ab_Mt := (⟨"BusServo$OutRecord", "<init>", "()V"⟩, prog_7_method_1_code, 1, none)
def kO_init : ab_Cd := [
  (0, (.aload_n 0, 1, .null, 0, 0)),
  (1, (.invokespecial 1, 3, .ref 172, 0, 0)),
  (4, (.return_, 1, .null, 0, 0))]
set_option maxRecDepth 100000 in
theorem ckO_init : ab_ckM mO_init kO_init = true := by decide +kernel
set_option maxRecDepth 100000 in
theorem wO_init : ab_MW mO_init 2 0 := ab_mw_ok (i1 := 66) (i2 := 170) (i3 := 0) (by decide +kernel) (ab_t1 (List.mem_of_getElem? (i := 112) rfl))
abbrev mO_beginOperating : ab_Mt := (⟨"BusServo$OutRecord", "beginOperating", "()V"⟩, prog_7_method_2_code, 1, none)
def kO_beginOperating : ab_Cd := [
  (0, (.aload_n 0, 1, .null, 0, 0)),
  (1, (.iconst 0, 1, .int 0, 0, 0)),
  (2, (.putfield 7, 3, .ref 173, 6, 0)),
  (5, (.return_, 1, .null, 0, 0))]
set_option maxRecDepth 100000 in
theorem ckO_beginOperating : ab_ckM mO_beginOperating kO_beginOperating = true := by decide +kernel
set_option maxRecDepth 100000 in
theorem wO_beginOperating : ab_MW mO_beginOperating 1 0 := ab_mw_ok (i1 := 66) (i2 := 287) (i3 := 288) (by decide +kernel) (ab_t1 (List.mem_of_getElem? (i := 230) rfl))
abbrev mO_forgetSyncs : ab_Mt := (⟨"BusServo$OutRecord", "forgetSyncs", "()V"⟩, prog_7_method_3_code, 1, none)
def kO_forgetSyncs : ab_Cd := [
  (0, (.aload_n 0, 1, .null, 0, 0)),
  (1, (.iconst 0, 1, .int 0, 0, 0)),
  (2, (.putfield 13, 3, .ref 177, 6, 4)),
  (5, (.return_, 1, .null, 0, 0))]
set_option maxRecDepth 100000 in
theorem ckO_forgetSyncs : ab_ckM mO_forgetSyncs kO_forgetSyncs = true := by decide +kernel
set_option maxRecDepth 100000 in
theorem wO_forgetSyncs : ab_MW mO_forgetSyncs 1 0 := ab_mw_ok (i1 := 66) (i2 := 224) (i3 := 225) (by decide +kernel) (ab_t1 (List.mem_of_getElem? (i := 167) rfl))
abbrev mO_countSync : ab_Mt := (⟨"BusServo$OutRecord", "countSync", "(I)Z"⟩, prog_7_method_4_code, 2, (some .boolean))
def kO_countSync : ab_Cd := [
  (0, (.aload_n 0, 1, .null, 0, 0)),
  (1, (.dup, 1, .null, 0, 0)),
  (2, (.getfield 13, 3, .ref 177, 6, 4)),
  (5, (.iconst 1, 1, .int 1, 0, 0)),
  (6, (.iadd, 1, .null, 0, 0)),
  (7, (.putfield 13, 3, .ref 177, 6, 4)),
  (10, (.aload_n 0, 1, .null, 0, 0)),
  (11, (.getfield 13, 3, .ref 177, 6, 4)),
  (14, (.iload_n 1, 1, .null, 0, 0)),
  (15, (.if_icmp .ge 5, 3, .null, 0, 20)),
  (18, (.iconst 0, 1, .int 0, 0, 0)),
  (19, (.ireturn, 1, .null, 0, 0)),
  (20, (.aload_n 0, 1, .null, 0, 0)),
  (21, (.iconst 0, 1, .int 0, 0, 0)),
  (22, (.putfield 13, 3, .ref 177, 6, 4)),
  (25, (.iconst 1, 1, .int 1, 0, 0)),
  (26, (.ireturn, 1, .null, 0, 0))]
set_option maxRecDepth 100000 in
theorem ckO_countSync : ab_ckM mO_countSync kO_countSync = true := by decide +kernel
set_option maxRecDepth 100000 in
theorem wO_countSync : ab_MW mO_countSync 1 1 := ab_mw_ok (i1 := 66) (i2 := 295) (i3 := 296) (by decide +kernel) (ab_t1 (List.mem_of_getElem? (i := 238) rfl))
abbrev mO_countTick : ab_Mt := (⟨"BusServo$OutRecord", "countTick", "()V"⟩, prog_7_method_5_code, 1, none)
def kO_countTick : ab_Cd := [
  (0, (.aload_n 0, 1, .null, 0, 0)),
  (1, (.dup, 1, .null, 0, 0)),
  (2, (.getfield 17, 3, .ref 174, 6, 1)),
  (5, (.iconst 1, 1, .int 1, 0, 0)),
  (6, (.iadd, 1, .null, 0, 0)),
  (7, (.putfield 17, 3, .ref 174, 6, 1)),
  (10, (.return_, 1, .null, 0, 0))]
set_option maxRecDepth 100000 in
theorem ckO_countTick : ab_ckM mO_countTick kO_countTick = true := by decide +kernel
set_option maxRecDepth 100000 in
theorem wO_countTick : ab_MW mO_countTick 1 0 := ab_mw_ok (i1 := 66) (i2 := 590) (i3 := 591) (by decide +kernel) (ab_t3 (List.mem_of_getElem? (i := 53) rfl))
abbrev mO_isHeld : ab_Mt := (⟨"BusServo$OutRecord", "isHeld", "(I)Z"⟩, prog_7_method_6_code, 2, (some .boolean))
def kO_isHeld : ab_Cd := [
  (0, (.aload_n 0, 1, .null, 0, 0)),
  (1, (.getfield 7, 3, .ref 173, 6, 0)),
  (4, (.ifCond .eq 15, 3, .null, 0, 19)),
  (7, (.aload_n 0, 1, .null, 0, 0)),
  (8, (.getfield 17, 3, .ref 174, 6, 1)),
  (11, (.iload_n 1, 1, .null, 0, 0)),
  (12, (.if_icmp .ge 7, 3, .null, 0, 19)),
  (15, (.iconst 1, 1, .int 1, 0, 0)),
  (16, (.goto 4, 3, .null, 0, 20)),
  (19, (.iconst 0, 1, .int 0, 0, 0)),
  (20, (.ireturn, 1, .null, 0, 0))]
set_option maxRecDepth 100000 in
theorem ckO_isHeld : ab_ckM mO_isHeld kO_isHeld = true := by decide +kernel
set_option maxRecDepth 100000 in
theorem wO_isHeld : ab_MW mO_isHeld 1 1 := ab_mw_ok (i1 := 66) (i2 := 598) (i3 := 599) (by decide +kernel) (ab_t3 (List.mem_of_getElem? (i := 61) rfl))
abbrev mO_isDue : ab_Mt := (⟨"BusServo$OutRecord", "isDue", "(JII)Z"⟩, prog_7_method_7_code, 5, (some .boolean))
def kO_isDue : ab_Cd := [
  (0, (.aload_n 0, 1, .null, 0, 0)),
  (1, (.getfield 7, 3, .ref 173, 6, 0)),
  (4, (.ifCond .eq 34, 3, .null, 0, 38)),
  (7, (.lload_n 1, 1, .null, 0, 0)),
  (8, (.aload_n 0, 1, .null, 0, 0)),
  (9, (.getfield 20, 3, .ref 175, 6, 2)),
  (12, (.lcmp, 1, .null, 0, 0)),
  (13, (.ifCond .ne 25, 3, .null, 0, 38)),
  (16, (.iload_n 3, 1, .null, 0, 0)),
  (17, (.aload_n 0, 1, .null, 0, 0)),
  (18, (.getfield 24, 3, .ref 176, 6, 3)),
  (21, (.if_icmp .ne 17, 3, .null, 0, 38)),
  (24, (.iload 4, 2, .null, 0, 0)),
  (26, (.ifCond .le 16, 3, .null, 0, 42)),
  (29, (.aload_n 0, 1, .null, 0, 0)),
  (30, (.getfield 17, 3, .ref 174, 6, 1)),
  (33, (.iload 4, 2, .null, 0, 0)),
  (35, (.if_icmp .lt 7, 3, .null, 0, 42)),
  (38, (.iconst 1, 1, .int 1, 0, 0)),
  (39, (.goto 4, 3, .null, 0, 43)),
  (42, (.iconst 0, 1, .int 0, 0, 0)),
  (43, (.ireturn, 1, .null, 0, 0))]
set_option maxRecDepth 100000 in
theorem ckO_isDue : ab_ckM mO_isDue kO_isDue = true := by decide +kernel
set_option maxRecDepth 100000 in
theorem wO_isDue : ab_MW mO_isDue 1 3 := ab_mw_ok (i1 := 66) (i2 := 602) (i3 := 603) (by decide +kernel) (ab_t3 (List.mem_of_getElem? (i := 65) rfl))
abbrev mO_noteSent : ab_Mt := (⟨"BusServo$OutRecord", "noteSent", "(JI)V"⟩, prog_7_method_8_code, 4, none)
def kO_noteSent : ab_Cd := [
  (0, (.aload_n 0, 1, .null, 0, 0)),
  (1, (.iconst 1, 1, .int 1, 0, 0)),
  (2, (.putfield 7, 3, .ref 173, 6, 0)),
  (5, (.aload_n 0, 1, .null, 0, 0)),
  (6, (.iconst 0, 1, .int 0, 0, 0)),
  (7, (.putfield 17, 3, .ref 174, 6, 1)),
  (10, (.aload_n 0, 1, .null, 0, 0)),
  (11, (.lload_n 1, 1, .null, 0, 0)),
  (12, (.putfield 20, 3, .ref 175, 6, 2)),
  (15, (.aload_n 0, 1, .null, 0, 0)),
  (16, (.iload_n 3, 1, .null, 0, 0)),
  (17, (.putfield 24, 3, .ref 176, 6, 3)),
  (20, (.return_, 1, .null, 0, 0))]
set_option maxRecDepth 100000 in
theorem ckO_noteSent : ab_ckM mO_noteSent kO_noteSent = true := by decide +kernel
set_option maxRecDepth 100000 in
theorem wO_noteSent : ab_MW mO_noteSent 1 2 := ab_mw_ok (i1 := 66) (i2 := 348) (i3 := 349) (by decide +kernel) (ab_t2 (List.mem_of_getElem? (i := 51) rfl))
abbrev mP_init : ab_Mt := (⟨"BusServo$Power", "<init>", "()V"⟩, prog_8_method_1_code, 1, none)
def kP_init : ab_Cd := [
  (0, (.aload_n 0, 1, .null, 0, 0)),
  (1, (.invokespecial 1, 3, .ref 133, 0, 0)),
  (4, (.return_, 1, .null, 0, 0))]
set_option maxRecDepth 100000 in
theorem ckP_init : ab_ckM mP_init kP_init = true := by decide +kernel
set_option maxRecDepth 100000 in
theorem wP_init : ab_MW mP_init 2 0 := ab_mw_ok (i1 := 63) (i2 := 131) (i3 := 0) (by decide +kernel) (ab_t1 (List.mem_of_getElem? (i := 73) rfl))
abbrev mP_comeUp : ab_Mt := (⟨"BusServo$Power", "comeUp", "()V"⟩, prog_8_method_2_code, 1, none)
def kP_comeUp : ab_Cd := [
  (0, (.aload_n 0, 1, .null, 0, 0)),
  (1, (.iconst 1, 1, .int 1, 0, 0)),
  (2, (.putfield 9, 3, .ref 134, 3, 0)),
  (5, (.aload_n 0, 1, .null, 0, 0)),
  (6, (.iconst 0, 1, .int 0, 0, 0)),
  (7, (.putfield 13, 3, .ref 135, 3, 1)),
  (10, (.return_, 1, .null, 0, 0))]
set_option maxRecDepth 100000 in
theorem ckP_comeUp : ab_ckM mP_comeUp kP_comeUp = true := by decide +kernel
set_option maxRecDepth 100000 in
theorem wP_comeUp : ab_MW mP_comeUp 1 0 := ab_mw_ok (i1 := 63) (i2 := 216) (i3 := 217) (by decide +kernel) (ab_t1 (List.mem_of_getElem? (i := 159) rfl))
abbrev mP_current : ab_Mt := (⟨"BusServo$Power", "current", "()I"⟩, prog_8_method_3_code, 1, (some .int))
def kP_current : ab_Cd := [
  (0, (.aload_n 0, 1, .null, 0, 0)),
  (1, (.getfield 9, 3, .ref 134, 3, 0)),
  (4, (.ireturn, 1, .null, 0, 0))]
set_option maxRecDepth 100000 in
theorem ckP_current : ab_ckM mP_current kP_current = true := by decide +kernel
set_option maxRecDepth 100000 in
theorem wP_current : ab_MW mP_current 1 0 := ab_mw_ok (i1 := 63) (i2 := 679) (i3 := 680) (by decide +kernel) (ab_t3 (List.mem_of_getElem? (i := 142) rfl))
abbrev mP_statusBits : ab_Mt := (⟨"BusServo$Power", "statusBits", "()I"⟩, prog_8_method_4_code, 1, (some .int))
def kP_statusBits : ab_Cd := [
  (0, (.getstatic 17, 3, .ref 306, 0, 2)),
  (3, (.aload_n 0, 1, .null, 0, 0)),
  (4, (.getfield 9, 3, .ref 134, 3, 0)),
  (7, (.iaload, 1, .null, 0, 0)),
  (8, (.ireturn, 1, .null, 0, 0))]
set_option maxRecDepth 100000 in
theorem ckP_statusBits : ab_ckM mP_statusBits kP_statusBits = true := by decide +kernel
set_option maxRecDepth 100000 in
theorem wP_statusBits : ab_MW mP_statusBits 1 0 := ab_mw_ok (i1 := 63) (i2 := 303) (i3 := 304) (by decide +kernel) (ab_t2 (List.mem_of_getElem? (i := 6) rfl))
abbrev mP_isEnabled : ab_Mt := (⟨"BusServo$Power", "isEnabled", "()Z"⟩, prog_8_method_5_code, 1, (some .boolean))
def kP_isEnabled : ab_Cd := [
  (0, (.aload_n 0, 1, .null, 0, 0)),
  (1, (.getfield 9, 3, .ref 134, 3, 0)),
  (4, (.iconst 4, 1, .int 4, 0, 0)),
  (5, (.if_icmp .ne 7, 3, .null, 0, 12)),
  (8, (.iconst 1, 1, .int 1, 0, 0)),
  (9, (.goto 4, 3, .null, 0, 13)),
  (12, (.iconst 0, 1, .int 0, 0, 0)),
  (13, (.ireturn, 1, .null, 0, 0))]
set_option maxRecDepth 100000 in
theorem ckP_isEnabled : ab_ckM mP_isEnabled kP_isEnabled = true := by decide +kernel
set_option maxRecDepth 100000 in
theorem wP_isEnabled : ab_MW mP_isEnabled 1 0 := ab_mw_ok (i1 := 63) (i2 := 309) (i3 := 310) (by decide +kernel) (ab_t2 (List.mem_of_getElem? (i := 12) rfl))
abbrev mP_isStageOn : ab_Mt := (⟨"BusServo$Power", "isStageOn", "()Z"⟩, prog_8_method_6_code, 1, (some .boolean))
def kP_isStageOn : ab_Cd := [
  (0, (.aload_n 0, 1, .null, 0, 0)),
  (1, (.getfield 9, 3, .ref 134, 3, 0)),
  (4, (.iconst 4, 1, .int 4, 0, 0)),
  (5, (.if_icmp .eq 20, 3, .null, 0, 25)),
  (8, (.aload_n 0, 1, .null, 0, 0)),
  (9, (.getfield 9, 3, .ref 134, 3, 0)),
  (12, (.iconst 5, 1, .int 5, 0, 0)),
  (13, (.if_icmp .eq 12, 3, .null, 0, 25)),
  (16, (.aload_n 0, 1, .null, 0, 0)),
  (17, (.getfield 9, 3, .ref 134, 3, 0)),
  (20, (.bipush 6, 2, .int 6, 0, 0)),
  (22, (.if_icmp .ne 7, 3, .null, 0, 29)),
  (25, (.iconst 1, 1, .int 1, 0, 0)),
  (26, (.goto 4, 3, .null, 0, 30)),
  (29, (.iconst 0, 1, .int 0, 0, 0)),
  (30, (.ireturn, 1, .null, 0, 0))]
set_option maxRecDepth 100000 in
theorem ckP_isStageOn : ab_ckM mP_isStageOn kP_isStageOn = true := by decide +kernel
set_option maxRecDepth 100000 in
theorem wP_isStageOn : ab_MW mP_isStageOn 1 0 := ab_mw_ok (i1 := 63) (i2 := 425) (i3 := 426) (by decide +kernel) (ab_t2 (List.mem_of_getElem? (i := 128) rfl))
abbrev mP_fail : ab_Mt := (⟨"BusServo$Power", "fail", "()Z"⟩, prog_8_method_7_code, 1, (some .boolean))
def kP_fail : ab_Cd := [
  (0, (.aload_n 0, 1, .null, 0, 0)),
  (1, (.getfield 9, 3, .ref 134, 3, 0)),
  (4, (.bipush 6, 2, .int 6, 0, 0)),
  (6, (.if_icmp .eq 12, 3, .null, 0, 18)),
  (9, (.aload_n 0, 1, .null, 0, 0)),
  (10, (.getfield 9, 3, .ref 134, 3, 0)),
  (13, (.bipush 7, 2, .int 7, 0, 0)),
  (15, (.if_icmp .ne 5, 3, .null, 0, 20)),
  (18, (.iconst 0, 1, .int 0, 0, 0)),
  (19, (.ireturn, 1, .null, 0, 0)),
  (20, (.aload_n 0, 1, .null, 0, 0)),
  (21, (.aload_n 0, 1, .null, 0, 0)),
  (22, (.invokevirtual 21, 3, .ref 516, 0, 0)),
  (25, (.ifCond .eq 8, 3, .null, 0, 33)),
  (28, (.bipush 6, 2, .int 6, 0, 0)),
  (30, (.goto 5, 3, .null, 0, 35)),
  (33, (.bipush 7, 2, .int 7, 0, 0)),
  (35, (.putfield 9, 3, .ref 134, 3, 0)),
  (38, (.iconst 1, 1, .int 1, 0, 0)),
  (39, (.ireturn, 1, .null, 0, 0))]
set_option maxRecDepth 100000 in
theorem ckP_fail : ab_ckM mP_fail kP_fail = true := by decide +kernel
set_option maxRecDepth 100000 in
theorem wP_fail : ab_MW mP_fail 1 0 := ab_mw_ok (i1 := 63) (i2 := 513) (i3 := 514) (by decide +kernel) (ab_t2 (List.mem_of_getElem? (i := 216) rfl))
abbrev mP_orderOf : ab_Mt := (⟨"BusServo$Power", "orderOf", "(I)I"⟩, prog_8_method_8_code, 4, (some .int))
def kP_orderOf : ab_Cd := [
  (0, (.iload_n 1, 1, .null, 0, 0)),
  (1, (.sipush 128, 3, .int 128, 0, 0)),
  (4, (.iand, 1, .null, 0, 0)),
  (5, (.ifCond .eq 7, 3, .null, 0, 12)),
  (8, (.iconst 1, 1, .int 1, 0, 0)),
  (9, (.goto 4, 3, .null, 0, 13)),
  (12, (.iconst 0, 1, .int 0, 0, 0)),
  (13, (.istore_n 2, 1, .null, 0, 0)),
  (14, (.iload_n 2, 1, .null, 0, 0)),
  (15, (.ifCond .eq 14, 3, .null, 0, 29)),
  (18, (.aload_n 0, 1, .null, 0, 0)),
  (19, (.getfield 13, 3, .ref 135, 3, 1)),
  (22, (.ifCond .ne 7, 3, .null, 0, 29)),
  (25, (.iconst 1, 1, .int 1, 0, 0)),
  (26, (.goto 4, 3, .null, 0, 30)),
  (29, (.iconst 0, 1, .int 0, 0, 0)),
  (30, (.istore_n 3, 1, .null, 0, 0)),
  (31, (.aload_n 0, 1, .null, 0, 0)),
  (32, (.iload_n 2, 1, .null, 0, 0)),
  (33, (.putfield 13, 3, .retAddr 135, 3, 1)),
  (36, (.iload_n 2, 1, .null, 0, 0)),
  (37, (.ifCond .eq 13, 3, .null, 0, 50)),
  (40, (.iload_n 3, 1, .null, 0, 0)),
  (41, (.ifCond .eq 7, 3, .null, 0, 48)),
  (44, (.iconst 1, 1, .int 1, 0, 0)),
  (45, (.goto 4, 3, .null, 0, 49)),
  (48, (.iconst 0, 1, .int 0, 0, 0)),
  (49, (.ireturn, 1, .null, 0, 0)),
  (50, (.iload_n 1, 1, .null, 0, 0)),
  (51, (.iconst 2, 1, .int 2, 0, 0)),
  (52, (.iand, 1, .null, 0, 0)),
  (53, (.ifCond .ne 5, 3, .null, 0, 58)),
  (56, (.iconst 2, 1, .int 2, 0, 0)),
  (57, (.ireturn, 1, .null, 0, 0)),
  (58, (.iload_n 1, 1, .null, 0, 0)),
  (59, (.iconst 4, 1, .int 4, 0, 0)),
  (60, (.iand, 1, .null, 0, 0)),
  (61, (.ifCond .ne 5, 3, .null, 0, 66)),
  (64, (.iconst 3, 1, .int 3, 0, 0)),
  (65, (.ireturn, 1, .null, 0, 0)),
  (66, (.iload_n 1, 1, .null, 0, 0)),
  (67, (.iconst 1, 1, .int 1, 0, 0)),
  (68, (.iand, 1, .null, 0, 0)),
  (69, (.ifCond .ne 5, 3, .null, 0, 74)),
  (72, (.iconst 4, 1, .int 4, 0, 0)),
  (73, (.ireturn, 1, .null, 0, 0)),
  (74, (.iload_n 1, 1, .null, 0, 0)),
  (75, (.bipush 8, 2, .int 8, 0, 0)),
  (77, (.iand, 1, .null, 0, 0)),
  (78, (.ifCond .ne 7, 3, .null, 0, 85)),
  (81, (.iconst 5, 1, .int 5, 0, 0)),
  (82, (.goto 5, 3, .null, 0, 87)),
  (85, (.bipush 6, 2, .int 6, 0, 0)),
  (87, (.ireturn, 1, .null, 0, 0))]
set_option maxRecDepth 100000 in
theorem ckP_orderOf : ab_ckM mP_orderOf kP_orderOf = true := by decide +kernel
set_option maxRecDepth 100000 in
theorem wP_orderOf : ab_MW mP_orderOf 1 1 := ab_mw_ok (i1 := 63) (i2 := 534) (i3 := 535) (by decide +kernel) (ab_t2 (List.mem_of_getElem? (i := 237) rfl))
abbrev mP_obey : ab_Mt := (⟨"BusServo$Power", "obey", "(IZ)Z"⟩, prog_8_method_9_code, 4, (some .boolean))
def kP_obey : ab_Cd := [
  (0, (.aload_n 0, 1, .null, 0, 0)),
  (1, (.getfield 9, 3, .ref 134, 3, 0)),
  (4, (.bipush 7, 2, .int 7, 0, 0)),
  (6, (.if_icmp .ne 7, 3, .null, 0, 13)),
  (9, (.iconst 1, 1, .int 1, 0, 0)),
  (10, (.goto 4, 3, .null, 0, 14)),
  (13, (.iconst 0, 1, .int 0, 0, 0)),
  (14, (.istore_n 3, 1, .null, 0, 0)),
  (15, (.aload_n 0, 1, .null, 0, 0)),
  (16, (.aload_n 0, 1, .null, 0, 0)),
  (17, (.iload_n 1, 1, .null, 0, 0)),
  (18, (.iload_n 2, 1, .null, 0, 0)),
  (19, (.invokevirtual 25, 3, .ref 541, 0, 0)),
  (22, (.putfield 9, 3, .ref 134, 3, 0)),
  (25, (.iload_n 3, 1, .null, 0, 0)),
  (26, (.ifCond .eq 16, 3, .null, 0, 42)),
  (29, (.aload_n 0, 1, .null, 0, 0)),
  (30, (.getfield 9, 3, .ref 134, 3, 0)),
  (33, (.bipush 7, 2, .int 7, 0, 0)),
  (35, (.if_icmp .eq 7, 3, .null, 0, 42)),
  (38, (.iconst 1, 1, .int 1, 0, 0)),
  (39, (.goto 4, 3, .null, 0, 43)),
  (42, (.iconst 0, 1, .int 0, 0, 0)),
  (43, (.ireturn, 1, .null, 0, 0))]
set_option maxRecDepth 100000 in
theorem ckP_obey : ab_ckM mP_obey kP_obey = true := by decide +kernel
set_option maxRecDepth 100000 in
theorem wP_obey : ab_MW mP_obey 1 2 := ab_mw_ok (i1 := 63) (i2 := 538) (i3 := 539) (by decide +kernel) (ab_t3 (List.mem_of_getElem? (i := 1) rfl))
abbrev mP_stateAfter : ab_Mt := (⟨"BusServo$Power", "stateAfter", "(IZ)I"⟩, prog_8_method_10_code, 3, (some .int))
def kP_stateAfter : ab_Cd := [
  (0, (.aload_n 0, 1, .null, 0, 0)),
  (1, (.getfield 9, 3, .ref 134, 3, 0)),
  (4, (.tableswitch 93 1 6 #[40, 51, 56, 61, 66, 81], 40, .null, 0, 0)),
  (44, (.iload_n 1, 1, .null, 0, 0)),
  (45, (.iconst 4, 1, .int 4, 0, 0)),
  (46, (.if_icmp .ne 7, 3, .null, 0, 53)),
  (49, (.iconst 2, 1, .int 2, 0, 0)),
  (50, (.goto 4, 3, .null, 0, 54)),
  (53, (.iconst 1, 1, .int 1, 0, 0)),
  (54, (.ireturn, 1, .null, 0, 0)),
  (55, (.iload_n 1, 1, .null, 0, 0)),
  (56, (.invokestatic 29, 3, .ref 545, 0, 0)),
  (59, (.ireturn, 1, .null, 0, 0)),
  (60, (.iload_n 1, 1, .null, 0, 0)),
  (61, (.invokestatic 33, 3, .ref 548, 0, 0)),
  (64, (.ireturn, 1, .null, 0, 0)),
  (65, (.iload_n 1, 1, .null, 0, 0)),
  (66, (.invokestatic 36, 3, .ref 551, 0, 0)),
  (69, (.ireturn, 1, .null, 0, 0)),
  (70, (.iload_n 1, 1, .null, 0, 0)),
  (71, (.iconst 2, 1, .int 2, 0, 0)),
  (72, (.if_icmp .eq 7, 3, .null, 0, 79)),
  (75, (.iload_n 2, 1, .null, 0, 0)),
  (76, (.ifCond .eq 7, 3, .null, 0, 83)),
  (79, (.iconst 1, 1, .int 1, 0, 0)),
  (80, (.goto 4, 3, .null, 0, 84)),
  (83, (.iconst 5, 1, .int 5, 0, 0)),
  (84, (.ireturn, 1, .null, 0, 0)),
  (85, (.iload_n 2, 1, .null, 0, 0)),
  (86, (.ifCond .eq 8, 3, .null, 0, 94)),
  (89, (.bipush 7, 2, .int 7, 0, 0)),
  (91, (.goto 5, 3, .null, 0, 96)),
  (94, (.bipush 6, 2, .int 6, 0, 0)),
  (96, (.ireturn, 1, .null, 0, 0)),
  (97, (.iload_n 1, 1, .null, 0, 0)),
  (98, (.iconst 1, 1, .int 1, 0, 0)),
  (99, (.if_icmp .ne 7, 3, .null, 0, 106)),
  (102, (.iconst 1, 1, .int 1, 0, 0)),
  (103, (.goto 5, 3, .null, 0, 108)),
  (106, (.bipush 7, 2, .int 7, 0, 0)),
  (108, (.ireturn, 1, .null, 0, 0))]
set_option maxRecDepth 100000 in
theorem ckP_stateAfter : ab_ckM mP_stateAfter kP_stateAfter = true := by decide +kernel
set_option maxRecDepth 100000 in
theorem wP_stateAfter : ab_MW mP_stateAfter 1 2 := ab_mw_ok (i1 := 63) (i2 := 543) (i3 := 24) (by decide +kernel) (ab_t3 (List.mem_of_getElem? (i := 5) rfl))
abbrev mP_afterReady : ab_Mt := (⟨"BusServo$Power", "afterReady", "(I)I"⟩, prog_8_method_11_code, 1, (some .int))
def kP_afterReady : ab_Cd := [
  (0, (.iload_n 0, 1, .null, 0, 0)),
  (1, (.iconst 5, 1, .int 5, 0, 0)),
  (2, (.if_icmp .eq 9, 3, .null, 0, 11)),
  (5, (.iload_n 0, 1, .null, 0, 0)),
  (6, (.bipush 6, 2, .int 6, 0, 0)),
  (8, (.if_icmp .ne 5, 3, .null, 0, 13)),
  (11, (.iconst 3, 1, .int 3, 0, 0)),
  (12, (.ireturn, 1, .null, 0, 0)),
  (13, (.iload_n 0, 1, .null, 0, 0)),
  (14, (.iconst 2, 1, .int 2, 0, 0)),
  (15, (.if_icmp .eq 8, 3, .null, 0, 23)),
  (18, (.iload_n 0, 1, .null, 0, 0)),
  (19, (.iconst 3, 1, .int 3, 0, 0)),
  (20, (.if_icmp .ne 7, 3, .null, 0, 27)),
  (23, (.iconst 1, 1, .int 1, 0, 0)),
  (24, (.goto 4, 3, .null, 0, 28)),
  (27, (.iconst 2, 1, .int 2, 0, 0)),
  (28, (.ireturn, 1, .null, 0, 0))]
set_option maxRecDepth 100000 in
theorem ckP_afterReady : ab_ckM mP_afterReady kP_afterReady = true := by decide +kernel
set_option maxRecDepth 100000 in
theorem wP_afterReady : ab_MW mP_afterReady 0 1 := ab_mw_ok (i1 := 63) (i2 := 546) (i3 := 0) (by decide +kernel) (ab_t3 (List.mem_of_getElem? (i := 8) rfl))
abbrev mP_afterSwitchedOn : ab_Mt := (⟨"BusServo$Power", "afterSwitchedOn", "(I)I"⟩, prog_8_method_12_code, 1, (some .int))
def kP_afterSwitchedOn : ab_Cd := [
  (0, (.iload_n 0, 1, .null, 0, 0)),
  (1, (.tableswitch 41 2 6 #[39, 39, 37, 41, 35], 35, .null, 0, 0)),
  (36, (.iconst 4, 1, .int 4, 0, 0)),
  (37, (.ireturn, 1, .null, 0, 0)),
  (38, (.iconst 2, 1, .int 2, 0, 0)),
  (39, (.ireturn, 1, .null, 0, 0)),
  (40, (.iconst 1, 1, .int 1, 0, 0)),
  (41, (.ireturn, 1, .null, 0, 0)),
  (42, (.iconst 3, 1, .int 3, 0, 0)),
  (43, (.ireturn, 1, .null, 0, 0))]
set_option maxRecDepth 100000 in
theorem ckP_afterSwitchedOn : ab_ckM mP_afterSwitchedOn kP_afterSwitchedOn = true := by decide +kernel
set_option maxRecDepth 100000 in
theorem wP_afterSwitchedOn : ab_MW mP_afterSwitchedOn 0 1 := ab_mw_ok (i1 := 63) (i2 := 549) (i3 := 0) (by decide +kernel) (ab_t3 (List.mem_of_getElem? (i := 11) rfl))
abbrev mP_afterEnabled : ab_Mt := (⟨"BusServo$Power", "afterEnabled", "(I)I"⟩, prog_8_method_13_code, 1, (some .int))
def kP_afterEnabled : ab_Cd := [
  (0, (.iload_n 0, 1, .null, 0, 0)),
  (1, (.tableswitch 39 2 5 #[35, 37, 33, 31], 31, .null, 0, 0)),
  (32, (.iconst 3, 1, .int 3, 0, 0)),
  (33, (.ireturn, 1, .null, 0, 0)),
  (34, (.iconst 2, 1, .int 2, 0, 0)),
  (35, (.ireturn, 1, .null, 0, 0)),
  (36, (.iconst 1, 1, .int 1, 0, 0)),
  (37, (.ireturn, 1, .null, 0, 0)),
  (38, (.iconst 5, 1, .int 5, 0, 0)),
  (39, (.ireturn, 1, .null, 0, 0)),
  (40, (.iconst 4, 1, .int 4, 0, 0)),
  (41, (.ireturn, 1, .null, 0, 0))]
set_option maxRecDepth 100000 in
theorem ckP_afterEnabled : ab_ckM mP_afterEnabled kP_afterEnabled = true := by decide +kernel
set_option maxRecDepth 100000 in
theorem wP_afterEnabled : ab_MW mP_afterEnabled 0 1 := ab_mw_ok (i1 := 63) (i2 := 552) (i3 := 0) (by decide +kernel) (ab_t3 (List.mem_of_getElem? (i := 14) rfl))
abbrev mT_init : ab_Mt := (⟨"BusServo$Store", "<init>", "()V"⟩, prog_9_method_1_code, 1, none)
def kT_init : ab_Cd := [
  (0, (.aload_n 0, 1, .null, 0, 0)),
  (1, (.invokespecial 3, 3, .ref 112, 0, 0)),
  (4, (.aload_n 0, 1, .null, 0, 0)),
  (5, (.iconst 2, 1, .int 2, 0, 0)),
  (6, (.bipush 22, 2, .int 22, 0, 0)),
  (8, (.multianewarray 11 2, 4, .null, 0, 0)),
  (12, (.putfield 13, 3, .ref 115, 2, 0)),
  (15, (.aload_n 0, 1, .null, 0, 0)),
  (16, (.bipush 22, 2, .int 22, 0, 0)),
  (18, (.newarray .int, 2, .null, 0, 0)),
  (20, (.putfield 16, 3, .ref 116, 2, 1)),
  (23, (.aload_n 0, 1, .null, 0, 0)),
  (24, (.iconst (-1), 1, .int (-1), 0, 0)),
  (25, (.putfield 20, 3, .ref 118, 2, 3)),
  (28, (.return_, 1, .null, 0, 0))]
set_option maxRecDepth 100000 in
theorem ckT_init : ab_ckM mT_init kT_init = true := by decide +kernel
set_option maxRecDepth 100000 in
theorem wT_init : ab_MW mT_init 2 0 := ab_mw_ok (i1 := 62) (i2 := 110) (i3 := 0) (by decide +kernel) (ab_t1 (List.mem_of_getElem? (i := 52) rfl))
abbrev mT_wordAt : ab_Mt := (⟨"BusServo$Store", "wordAt", "(II)I"⟩, prog_9_method_2_code, 3, (some .int))
def kT_wordAt : ab_Cd := [
  (0, (.iload_n 1, 1, .null, 0, 0)),
  (1, (.ifCond .lt 18, 3, .null, 0, 19)),
  (4, (.iload_n 1, 1, .null, 0, 0)),
  (5, (.iconst 1, 1, .int 1, 0, 0)),
  (6, (.if_icmp .gt 13, 3, .null, 0, 19)),
  (9, (.iload_n 2, 1, .null, 0, 0)),
  (10, (.ifCond .lt 9, 3, .null, 0, 19)),
  (13, (.iload_n 2, 1, .null, 0, 0)),
  (14, (.bipush 22, 2, .int 22, 0, 0)),
  (16, (.if_icmp .lt 5, 3, .null, 0, 21)),
  (19, (.iconst 0, 1, .int 0, 0, 0)),
  (20, (.ireturn, 1, .null, 0, 0)),
  (21, (.aload_n 0, 1, .null, 0, 0)),
  (22, (.getfield 13, 3, .ref 115, 2, 0)),
  (25, (.iload_n 1, 1, .null, 0, 0)),
  (26, (.aaload, 1, .null, 0, 0)),
  (27, (.iload_n 2, 1, .null, 0, 0)),
  (28, (.iaload, 1, .null, 0, 0)),
  (29, (.ireturn, 1, .null, 0, 0))]
set_option maxRecDepth 100000 in
theorem ckT_wordAt : ab_ckM mT_wordAt kT_wordAt = true := by decide +kernel
set_option maxRecDepth 100000 in
theorem wT_wordAt : ab_MW mT_wordAt 1 2 := ab_mw_ok (i1 := 62) (i2 := 695) (i3 := 696) (by decide +kernel) (ab_t3 (List.mem_of_getElem? (i := 158) rfl))
abbrev mT_isBusy : ab_Mt := (⟨"BusServo$Store", "isBusy", "()Z"⟩, prog_9_method_3_code, 1, (some .boolean))
def kT_isBusy : ab_Cd := [
  (0, (.aload_n 0, 1, .null, 0, 0)),
  (1, (.getfield 20, 3, .ref 118, 2, 3)),
  (4, (.iconst (-1), 1, .int (-1), 0, 0)),
  (5, (.if_icmp .eq 7, 3, .null, 0, 12)),
  (8, (.iconst 1, 1, .int 1, 0, 0)),
  (9, (.goto 4, 3, .null, 0, 13)),
  (12, (.iconst 0, 1, .int 0, 0, 0)),
  (13, (.ireturn, 1, .null, 0, 0))]
set_option maxRecDepth 100000 in
theorem ckT_isBusy : ab_ckM mT_isBusy kT_isBusy = true := by decide +kernel
set_option maxRecDepth 100000 in
theorem wT_isBusy : ab_MW mT_isBusy 1 0 := ab_mw_ok (i1 := 62) (i2 := 442) (i3 := 443) (by decide +kernel) (ab_t2 (List.mem_of_getElem? (i := 145) rfl))
abbrev mT_giveUp : ab_Mt := (⟨"BusServo$Store", "giveUp", "()V"⟩, prog_9_method_4_code, 1, none)
def kT_giveUp : ab_Cd := [
  (0, (.aload_n 0, 1, .null, 0, 0)),
  (1, (.iconst (-1), 1, .int (-1), 0, 0)),
  (2, (.putfield 20, 3, .ref 118, 2, 3)),
  (5, (.return_, 1, .null, 0, 0))]
set_option maxRecDepth 100000 in
theorem ckT_giveUp : ab_ckM mT_giveUp kT_giveUp = true := by decide +kernel
set_option maxRecDepth 100000 in
theorem wT_giveUp : ab_MW mT_giveUp 1 0 := ab_mw_ok (i1 := 62) (i2 := 194) (i3 := 195) (by decide +kernel) (ab_t1 (List.mem_of_getElem? (i := 137) rfl))
abbrev mT_beginSave : ab_Mt := (⟨"BusServo$Store", "beginSave", "([I)V"⟩, prog_9_method_5_code, 3, none)
def kT_beginSave : ab_Cd := [
  (0, (.iconst 1, 1, .int 1, 0, 0)),
  (1, (.istore_n 2, 1, .null, 0, 0)),
  (2, (.iload_n 2, 1, .null, 0, 0)),
  (3, (.bipush 22, 2, .int 22, 0, 0)),
  (5, (.if_icmp .ge 23, 3, .null, 0, 28)),
  (8, (.aload_n 0, 1, .null, 0, 0)),
  (9, (.getfield 16, 3, .ref 116, 2, 1)),
  (12, (.iload_n 2, 1, .null, 0, 0)),
  (13, (.aload_n 1, 1, .null, 0, 0)),
  (14, (.iload_n 2, 1, .null, 0, 0)),
  (15, (.iconst 1, 1, .int 1, 0, 0)),
  (16, (.isub, 1, .null, 0, 0)),
  (17, (.invokestatic 24, 3, .ref 206, 0, 0)),
  (20, (.iaload, 1, .null, 0, 0)),
  (21, (.iastore, 1, .null, 0, 0)),
  (22, (.iinc 2 1, 3, .int 1, 0, 0)),
  (25, (.goto (-23), 3, .null, 0, 2)),
  (28, (.aload_n 0, 1, .null, 0, 0)),
  (29, (.invokevirtual 28, 3, .ref 464, 0, 0)),
  (32, (.return_, 1, .null, 0, 0))]
set_option maxRecDepth 100000 in
theorem ckT_beginSave : ab_ckM mT_beginSave kT_beginSave = true := by decide +kernel
set_option maxRecDepth 100000 in
theorem wT_beginSave : ab_MW mT_beginSave 1 1 := ab_mw_ok (i1 := 62) (i2 := 461) (i3 := 462) (by decide +kernel) (ab_t2 (List.mem_of_getElem? (i := 164) rfl))
abbrev mT_beginRestore : ab_Mt := (⟨"BusServo$Store", "beginRestore", "()V"⟩, prog_9_method_6_code, 2, none)
def kT_beginRestore : ab_Cd := [
  (0, (.iconst 1, 1, .int 1, 0, 0)),
  (1, (.istore_n 1, 1, .null, 0, 0)),
  (2, (.iload_n 1, 1, .null, 0, 0)),
  (3, (.bipush 22, 2, .int 22, 0, 0)),
  (5, (.if_icmp .ge 24, 3, .null, 0, 29)),
  (8, (.aload_n 0, 1, .null, 0, 0)),
  (9, (.getfield 16, 3, .ref 116, 2, 1)),
  (12, (.iload_n 1, 1, .null, 0, 0)),
  (13, (.iload_n 1, 1, .null, 0, 0)),
  (14, (.iconst 1, 1, .int 1, 0, 0)),
  (15, (.isub, 1, .null, 0, 0)),
  (16, (.invokestatic 24, 3, .ref 206, 0, 0)),
  (19, (.invokestatic 31, 3, .ref 201, 0, 0)),
  (22, (.iastore, 1, .null, 0, 0)),
  (23, (.iinc 1 1, 3, .int 1, 0, 0)),
  (26, (.goto (-24), 3, .null, 0, 2)),
  (29, (.aload_n 0, 1, .null, 0, 0)),
  (30, (.invokevirtual 28, 3, .ref 464, 0, 0)),
  (33, (.return_, 1, .null, 0, 0))]
set_option maxRecDepth 100000 in
theorem ckT_beginRestore : ab_ckM mT_beginRestore kT_beginRestore = true := by decide +kernel
set_option maxRecDepth 100000 in
theorem wT_beginRestore : ab_MW mT_beginRestore 1 0 := ab_mw_ok (i1 := 62) (i2 := 469) (i3 := 470) (by decide +kernel) (ab_t2 (List.mem_of_getElem? (i := 172) rfl))
abbrev mT_begin : ab_Mt := (⟨"BusServo$Store", "begin", "()V"⟩, prog_9_method_7_code, 1, none)
def kT_begin : ab_Cd := [
  (0, (.aload_n 0, 1, .null, 0, 0)),
  (1, (.aload_n 0, 1, .null, 0, 0)),
  (2, (.getfield 13, 3, .ref 115, 2, 0)),
  (5, (.iconst 1, 1, .int 1, 0, 0)),
  (6, (.aaload, 1, .null, 1, 0)),
  (7, (.iconst 0, 1, .int 0, 0, 0)),
  (8, (.iaload, 1, .null, 1, 0)),
  (9, (.aload_n 0, 1, .null, 0, 0)),
  (10, (.getfield 13, 3, .ref 115, 2, 0)),
  (13, (.iconst 0, 1, .int 0, 0, 0)),
  (14, (.aaload, 1, .null, 1, 0)),
  (15, (.iconst 0, 1, .int 0, 0, 0)),
  (16, (.iaload, 1, .null, 1, 0)),
  (17, (.if_icmp .ge 7, 3, .null, 0, 24)),
  (20, (.iconst 1, 1, .int 1, 0, 0)),
  (21, (.goto 4, 3, .null, 0, 25)),
  (24, (.iconst 0, 1, .int 0, 0, 0)),
  (25, (.putfield 34, 3, .ref 117, 2, 2)),
  (28, (.aload_n 0, 1, .null, 0, 0)),
  (29, (.iconst 0, 1, .int 0, 0, 0)),
  (30, (.putfield 20, 3, .ref 118, 2, 3)),
  (33, (.return_, 1, .null, 0, 0))]
set_option maxRecDepth 100000 in
theorem ckT_begin : ab_ckM mT_begin kT_begin = true := by decide +kernel
set_option maxRecDepth 100000 in
theorem wT_begin : ab_MW mT_begin 1 0 := ab_mw_ok (i1 := 62) (i2 := 466) (i3 := 16) (by decide +kernel) (ab_t2 (List.mem_of_getElem? (i := 168) rfl))
abbrev mT_goOn : ab_Mt := (⟨"BusServo$Store", "goOn", "()V"⟩, prog_9_method_8_code, 1, none)
def kT_goOn : ab_Cd := [
  (0, (.aload_n 0, 1, .null, 0, 0)),
  (1, (.getfield 20, 3, .ref 118, 2, 3)),
  (4, (.iconst (-1), 1, .int (-1), 0, 0)),
  (5, (.if_icmp .ne 4, 3, .null, 0, 9)),
  (8, (.return_, 1, .null, 0, 0)),
  (9, (.aload_n 0, 1, .null, 0, 0)),
  (10, (.getfield 20, 3, .ref 118, 2, 3)),
  (13, (.bipush 22, 2, .int 22, 0, 0)),
  (15, (.if_icmp .ne 35, 3, .null, 0, 50)),
  (18, (.aload_n 0, 1, .null, 0, 0)),
  (19, (.getfield 13, 3, .ref 115, 2, 0)),
  (22, (.aload_n 0, 1, .null, 0, 0)),
  (23, (.getfield 34, 3, .ref 117, 2, 2)),
  (26, (.aaload, 1, .null, 0, 0)),
  (27, (.iconst 0, 1, .int 0, 0, 0)),
  (28, (.aload_n 0, 1, .null, 0, 0)),
  (29, (.getfield 13, 3, .ref 115, 2, 0)),
  (32, (.iconst 1, 1, .int 1, 0, 0)),
  (33, (.aload_n 0, 1, .null, 0, 0)),
  (34, (.getfield 34, 3, .ref 117, 2, 2)),
  (37, (.isub, 1, .null, 0, 0)),
  (38, (.aaload, 1, .null, 0, 0)),
  (39, (.iconst 0, 1, .int 0, 0, 0)),
  (40, (.iaload, 1, .null, 1, 0)),
  (41, (.iconst 1, 1, .int 1, 0, 0)),
  (42, (.iadd, 1, .null, 0, 0)),
  (43, (.iastore, 1, .null, 1, 0)),
  (44, (.aload_n 0, 1, .null, 0, 0)),
  (45, (.iconst (-1), 1, .int (-1), 0, 0)),
  (46, (.putfield 20, 3, .ref 118, 2, 3)),
  (49, (.return_, 1, .null, 0, 0)),
  (50, (.aload_n 0, 1, .null, 0, 0)),
  (51, (.getfield 13, 3, .ref 115, 2, 0)),
  (54, (.aload_n 0, 1, .null, 0, 0)),
  (55, (.getfield 34, 3, .ref 117, 2, 2)),
  (58, (.aaload, 1, .null, 0, 0)),
  (59, (.aload_n 0, 1, .null, 0, 0)),
  (60, (.getfield 20, 3, .ref 118, 2, 3)),
  (63, (.aload_n 0, 1, .null, 0, 0)),
  (64, (.getfield 20, 3, .ref 118, 2, 3)),
  (67, (.ifCond .ne 7, 3, .null, 0, 74)),
  (70, (.iconst 0, 1, .int 0, 0, 0)),
  (71, (.goto 12, 3, .null, 0, 83)),
  (74, (.aload_n 0, 1, .null, 0, 0)),
  (75, (.getfield 16, 3, .ref 116, 2, 1)),
  (78, (.aload_n 0, 1, .null, 0, 0)),
  (79, (.getfield 20, 3, .ref 118, 2, 3)),
  (82, (.iaload, 1, .null, 0, 0)),
  (83, (.iastore, 1, .null, 0, 0)),
  (84, (.aload_n 0, 1, .null, 0, 0)),
  (85, (.dup, 1, .null, 0, 0)),
  (86, (.getfield 20, 3, .ref 118, 2, 3)),
  (89, (.iconst 1, 1, .int 1, 0, 0)),
  (90, (.iadd, 1, .null, 0, 0)),
  (91, (.putfield 20, 3, .ref 118, 2, 3)),
  (94, (.return_, 1, .null, 0, 0))]
set_option maxRecDepth 100000 in
theorem ckT_goOn : ab_ckM mT_goOn kT_goOn = true := by decide +kernel
set_option maxRecDepth 100000 in
theorem wT_goOn : ab_MW mT_goOn 1 0 := ab_mw_ok (i1 := 62) (i2 := 495) (i3 := 496) (by decide +kernel) (ab_t2 (List.mem_of_getElem? (i := 198) rfl))
abbrev mT_load : ab_Mt := (⟨"BusServo$Store", "load", "([I)V"⟩, prog_9_method_9_code, 4, none)
def kT_load : ab_Cd := [
  (0, (.iconst 0, 1, .int 0, 0, 0)),
  (1, (.istore_n 2, 1, .null, 0, 0)),
  (2, (.iload_n 2, 1, .null, 0, 0)),
  (3, (.bipush 30, 2, .int 30, 0, 0)),
  (5, (.if_icmp .ge 16, 3, .null, 0, 21)),
  (8, (.aload_n 1, 1, .null, 0, 0)),
  (9, (.iload_n 2, 1, .null, 0, 0)),
  (10, (.iload_n 2, 1, .null, 0, 0)),
  (11, (.invokestatic 31, 3, .ref 201, 0, 0)),
  (14, (.iastore, 1, .null, 0, 0)),
  (15, (.iinc 2 1, 3, .int 1, 0, 0)),
  (18, (.goto (-16), 3, .null, 0, 2)),
  (21, (.aload_n 0, 1, .null, 0, 0)),
  (22, (.getfield 13, 3, .ref 115, 2, 0)),
  (25, (.iconst 1, 1, .int 1, 0, 0)),
  (26, (.aaload, 1, .null, 1, 0)),
  (27, (.iconst 0, 1, .int 0, 0, 0)),
  (28, (.iaload, 1, .null, 1, 0)),
  (29, (.aload_n 0, 1, .null, 0, 0)),
  (30, (.getfield 13, 3, .ref 115, 2, 0)),
  (33, (.iconst 0, 1, .int 0, 0, 0)),
  (34, (.aaload, 1, .null, 1, 0)),
  (35, (.iconst 0, 1, .int 0, 0, 0)),
  (36, (.iaload, 1, .null, 1, 0)),
  (37, (.if_icmp .le 7, 3, .null, 0, 44)),
  (40, (.iconst 1, 1, .int 1, 0, 0)),
  (41, (.goto 4, 3, .null, 0, 45)),
  (44, (.iconst 0, 1, .int 0, 0, 0)),
  (45, (.istore_n 2, 1, .null, 0, 0)),
  (46, (.aload_n 0, 1, .null, 0, 0)),
  (47, (.getfield 13, 3, .ref 115, 2, 0)),
  (50, (.iload_n 2, 1, .null, 0, 0)),
  (51, (.aaload, 1, .null, 0, 0)),
  (52, (.iconst 0, 1, .int 0, 0, 0)),
  (53, (.iaload, 1, .null, 1, 0)),
  (54, (.ifCond .ne 4, 3, .null, 0, 58)),
  (57, (.return_, 1, .null, 0, 0)),
  (58, (.iconst 1, 1, .int 1, 0, 0)),
  (59, (.istore_n 3, 1, .null, 0, 0)),
  (60, (.iload_n 3, 1, .null, 0, 0)),
  (61, (.bipush 22, 2, .int 22, 0, 0)),
  (63, (.if_icmp .ge 25, 3, .null, 0, 88)),
  (66, (.aload_n 1, 1, .null, 0, 0)),
  (67, (.iload_n 3, 1, .null, 0, 0)),
  (68, (.iconst 1, 1, .int 1, 0, 0)),
  (69, (.isub, 1, .null, 0, 0)),
  (70, (.invokestatic 24, 3, .ref 206, 0, 0)),
  (73, (.aload_n 0, 1, .null, 0, 0)),
  (74, (.getfield 13, 3, .ref 115, 2, 0)),
  (77, (.iload_n 2, 1, .null, 0, 0)),
  (78, (.aaload, 1, .null, 0, 0)),
  (79, (.iload_n 3, 1, .null, 0, 0)),
  (80, (.iaload, 1, .null, 0, 0)),
  (81, (.iastore, 1, .null, 0, 0)),
  (82, (.iinc 3 1, 3, .int 1, 0, 0)),
  (85, (.goto (-25), 3, .null, 0, 60)),
  (88, (.return_, 1, .null, 0, 0))]
set_option maxRecDepth 100000 in
theorem ckT_load : ab_ckM mT_load kT_load = true := by decide +kernel
set_option maxRecDepth 100000 in
theorem wT_load : ab_MW mT_load 1 1 := ab_mw_ok (i1 := 62) (i2 := 198) (i3 := 199) (by decide +kernel) (ab_t1 (List.mem_of_getElem? (i := 141) rfl))
abbrev mH_init : ab_Mt := (⟨"BusServo$Watch", "<init>", "()V"⟩, prog_10_method_1_code, 1, none)
def kH_init : ab_Cd := [
  (0, (.aload_n 0, 1, .null, 0, 0)),
  (1, (.invokespecial 1, 3, .ref 159, 0, 0)),
  (4, (.return_, 1, .null, 0, 0))]
set_option maxRecDepth 100000 in
theorem ckH_init : ab_ckM mH_init kH_init = true := by decide +kernel
set_option maxRecDepth 100000 in
theorem wH_init : ab_MW mH_init 2 0 := ab_mw_ok (i1 := 65) (i2 := 157) (i3 := 0) (by decide +kernel) (ab_t1 (List.mem_of_getElem? (i := 99) rfl))
abbrev mH_arm : ab_Mt := (⟨"BusServo$Watch", "arm", "()V"⟩, prog_10_method_2_code, 1, none)
def kH_arm : ab_Cd := [
  (0, (.aload_n 0, 1, .null, 0, 0)),
  (1, (.iconst 1, 1, .int 1, 0, 0)),
  (2, (.putfield 7, 3, .ref 160, 5, 0)),
  (5, (.aload_n 0, 1, .null, 0, 0)),
  (6, (.iconst 0, 1, .int 0, 0, 0)),
  (7, (.putfield 13, 3, .ref 161, 5, 1)),
  (10, (.return_, 1, .null, 0, 0))]
set_option maxRecDepth 100000 in
theorem ckH_arm : ab_ckM mH_arm kH_arm = true := by decide +kernel
set_option maxRecDepth 100000 in
theorem wH_arm : ab_MW mH_arm 1 0 := ab_mw_ok (i1 := 65) (i2 := 481) (i3 := 482) (by decide +kernel) (ab_t2 (List.mem_of_getElem? (i := 184) rfl))
abbrev mH_disarm : ab_Mt := (⟨"BusServo$Watch", "disarm", "()V"⟩, prog_10_method_3_code, 1, none)
def kH_disarm : ab_Cd := [
  (0, (.aload_n 0, 1, .null, 0, 0)),
  (1, (.iconst 0, 1, .int 0, 0, 0)),
  (2, (.putfield 7, 3, .ref 160, 5, 0)),
  (5, (.return_, 1, .null, 0, 0))]
set_option maxRecDepth 100000 in
theorem ckH_disarm : ab_ckM mH_disarm kH_disarm = true := by decide +kernel
set_option maxRecDepth 100000 in
theorem wH_disarm : ab_MW mH_disarm 1 0 := ab_mw_ok (i1 := 65) (i2 := 220) (i3 := 221) (by decide +kernel) (ab_t1 (List.mem_of_getElem? (i := 163) rfl))
abbrev mH_runsOut : ab_Mt := (⟨"BusServo$Watch", "runsOut", "(I)Z"⟩, prog_10_method_4_code, 2, (some .boolean))
def kH_runsOut : ab_Cd := [
  (0, (.aload_n 0, 1, .null, 0, 0)),
  (1, (.getfield 7, 3, .ref 160, 5, 0)),
  (4, (.ifCond .ne 5, 3, .null, 0, 9)),
  (7, (.iconst 0, 1, .int 0, 0, 0)),
  (8, (.ireturn, 1, .null, 0, 0)),
  (9, (.aload_n 0, 1, .null, 0, 0)),
  (10, (.dup, 1, .null, 0, 0)),
  (11, (.getfield 13, 3, .ref 161, 5, 1)),
  (14, (.iconst 1, 1, .int 1, 0, 0)),
  (15, (.iadd, 1, .null, 0, 0)),
  (16, (.putfield 13, 3, .ref 161, 5, 1)),
  (19, (.aload_n 0, 1, .null, 0, 0)),
  (20, (.getfield 13, 3, .ref 161, 5, 1)),
  (23, (.iload_n 1, 1, .null, 0, 0)),
  (24, (.if_icmp .ge 5, 3, .null, 0, 29)),
  (27, (.iconst 0, 1, .int 0, 0, 0)),
  (28, (.ireturn, 1, .null, 0, 0)),
  (29, (.aload_n 0, 1, .null, 0, 0)),
  (30, (.invokevirtual 17, 3, .ref 506, 0, 0)),
  (33, (.iconst 1, 1, .int 1, 0, 0)),
  (34, (.ireturn, 1, .null, 0, 0))]
set_option maxRecDepth 100000 in
theorem ckH_runsOut : ab_ckM mH_runsOut kH_runsOut = true := by decide +kernel
set_option maxRecDepth 100000 in
theorem wH_runsOut : ab_MW mH_runsOut 1 1 := ab_mw_ok (i1 := 65) (i2 := 503) (i3 := 504) (by decide +kernel) (ab_t2 (List.mem_of_getElem? (i := 206) rfl))
