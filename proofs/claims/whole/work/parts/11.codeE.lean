/-! methods and their code, by program -/
abbrev mL_cell : ab_Mt := (⟨"BusServoLaw", "cell", "([II)I"⟩, method_2_code, 2, (some .int))
def kL_cell : ab_Cd := [
  (0, (.iload_n 1, 1, .null, 0, 0)),
  (1, (.aload_n 0, 1, .null, 0, 0)),
  (2, (.arraylength, 1, .null, 0, 0)),
  (3, (.if_icmp .ge 9, 3, .null, 0, 12)),
  (6, (.aload_n 0, 1, .null, 0, 0)),
  (7, (.iload_n 1, 1, .null, 0, 0)),
  (8, (.iaload, 1, .null, 0, 0)),
  (9, (.goto 4, 3, .null, 0, 13)),
  (12, (.iconst 0, 1, .int 0, 0, 0)),
  (13, (.ireturn, 1, .null, 0, 0))]
set_option maxRecDepth 100000 in
theorem ckL_cell : ab_ckM mL_cell kL_cell = true := by decide +kernel
set_option maxRecDepth 100000 in
theorem wL_cell : ab_MW mL_cell 0 2 := ab_mw_ok (i1 := 59) (i2 := 699) (i3 := 0) (by decide +kernel) (ab_t3 (List.mem_of_getElem? (i := 161) rfl))
abbrev mL_law : ab_Mt := (⟨"BusServoLaw", "law", "([I)Z"⟩, code, 4, (some .boolean))
def kL_law_0 : ab_Cd := [
  (0, (.new 7, 3, .null, 0, 0)),
  (3, (.dup, 1, .null, 0, 0)),
  (4, (.aload_n 0, 1, .null, 0, 0)),
  (5, (.iconst 0, 1, .int 0, 0, 0)),
  (6, (.invokestatic 9, 3, .ref 698, 0, 0)),
  (9, (.invokespecial 15, 3, .ref 74, 0, 0)),
  (12, (.astore_n 1, 1, .null, 0, 0)),
  (13, (.new 18, 3, .null, 7, 0)),
  (16, (.dup, 1, .null, 0, 0)),
  (17, (.aload_n 0, 1, .null, 0, 0)),
  (18, (.iconst 0, 1, .int 0, 0, 0)),
  (19, (.invokestatic 9, 3, .ref 698, 0, 0)),
  (22, (.invokespecial 20, 3, .ref 703, 0, 0)),
  (25, (.astore_n 2, 1, .null, 0, 0)),
  (26, (.iconst 1, 1, .int 1, 0, 0)),
  (27, (.istore_n 3, 1, .null, 0, 0)),
  (28, (.iload_n 3, 1, .null, 0, 0)),
  (29, (.aload_n 0, 1, .null, 0, 0))]
set_option maxRecDepth 100000 in
theorem ckL_law_0 : ab_ckM mL_law kL_law_0 = true := by decide +kernel
def kL_law_1 : ab_Cd := [
  (30, (.arraylength, 1, .null, 0, 0)),
  (31, (.iconst 5, 1, .int 5, 0, 0)),
  (32, (.isub, 1, .null, 0, 0)),
  (33, (.if_icmp .gt 461, 3, .null, 0, 494)),
  (36, (.aload_n 0, 1, .null, 0, 0)),
  (37, (.iload_n 3, 1, .null, 0, 0)),
  (38, (.iaload, 1, .null, 0, 0)),
  (39, (.bipush 31, 2, .int 31, 0, 0)),
  (41, (.iand, 1, .null, 0, 0)),
  (42, (.tableswitch 446 0 16 #[82, 155, 178, 201, 238, 249, 262, 275, 289, 302, 315, 328, 361, 374, 387, 400, 413], 82, .null, 0, 0)),
  (124, (.aload_n 1, 1, .null, 0, 0)),
  (125, (.aload_n 0, 1, .null, 0, 0)),
  (126, (.iload_n 3, 1, .null, 0, 0)),
  (127, (.iconst 1, 1, .int 1, 0, 0)),
  (128, (.iadd, 1, .null, 0, 0)),
  (129, (.iaload, 1, .null, 0, 0)),
  (130, (.aload_n 0, 1, .null, 0, 0)),
  (131, (.iload_n 3, 1, .null, 0, 0))]
set_option maxRecDepth 100000 in
theorem ckL_law_1 : ab_ckM mL_law kL_law_1 = true := by decide +kernel
def kL_law_2 : ab_Cd := [
  (132, (.iconst 2, 1, .int 2, 0, 0)),
  (133, (.iadd, 1, .null, 0, 0)),
  (134, (.iaload, 1, .null, 0, 0)),
  (135, (.aload_n 0, 1, .null, 0, 0)),
  (136, (.iload_n 3, 1, .null, 0, 0)),
  (137, (.iconst 3, 1, .int 3, 0, 0)),
  (138, (.iadd, 1, .null, 0, 0)),
  (139, (.iaload, 1, .null, 0, 0)),
  (140, (.i2l, 1, .null, 0, 0)),
  (141, (.bipush 32, 2, .int 32, 0, 0)),
  (143, (.lshl, 1, .null, 0, 0)),
  (144, (.aload_n 0, 1, .null, 0, 0)),
  (145, (.iload_n 3, 1, .null, 0, 0)),
  (146, (.iconst 4, 1, .int 4, 0, 0)),
  (147, (.iadd, 1, .null, 0, 0)),
  (148, (.iaload, 1, .null, 0, 0)),
  (149, (.i2l, 1, .null, 0, 0)),
  (150, (.ldc2_w 21, 3, .long 4294967295, 0, 1053))]
set_option maxRecDepth 100000 in
theorem ckL_law_2 : ab_ckM mL_law kL_law_2 = true := by decide +kernel
def kL_law_3 : ab_Cd := [
  (153, (.land, 1, .null, 0, 0)),
  (154, (.lor, 1, .null, 0, 0)),
  (155, (.invokevirtual 23, 3, .ref 270, 0, 0)),
  (158, (.aload_n 2, 1, .null, 0, 0)),
  (159, (.aload_n 0, 1, .null, 0, 0)),
  (160, (.iload_n 3, 1, .null, 0, 0)),
  (161, (.iconst 1, 1, .int 1, 0, 0)),
  (162, (.iadd, 1, .null, 0, 0)),
  (163, (.iaload, 1, .null, 0, 0)),
  (164, (.aload_n 0, 1, .null, 0, 0)),
  (165, (.iload_n 3, 1, .null, 0, 0)),
  (166, (.iconst 2, 1, .int 2, 0, 0)),
  (167, (.iadd, 1, .null, 0, 0)),
  (168, (.iaload, 1, .null, 0, 0)),
  (169, (.aload_n 0, 1, .null, 0, 0)),
  (170, (.iload_n 3, 1, .null, 0, 0)),
  (171, (.iconst 3, 1, .int 3, 0, 0)),
  (172, (.iadd, 1, .null, 0, 0))]
set_option maxRecDepth 100000 in
theorem ckL_law_3 : ab_ckM mL_law kL_law_3 = true := by decide +kernel
def kL_law_4 : ab_Cd := [
  (173, (.iaload, 1, .null, 0, 0)),
  (174, (.i2l, 1, .null, 0, 0)),
  (175, (.bipush 32, 2, .int 32, 0, 0)),
  (177, (.lshl, 1, .null, 0, 0)),
  (178, (.aload_n 0, 1, .null, 0, 0)),
  (179, (.iload_n 3, 1, .null, 0, 0)),
  (180, (.iconst 4, 1, .int 4, 0, 0)),
  (181, (.iadd, 1, .null, 0, 0)),
  (182, (.iaload, 1, .null, 0, 0)),
  (183, (.i2l, 1, .null, 0, 0)),
  (184, (.ldc2_w 21, 3, .long 4294967295, 0, 1053)),
  (187, (.land, 1, .null, 0, 0)),
  (188, (.lor, 1, .null, 0, 0)),
  (189, (.invokevirtual 27, 3, .ref 892, 0, 0)),
  (192, (.if_icmp .eq 296, 3, .null, 0, 488)),
  (195, (.iconst 0, 1, .int 0, 0, 0)),
  (196, (.ireturn, 1, .null, 0, 0)),
  (197, (.aload_n 1, 1, .null, 0, 0))]
set_option maxRecDepth 100000 in
theorem ckL_law_4 : ab_ckM mL_law kL_law_4 = true := by decide +kernel
def kL_law_5 : ab_Cd := [
  (198, (.aload_n 0, 1, .null, 0, 0)),
  (199, (.iload_n 3, 1, .null, 0, 0)),
  (200, (.iconst 1, 1, .int 1, 0, 0)),
  (201, (.iadd, 1, .null, 0, 0)),
  (202, (.iaload, 1, .null, 0, 0)),
  (203, (.invokevirtual 28, 3, .ref 484, 0, 0)),
  (206, (.aload_n 2, 1, .null, 0, 0)),
  (207, (.aload_n 0, 1, .null, 0, 0)),
  (208, (.iload_n 3, 1, .null, 0, 0)),
  (209, (.iconst 1, 1, .int 1, 0, 0)),
  (210, (.iadd, 1, .null, 0, 0)),
  (211, (.iaload, 1, .null, 0, 0)),
  (212, (.invokevirtual 32, 3, .ref 988, 0, 0)),
  (215, (.if_icmp .eq 273, 3, .null, 0, 488)),
  (218, (.iconst 0, 1, .int 0, 0, 0)),
  (219, (.ireturn, 1, .null, 0, 0)),
  (220, (.aload_n 1, 1, .null, 0, 0)),
  (221, (.aload_n 0, 1, .null, 0, 0))]
set_option maxRecDepth 100000 in
theorem ckL_law_5 : ab_ckM mL_law kL_law_5 = true := by decide +kernel
def kL_law_6 : ab_Cd := [
  (222, (.iload_n 3, 1, .null, 0, 0)),
  (223, (.iconst 1, 1, .int 1, 0, 0)),
  (224, (.iadd, 1, .null, 0, 0)),
  (225, (.iaload, 1, .null, 0, 0)),
  (226, (.invokevirtual 33, 3, .ref 605, 0, 0)),
  (229, (.aload_n 2, 1, .null, 0, 0)),
  (230, (.aload_n 0, 1, .null, 0, 0)),
  (231, (.iload_n 3, 1, .null, 0, 0)),
  (232, (.iconst 1, 1, .int 1, 0, 0)),
  (233, (.iadd, 1, .null, 0, 0)),
  (234, (.iaload, 1, .null, 0, 0)),
  (235, (.invokevirtual 37, 3, .ref 1029, 0, 0)),
  (238, (.if_icmp .eq 250, 3, .null, 0, 488)),
  (241, (.iconst 0, 1, .int 0, 0, 0)),
  (242, (.ireturn, 1, .null, 0, 0)),
  (243, (.aload_n 1, 1, .null, 0, 0)),
  (244, (.aload_n 0, 1, .null, 0, 0)),
  (245, (.iload_n 3, 1, .null, 0, 0))]
set_option maxRecDepth 100000 in
theorem ckL_law_6 : ab_ckM mL_law kL_law_6 = true := by decide +kernel
def kL_law_7 : ab_Cd := [
  (246, (.iconst 1, 1, .int 1, 0, 0)),
  (247, (.iadd, 1, .null, 0, 0)),
  (248, (.iaload, 1, .null, 0, 0)),
  (249, (.ifCond .eq 7, 3, .null, 0, 256)),
  (252, (.iconst 1, 1, .int 1, 0, 0)),
  (253, (.goto 4, 3, .null, 0, 257)),
  (256, (.iconst 0, 1, .int 0, 0, 0)),
  (257, (.invokevirtual 38, 3, .ref 609, 0, 0)),
  (260, (.aload_n 2, 1, .null, 0, 0)),
  (261, (.aload_n 0, 1, .null, 0, 0)),
  (262, (.iload_n 3, 1, .null, 0, 0)),
  (263, (.iconst 1, 1, .int 1, 0, 0)),
  (264, (.iadd, 1, .null, 0, 0)),
  (265, (.iaload, 1, .null, 0, 0)),
  (266, (.ifCond .eq 7, 3, .null, 0, 273)),
  (269, (.iconst 1, 1, .int 1, 0, 0)),
  (270, (.goto 4, 3, .null, 0, 274)),
  (273, (.iconst 0, 1, .int 0, 0, 0))]
set_option maxRecDepth 100000 in
theorem ckL_law_7 : ab_ckM mL_law kL_law_7 = true := by decide +kernel
def kL_law_8 : ab_Cd := [
  (274, (.invokevirtual 42, 3, .ref 878, 0, 0)),
  (277, (.goto 211, 3, .null, 0, 488)),
  (280, (.aload_n 1, 1, .null, 0, 0)),
  (281, (.invokevirtual 43, 3, .ref 614, 0, 0)),
  (284, (.aload_n 2, 1, .null, 0, 0)),
  (285, (.invokevirtual 46, 3, .ref 845, 0, 0)),
  (288, (.goto 200, 3, .null, 0, 488)),
  (291, (.aload_n 1, 1, .null, 0, 0)),
  (292, (.invokevirtual 47, 3, .ref 618, 0, 0)),
  (295, (.aload_n 2, 1, .null, 0, 0)),
  (296, (.invokevirtual 51, 3, .ref 850, 0, 0)),
  (299, (.if_icmp .eq 189, 3, .null, 0, 488)),
  (302, (.iconst 0, 1, .int 0, 0, 0)),
  (303, (.ireturn, 1, .null, 0, 0)),
  (304, (.aload_n 1, 1, .null, 0, 0)),
  (305, (.invokevirtual 52, 3, .ref 626, 0, 0)),
  (308, (.aload_n 2, 1, .null, 0, 0)),
  (309, (.invokevirtual 55, 3, .ref 858, 0, 0))]
set_option maxRecDepth 100000 in
theorem ckL_law_8 : ab_ckM mL_law kL_law_8 = true := by decide +kernel
def kL_law_9 : ab_Cd := [
  (312, (.if_icmp .eq 176, 3, .null, 0, 488)),
  (315, (.iconst 0, 1, .int 0, 0, 0)),
  (316, (.ireturn, 1, .null, 0, 0)),
  (317, (.aload_n 1, 1, .null, 0, 0)),
  (318, (.invokevirtual 56, 3, .ref 634, 0, 0)),
  (321, (.aload_n 2, 1, .null, 0, 0)),
  (322, (.invokevirtual 60, 3, .ref 862, 0, 0)),
  (325, (.lcmp, 1, .null, 0, 0)),
  (326, (.ifCond .eq 162, 3, .null, 0, 488)),
  (329, (.iconst 0, 1, .int 0, 0, 0)),
  (330, (.ireturn, 1, .null, 0, 0)),
  (331, (.aload_n 1, 1, .null, 0, 0)),
  (332, (.invokevirtual 61, 3, .ref 642, 0, 0)),
  (335, (.aload_n 2, 1, .null, 0, 0)),
  (336, (.invokevirtual 65, 3, .ref 866, 0, 0)),
  (339, (.if_icmp .eq 149, 3, .null, 0, 488)),
  (342, (.iconst 0, 1, .int 0, 0, 0)),
  (343, (.ireturn, 1, .null, 0, 0))]
set_option maxRecDepth 100000 in
theorem ckL_law_9 : ab_ckM mL_law kL_law_9 = true := by decide +kernel
def kL_law_10 : ab_Cd := [
  (344, (.aload_n 1, 1, .null, 0, 0)),
  (345, (.invokevirtual 66, 3, .ref 650, 0, 0)),
  (348, (.aload_n 2, 1, .null, 0, 0)),
  (349, (.invokevirtual 69, 3, .ref 870, 0, 0)),
  (352, (.if_icmp .eq 136, 3, .null, 0, 488)),
  (355, (.iconst 0, 1, .int 0, 0, 0)),
  (356, (.ireturn, 1, .null, 0, 0)),
  (357, (.aload_n 1, 1, .null, 0, 0)),
  (358, (.invokevirtual 70, 3, .ref 658, 0, 0)),
  (361, (.aload_n 2, 1, .null, 0, 0)),
  (362, (.invokevirtual 73, 3, .ref 874, 0, 0)),
  (365, (.if_icmp .eq 123, 3, .null, 0, 488)),
  (368, (.iconst 0, 1, .int 0, 0, 0)),
  (369, (.ireturn, 1, .null, 0, 0)),
  (370, (.aload_n 1, 1, .null, 0, 0)),
  (371, (.aload_n 0, 1, .null, 0, 0)),
  (372, (.iload_n 3, 1, .null, 0, 0)),
  (373, (.iconst 1, 1, .int 1, 0, 0))]
set_option maxRecDepth 100000 in
theorem ckL_law_10 : ab_ckM mL_law kL_law_10 = true := by decide +kernel
def kL_law_11 : ab_Cd := [
  (374, (.iadd, 1, .null, 0, 0)),
  (375, (.iaload, 1, .null, 0, 0)),
  (376, (.aload_n 0, 1, .null, 0, 0)),
  (377, (.iload_n 3, 1, .null, 0, 0)),
  (378, (.iconst 2, 1, .int 2, 0, 0)),
  (379, (.iadd, 1, .null, 0, 0)),
  (380, (.iaload, 1, .null, 0, 0)),
  (381, (.invokevirtual 74, 3, .ref 666, 0, 0)),
  (384, (.aload_n 2, 1, .null, 0, 0)),
  (385, (.aload_n 0, 1, .null, 0, 0)),
  (386, (.iload_n 3, 1, .null, 0, 0)),
  (387, (.iconst 1, 1, .int 1, 0, 0)),
  (388, (.iadd, 1, .null, 0, 0)),
  (389, (.iaload, 1, .null, 0, 0)),
  (390, (.aload_n 0, 1, .null, 0, 0)),
  (391, (.iload_n 3, 1, .null, 0, 0)),
  (392, (.iconst 2, 1, .int 2, 0, 0)),
  (393, (.iadd, 1, .null, 0, 0))]
set_option maxRecDepth 100000 in
theorem ckL_law_11 : ab_ckM mL_law kL_law_11 = true := by decide +kernel
def kL_law_12 : ab_Cd := [
  (394, (.iaload, 1, .null, 0, 0)),
  (395, (.invokevirtual 78, 3, .ref 1033, 0, 0)),
  (398, (.if_icmp .eq 90, 3, .null, 0, 488)),
  (401, (.iconst 0, 1, .int 0, 0, 0)),
  (402, (.ireturn, 1, .null, 0, 0)),
  (403, (.aload_n 1, 1, .null, 0, 0)),
  (404, (.invokevirtual 79, 3, .ref 670, 0, 0)),
  (407, (.aload_n 2, 1, .null, 0, 0)),
  (408, (.invokevirtual 82, 3, .ref 1037, 0, 0)),
  (411, (.if_icmp .eq 77, 3, .null, 0, 488)),
  (414, (.iconst 0, 1, .int 0, 0, 0)),
  (415, (.ireturn, 1, .null, 0, 0)),
  (416, (.aload_n 1, 1, .null, 0, 0)),
  (417, (.invokevirtual 83, 3, .ref 674, 0, 0)),
  (420, (.aload_n 2, 1, .null, 0, 0)),
  (421, (.invokevirtual 86, 3, .ref 1041, 0, 0)),
  (424, (.if_icmp .eq 64, 3, .null, 0, 488)),
  (427, (.iconst 0, 1, .int 0, 0, 0))]
set_option maxRecDepth 100000 in
theorem ckL_law_12 : ab_ckM mL_law kL_law_12 = true := by decide +kernel
def kL_law_13 : ab_Cd := [
  (428, (.ireturn, 1, .null, 0, 0)),
  (429, (.aload_n 1, 1, .null, 0, 0)),
  (430, (.invokevirtual 87, 3, .ref 682, 0, 0)),
  (433, (.aload_n 2, 1, .null, 0, 0)),
  (434, (.invokevirtual 90, 3, .ref 1045, 0, 0)),
  (437, (.if_icmp .eq 51, 3, .null, 0, 488)),
  (440, (.iconst 0, 1, .int 0, 0, 0)),
  (441, (.ireturn, 1, .null, 0, 0)),
  (442, (.aload_n 1, 1, .null, 0, 0)),
  (443, (.invokevirtual 91, 3, .ref 686, 0, 0)),
  (446, (.aload_n 2, 1, .null, 0, 0)),
  (447, (.invokevirtual 94, 3, .ref 1049, 0, 0)),
  (450, (.if_icmp .eq 38, 3, .null, 0, 488)),
  (453, (.iconst 0, 1, .int 0, 0, 0)),
  (454, (.ireturn, 1, .null, 0, 0)),
  (455, (.aload_n 1, 1, .null, 0, 0)),
  (456, (.aload_n 0, 1, .null, 0, 0)),
  (457, (.iload_n 3, 1, .null, 0, 0))]
set_option maxRecDepth 100000 in
theorem ckL_law_13 : ab_ckM mL_law kL_law_13 = true := by decide +kernel
def kL_law_14 : ab_Cd := [
  (458, (.iconst 1, 1, .int 1, 0, 0)),
  (459, (.iadd, 1, .null, 0, 0)),
  (460, (.iaload, 1, .null, 0, 0)),
  (461, (.aload_n 0, 1, .null, 0, 0)),
  (462, (.iload_n 3, 1, .null, 0, 0)),
  (463, (.iconst 2, 1, .int 2, 0, 0)),
  (464, (.iadd, 1, .null, 0, 0)),
  (465, (.iaload, 1, .null, 0, 0)),
  (466, (.invokevirtual 95, 3, .ref 690, 0, 0)),
  (469, (.aload_n 2, 1, .null, 0, 0)),
  (470, (.aload_n 0, 1, .null, 0, 0)),
  (471, (.iload_n 3, 1, .null, 0, 0)),
  (472, (.iconst 1, 1, .int 1, 0, 0)),
  (473, (.iadd, 1, .null, 0, 0)),
  (474, (.iaload, 1, .null, 0, 0)),
  (475, (.aload_n 0, 1, .null, 0, 0)),
  (476, (.iload_n 3, 1, .null, 0, 0)),
  (477, (.iconst 2, 1, .int 2, 0, 0))]
set_option maxRecDepth 100000 in
theorem ckL_law_14 : ab_ckM mL_law kL_law_14 = true := by decide +kernel
def kL_law_15 : ab_Cd := [
  (478, (.iadd, 1, .null, 0, 0)),
  (479, (.iaload, 1, .null, 0, 0)),
  (480, (.invokevirtual 98, 3, .ref 846, 0, 0)),
  (483, (.if_icmp .eq 5, 3, .null, 0, 488)),
  (486, (.iconst 0, 1, .int 0, 0, 0)),
  (487, (.ireturn, 1, .null, 0, 0)),
  (488, (.iinc 3 5, 3, .int 5, 0, 0)),
  (491, (.goto (-463), 3, .null, 0, 28)),
  (494, (.iconst 1, 1, .int 1, 0, 0)),
  (495, (.ireturn, 1, .null, 0, 0))]
set_option maxRecDepth 100000 in
theorem ckL_law_15 : ab_ckM mL_law kL_law_15 = true := by decide +kernel
def kL_law : ab_Cd := kL_law_0 ++ (kL_law_1 ++ (kL_law_2 ++ (kL_law_3 ++ (kL_law_4 ++ (kL_law_5 ++ (kL_law_6 ++ (kL_law_7 ++ (kL_law_8 ++ (kL_law_9 ++ (kL_law_10 ++ (kL_law_11 ++ (kL_law_12 ++ (kL_law_13 ++ (kL_law_14 ++ (kL_law_15)))))))))))))))
theorem ckL_law : ab_ckM mL_law kL_law = true := ab_ck_app ckL_law_0 (ab_ck_app ckL_law_1 (ab_ck_app ckL_law_2 (ab_ck_app ckL_law_3 (ab_ck_app ckL_law_4 (ab_ck_app ckL_law_5 (ab_ck_app ckL_law_6 (ab_ck_app ckL_law_7 (ab_ck_app ckL_law_8 (ab_ck_app ckL_law_9 (ab_ck_app ckL_law_10 (ab_ck_app ckL_law_11 (ab_ck_app ckL_law_12 (ab_ck_app ckL_law_13 (ab_ck_app ckL_law_14 (ckL_law_15)))))))))))))))
