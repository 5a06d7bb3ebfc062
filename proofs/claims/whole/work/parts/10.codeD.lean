/-! methods and their code, by program -/
abbrev mR_init : ab_Mt := (⟨"BusServoModel", "<init>", "(I)V"⟩, prog_12_method_1_code, 3, none)
def kR_init_0 : ab_Cd := [
  (0, (.aload_n 0, 1, .null, 0, 0)),
  (1, (.invokespecial 1, 3, .ref 706, 0, 0)),
  (4, (.aload_n 0, 1, .null, 0, 0)),
  (5, (.bipush 30, 2, .int 30, 0, 0)),
  (7, (.newarray .int, 2, .null, 0, 0)),
  (9, (.putfield 7, 3, .ref 751, 7, 0)),
  (12, (.aload_n 0, 1, .null, 0, 0)),
  (13, (.bipush 30, 2, .int 30, 0, 0)),
  (15, (.newarray .int, 2, .null, 0, 0)),
  (17, (.putfield 13, 3, .ref 752, 7, 1)),
  (20, (.aload_n 0, 1, .null, 0, 0)),
  (21, (.bipush 30, 2, .int 30, 0, 0)),
  (23, (.newarray .int, 2, .null, 0, 0)),
  (25, (.putfield 16, 3, .ref 753, 7, 2)),
  (28, (.aload_n 0, 1, .null, 0, 0))]
set_option maxRecDepth 100000 in
theorem ckR_init_0 : ab_ckM mR_init kR_init_0 = true := by decide +kernel
def kR_init_1 : ab_Cd := [
  (29, (.bipush 30, 2, .int 30, 0, 0)),
  (31, (.newarray .int, 2, .null, 0, 0)),
  (33, (.putfield 19, 3, .ref 754, 7, 3)),
  (36, (.aload_n 0, 1, .null, 0, 0)),
  (37, (.bipush 30, 2, .int 30, 0, 0)),
  (39, (.newarray .int, 2, .null, 0, 0)),
  (41, (.putfield 22, 3, .ref 755, 7, 4)),
  (44, (.aload_n 0, 1, .null, 0, 0)),
  (45, (.bipush 30, 2, .int 30, 0, 0)),
  (47, (.newarray .int, 2, .null, 0, 0)),
  (49, (.putfield 25, 3, .ref 756, 7, 5)),
  (52, (.aload_n 0, 1, .null, 0, 0)),
  (53, (.bipush 30, 2, .int 30, 0, 0)),
  (55, (.newarray .int, 2, .null, 0, 0)),
  (57, (.putfield 28, 3, .ref 757, 7, 6))]
set_option maxRecDepth 100000 in
theorem ckR_init_1 : ab_ckM mR_init kR_init_1 = true := by decide +kernel
def kR_init_2 : ab_Cd := [
  (60, (.aload_n 0, 1, .null, 0, 0)),
  (61, (.bipush 12, 2, .int 12, 0, 0)),
  (63, (.newarray .int, 2, .null, 0, 0)),
  (65, (.putfield 31, 3, .ref 758, 7, 7)),
  (68, (.aload_n 0, 1, .null, 0, 0)),
  (69, (.bipush 12, 2, .int 12, 0, 0)),
  (71, (.newarray .int, 2, .null, 0, 0)),
  (73, (.putfield 34, 3, .ref 759, 7, 8)),
  (76, (.aload_n 0, 1, .null, 0, 0)),
  (77, (.bipush 12, 2, .int 12, 0, 0)),
  (79, (.newarray .long, 2, .null, 0, 0)),
  (81, (.putfield 37, 3, .ref 760, 7, 9)),
  (84, (.aload_n 0, 1, .null, 0, 0)),
  (85, (.bipush 44, 2, .int 44, 0, 0)),
  (87, (.newarray .int, 2, .null, 0, 0))]
set_option maxRecDepth 100000 in
theorem ckR_init_2 : ab_ckM mR_init kR_init_2 = true := by decide +kernel
def kR_init_3 : ab_Cd := [
  (89, (.putfield 41, 3, .ref 763, 7, 12)),
  (92, (.aload_n 0, 1, .null, 0, 0)),
  (93, (.bipush 22, 2, .int 22, 0, 0)),
  (95, (.newarray .int, 2, .null, 0, 0)),
  (97, (.putfield 44, 3, .ref 764, 7, 13)),
  (100, (.aload_n 0, 1, .null, 0, 0)),
  (101, (.sipush 1001, 3, .int 1001, 0, 0)),
  (104, (.newarray .int, 2, .null, 0, 0)),
  (106, (.putfield 47, 3, .ref 767, 7, 16)),
  (109, (.aload_n 0, 1, .null, 0, 0)),
  (110, (.iload_n 1, 1, .null, 0, 0)),
  (111, (.iconst 1, 1, .int 1, 0, 0)),
  (112, (.if_icmp .lt 13, 3, .null, 0, 125)),
  (115, (.iload_n 1, 1, .null, 0, 0)),
  (116, (.bipush 127, 2, .int 127, 0, 0))]
set_option maxRecDepth 100000 in
theorem ckR_init_3 : ab_ckM mR_init kR_init_3 = true := by decide +kernel
def kR_init_4 : ab_Cd := [
  (118, (.if_icmp .gt 7, 3, .null, 0, 125)),
  (121, (.iload_n 1, 1, .null, 0, 0)),
  (122, (.goto 4, 3, .null, 0, 126)),
  (125, (.iconst 1, 1, .int 1, 0, 0)),
  (126, (.putfield 50, 3, .ref 768, 7, 17)),
  (129, (.aload_n 0, 1, .null, 0, 0)),
  (130, (.iconst 0, 1, .int 0, 0, 0)),
  (131, (.ldc 54, 2, .int 1048832, 0, 707)),
  (133, (.iconst 1, 1, .int 1, 0, 0)),
  (134, (.iconst 0, 1, .int 0, 0, 0)),
  (135, (.iconst 0, 1, .int 0, 0, 0)),
  (136, (.ldc 55, 2, .int (-2147483648), 0, 708)),
  (138, (.ldc 56, 2, .int 2147483647, 0, 709)),
  (140, (.invokevirtual 57, 3, .ref 710, 0, 0)),
  (143, (.aload_n 0, 1, .null, 0, 0))]
set_option maxRecDepth 100000 in
theorem ckR_init_4 : ab_ckM mR_init kR_init_4 = true := by decide +kernel
def kR_init_5 : ab_Cd := [
  (144, (.iconst 1, 1, .int 1, 0, 0)),
  (145, (.ldc 61, 2, .int 1052673, 0, 714)),
  (147, (.iconst 4, 1, .int 4, 0, 0)),
  (148, (.iconst 1, 1, .int 1, 0, 0)),
  (149, (.iconst 0, 1, .int 0, 0, 0)),
  (150, (.ldc 55, 2, .int (-2147483648), 0, 708)),
  (152, (.ldc 56, 2, .int 2147483647, 0, 709)),
  (154, (.invokevirtual 57, 3, .ref 710, 0, 0)),
  (157, (.aload_n 0, 1, .null, 0, 0)),
  (158, (.iconst 2, 1, .int 2, 0, 0)),
  (159, (.ldc 62, 2, .int 1052929, 0, 715)),
  (161, (.iconst 4, 1, .int 4, 0, 0)),
  (162, (.iconst 1, 1, .int 1, 0, 0)),
  (163, (.iconst 0, 1, .int 0, 0, 0)),
  (164, (.ldc 55, 2, .int (-2147483648), 0, 708))]
set_option maxRecDepth 100000 in
theorem ckR_init_5 : ab_ckM mR_init kR_init_5 = true := by decide +kernel
def kR_init_6 : ab_Cd := [
  (166, (.ldc 56, 2, .int 2147483647, 0, 709)),
  (168, (.invokevirtual 57, 3, .ref 710, 0, 0)),
  (171, (.aload_n 0, 1, .null, 0, 0)),
  (172, (.iconst 3, 1, .int 3, 0, 0)),
  (173, (.ldc 63, 2, .int 1054209, 0, 716)),
  (175, (.iconst 4, 1, .int 4, 0, 0)),
  (176, (.bipush 10, 2, .int 10, 0, 0)),
  (178, (.iconst 0, 1, .int 0, 0, 0)),
  (179, (.iconst 0, 1, .int 0, 0, 0)),
  (180, (.ldc 64, 2, .int 8388607, 0, 717)),
  (182, (.invokevirtual 57, 3, .ref 710, 0, 0)),
  (185, (.aload_n 0, 1, .null, 0, 0)),
  (186, (.iconst 4, 1, .int 4, 0, 0)),
  (187, (.ldc 65, 2, .int 1054464, 0, 718)),
  (189, (.iconst 2, 1, .int 2, 0, 0))]
set_option maxRecDepth 100000 in
theorem ckR_init_6 : ab_ckM mR_init kR_init_6 = true := by decide +kernel
def kR_init_7 : ab_Cd := [
  (190, (.bipush 10, 2, .int 10, 0, 0)),
  (192, (.iconst 0, 1, .int 0, 0, 0)),
  (193, (.iconst 0, 1, .int 0, 0, 0)),
  (194, (.ldc 66, 2, .int 65535, 0, 719)),
  (196, (.invokevirtual 57, 3, .ref 710, 0, 0)),
  (199, (.aload_n 0, 1, .null, 0, 0)),
  (200, (.iconst 5, 1, .int 5, 0, 0)),
  (201, (.ldc 67, 2, .int 1441792, 0, 720)),
  (203, (.iconst 1, 1, .int 1, 0, 0)),
  (204, (.bipush 12, 2, .int 12, 0, 0)),
  (206, (.iconst 1, 1, .int 1, 0, 0)),
  (207, (.iconst 0, 1, .int 0, 0, 0)),
  (208, (.iconst 3, 1, .int 3, 0, 0)),
  (209, (.invokevirtual 57, 3, .ref 710, 0, 0)),
  (212, (.aload_n 0, 1, .null, 0, 0))]
set_option maxRecDepth 100000 in
theorem ckR_init_7 : ab_ckM mR_init kR_init_7 = true := by decide +kernel
def kR_init_8 : ab_Cd := [
  (213, (.bipush 12, 2, .int 12, 0, 0)),
  (215, (.ldc 68, 2, .int 1703936, 0, 721)),
  (217, (.iconst 1, 1, .int 1, 0, 0)),
  (218, (.bipush 12, 2, .int 12, 0, 0)),
  (220, (.iconst 1, 1, .int 1, 0, 0)),
  (221, (.iconst 0, 1, .int 0, 0, 0)),
  (222, (.iconst 3, 1, .int 3, 0, 0)),
  (223, (.invokevirtual 57, 3, .ref 710, 0, 0)),
  (226, (.iconst 1, 1, .int 1, 0, 0)),
  (227, (.istore_n 2, 1, .null, 0, 0)),
  (228, (.iload_n 2, 1, .null, 0, 0)),
  (229, (.iconst 3, 1, .int 3, 0, 0)),
  (230, (.if_icmp .gt 68, 3, .null, 0, 298)),
  (233, (.aload_n 0, 1, .null, 0, 0)),
  (234, (.iconst 5, 1, .int 5, 0, 0))]
set_option maxRecDepth 100000 in
theorem ckR_init_8 : ab_ckM mR_init kR_init_8 = true := by decide +kernel
def kR_init_9 : ab_Cd := [
  (235, (.iload_n 2, 1, .null, 0, 0)),
  (236, (.iadd, 1, .null, 0, 0)),
  (237, (.ldc 67, 2, .int 1441792, 0, 720)),
  (239, (.iload_n 2, 1, .null, 0, 0)),
  (240, (.iadd, 1, .null, 0, 0)),
  (241, (.iconst 4, 1, .int 4, 0, 0)),
  (242, (.bipush 12, 2, .int 12, 0, 0)),
  (244, (.iload_n 2, 1, .null, 0, 0)),
  (245, (.iconst 1, 1, .int 1, 0, 0)),
  (246, (.if_icmp .ne 8, 3, .null, 0, 254)),
  (249, (.ldc 69, 2, .int 1614807056, 0, 722)),
  (251, (.goto 4, 3, .null, 0, 255)),
  (254, (.iconst 0, 1, .int 0, 0, 0)),
  (255, (.ldc 55, 2, .int (-2147483648), 0, 708)),
  (257, (.ldc 56, 2, .int 2147483647, 0, 709))]
set_option maxRecDepth 100000 in
theorem ckR_init_9 : ab_ckM mR_init kR_init_9 = true := by decide +kernel
def kR_init_10 : ab_Cd := [
  (259, (.invokevirtual 57, 3, .ref 710, 0, 0)),
  (262, (.aload_n 0, 1, .null, 0, 0)),
  (263, (.bipush 12, 2, .int 12, 0, 0)),
  (265, (.iload_n 2, 1, .null, 0, 0)),
  (266, (.iadd, 1, .null, 0, 0)),
  (267, (.ldc 68, 2, .int 1703936, 0, 721)),
  (269, (.iload_n 2, 1, .null, 0, 0)),
  (270, (.iadd, 1, .null, 0, 0)),
  (271, (.iconst 4, 1, .int 4, 0, 0)),
  (272, (.bipush 12, 2, .int 12, 0, 0)),
  (274, (.iload_n 2, 1, .null, 0, 0)),
  (275, (.iconst 1, 1, .int 1, 0, 0)),
  (276, (.if_icmp .ne 8, 3, .null, 0, 284)),
  (279, (.ldc 70, 2, .int 1614872592, 0, 723)),
  (281, (.goto 4, 3, .null, 0, 285))]
set_option maxRecDepth 100000 in
theorem ckR_init_10 : ab_ckM mR_init kR_init_10 = true := by decide +kernel
def kR_init_11 : ab_Cd := [
  (284, (.iconst 0, 1, .int 0, 0, 0)),
  (285, (.ldc 55, 2, .int (-2147483648), 0, 708)),
  (287, (.ldc 56, 2, .int 2147483647, 0, 709)),
  (289, (.invokevirtual 57, 3, .ref 710, 0, 0)),
  (292, (.iinc 2 1, 3, .int 1, 0, 0)),
  (295, (.goto (-67), 3, .null, 0, 228)),
  (298, (.aload_n 0, 1, .null, 0, 0)),
  (299, (.bipush 9, 2, .int 9, 0, 0)),
  (301, (.ldc 71, 2, .int 1572866, 0, 724)),
  (303, (.iconst 1, 1, .int 1, 0, 0)),
  (304, (.bipush 10, 2, .int 10, 0, 0)),
  (306, (.sipush 255, 3, .int 255, 0, 0)),
  (309, (.iconst 0, 1, .int 0, 0, 0)),
  (310, (.sipush 255, 3, .int 255, 0, 0)),
  (313, (.invokevirtual 57, 3, .ref 710, 0, 0))]
set_option maxRecDepth 100000 in
theorem ckR_init_11 : ab_ckM mR_init kR_init_11 = true := by decide +kernel
def kR_init_12 : ab_Cd := [
  (316, (.aload_n 0, 1, .null, 0, 0)),
  (317, (.bipush 10, 2, .int 10, 0, 0)),
  (319, (.ldc 72, 2, .int 1572867, 0, 725)),
  (321, (.iconst 2, 1, .int 2, 0, 0)),
  (322, (.bipush 10, 2, .int 10, 0, 0)),
  (324, (.iconst 0, 1, .int 0, 0, 0)),
  (325, (.iconst 0, 1, .int 0, 0, 0)),
  (326, (.ldc 66, 2, .int 65535, 0, 719)),
  (328, (.invokevirtual 57, 3, .ref 710, 0, 0)),
  (331, (.aload_n 0, 1, .null, 0, 0)),
  (332, (.bipush 11, 2, .int 11, 0, 0)),
  (334, (.ldc 73, 2, .int 1572869, 0, 726)),
  (336, (.iconst 2, 1, .int 2, 0, 0)),
  (337, (.bipush 10, 2, .int 10, 0, 0)),
  (339, (.iconst 0, 1, .int 0, 0, 0))]
set_option maxRecDepth 100000 in
theorem ckR_init_12 : ab_ckM mR_init kR_init_12 = true := by decide +kernel
def kR_init_13 : ab_Cd := [
  (340, (.iconst 0, 1, .int 0, 0, 0)),
  (341, (.ldc 66, 2, .int 65535, 0, 719)),
  (343, (.invokevirtual 57, 3, .ref 710, 0, 0)),
  (346, (.aload_n 0, 1, .null, 0, 0)),
  (347, (.bipush 16, 2, .int 16, 0, 0)),
  (349, (.ldc 74, 2, .int 6307840, 0, 727)),
  (351, (.iconst 2, 1, .int 2, 0, 0)),
  (352, (.iconst 2, 1, .int 2, 0, 0)),
  (353, (.iconst 0, 1, .int 0, 0, 0)),
  (354, (.iconst 0, 1, .int 0, 0, 0)),
  (355, (.ldc 66, 2, .int 65535, 0, 719)),
  (357, (.invokevirtual 57, 3, .ref 710, 0, 0)),
  (360, (.aload_n 0, 1, .null, 0, 0)),
  (361, (.bipush 17, 2, .int 17, 0, 0)),
  (363, (.ldc 75, 2, .int 6308096, 0, 728))]
set_option maxRecDepth 100000 in
theorem ckR_init_13 : ab_ckM mR_init kR_init_13 = true := by decide +kernel
def kR_init_14 : ab_Cd := [
  (365, (.iconst 2, 1, .int 2, 0, 0)),
  (366, (.iconst 0, 1, .int 0, 0, 0)),
  (367, (.iconst 0, 1, .int 0, 0, 0)),
  (368, (.ldc 55, 2, .int (-2147483648), 0, 708)),
  (370, (.ldc 56, 2, .int 2147483647, 0, 709)),
  (372, (.invokevirtual 57, 3, .ref 710, 0, 0)),
  (375, (.aload_n 0, 1, .null, 0, 0)),
  (376, (.bipush 18, 2, .int 18, 0, 0)),
  (378, (.ldc 76, 2, .int 6316032, 0, 729)),
  (380, (.iconst 1, 1, .int 1, 0, 0)),
  (381, (.bipush 10, 2, .int 10, 0, 0)),
  (383, (.iconst 1, 1, .int 1, 0, 0)),
  (384, (.iconst 1, 1, .int 1, 0, 0)),
  (385, (.iconst 3, 1, .int 3, 0, 0)),
  (386, (.invokevirtual 57, 3, .ref 710, 0, 0))]
set_option maxRecDepth 100000 in
theorem ckR_init_14 : ab_ckM mR_init kR_init_14 = true := by decide +kernel
def kR_init_15 : ab_Cd := [
  (389, (.aload_n 0, 1, .null, 0, 0)),
  (390, (.bipush 19, 2, .int 19, 0, 0)),
  (392, (.ldc 77, 2, .int 6317056, 0, 730)),
  (394, (.iconst 4, 1, .int 4, 0, 0)),
  (395, (.iconst 0, 1, .int 0, 0, 0)),
  (396, (.iconst 0, 1, .int 0, 0, 0)),
  (397, (.ldc 55, 2, .int (-2147483648), 0, 708)),
  (399, (.ldc 56, 2, .int 2147483647, 0, 709)),
  (401, (.invokevirtual 57, 3, .ref 710, 0, 0)),
  (404, (.aload_n 0, 1, .null, 0, 0)),
  (405, (.bipush 20, 2, .int 20, 0, 0)),
  (407, (.ldc 78, 2, .int 6317312, 0, 731)),
  (409, (.iconst 4, 1, .int 4, 0, 0)),
  (410, (.bipush 11, 2, .int 11, 0, 0)),
  (412, (.ldc 79, 2, .int 100000, 0, 732))]
set_option maxRecDepth 100000 in
theorem ckR_init_15 : ab_ckM mR_init kR_init_15 = true := by decide +kernel
def kR_init_16 : ab_Cd := [
  (414, (.iconst 0, 1, .int 0, 0, 0)),
  (415, (.ldc 79, 2, .int 100000, 0, 732)),
  (417, (.invokevirtual 57, 3, .ref 710, 0, 0)),
  (420, (.aload_n 0, 1, .null, 0, 0)),
  (421, (.bipush 21, 2, .int 21, 0, 0)),
  (423, (.ldc 80, 2, .int 6318848, 0, 733)),
  (425, (.iconst 4, 1, .int 4, 0, 0)),
  (426, (.iconst 0, 1, .int 0, 0, 0)),
  (427, (.iconst 0, 1, .int 0, 0, 0)),
  (428, (.ldc 55, 2, .int (-2147483648), 0, 708)),
  (430, (.ldc 56, 2, .int 2147483647, 0, 709)),
  (432, (.invokevirtual 57, 3, .ref 710, 0, 0)),
  (435, (.aload_n 0, 1, .null, 0, 0)),
  (436, (.bipush 22, 2, .int 22, 0, 0)),
  (438, (.ldc 81, 2, .int 6322688, 0, 734))]
set_option maxRecDepth 100000 in
theorem ckR_init_16 : ab_ckM mR_init kR_init_16 = true := by decide +kernel
def kR_init_17 : ab_Cd := [
  (440, (.iconst 4, 1, .int 4, 0, 0)),
  (441, (.iconst 2, 1, .int 2, 0, 0)),
  (442, (.iconst 0, 1, .int 0, 0, 0)),
  (443, (.ldc 82, 2, .int (-100000), 0, 735)),
  (445, (.ldc 79, 2, .int 100000, 0, 732)),
  (447, (.invokevirtual 57, 3, .ref 710, 0, 0)),
  (450, (.aload_n 0, 1, .null, 0, 0)),
  (451, (.bipush 23, 2, .int 23, 0, 0)),
  (453, (.ldc 83, 2, .int 6323457, 0, 736)),
  (455, (.iconst 4, 1, .int 4, 0, 0)),
  (456, (.bipush 11, 2, .int 11, 0, 0)),
  (458, (.ldc 82, 2, .int (-100000), 0, 735)),
  (460, (.ldc 82, 2, .int (-100000), 0, 735)),
  (462, (.ldc 79, 2, .int 100000, 0, 732)),
  (464, (.invokevirtual 57, 3, .ref 710, 0, 0))]
set_option maxRecDepth 100000 in
theorem ckR_init_17 : ab_ckM mR_init kR_init_17 = true := by decide +kernel
def kR_init_18 : ab_Cd := [
  (467, (.aload_n 0, 1, .null, 0, 0)),
  (468, (.bipush 24, 2, .int 24, 0, 0)),
  (470, (.ldc 84, 2, .int 6323458, 0, 737)),
  (472, (.iconst 4, 1, .int 4, 0, 0)),
  (473, (.bipush 11, 2, .int 11, 0, 0)),
  (475, (.ldc 79, 2, .int 100000, 0, 732)),
  (477, (.ldc 82, 2, .int (-100000), 0, 735)),
  (479, (.ldc 79, 2, .int 100000, 0, 732)),
  (481, (.invokevirtual 57, 3, .ref 710, 0, 0)),
  (484, (.aload_n 0, 1, .null, 0, 0)),
  (485, (.bipush 25, 2, .int 25, 0, 0)),
  (487, (.ldc 85, 2, .int 6323968, 0, 738)),
  (489, (.iconst 4, 1, .int 4, 0, 0)),
  (490, (.bipush 11, 2, .int 11, 0, 0)),
  (492, (.sipush 1000, 3, .int 1000, 0, 0))]
set_option maxRecDepth 100000 in
theorem ckR_init_18 : ab_ckM mR_init kR_init_18 = true := by decide +kernel
def kR_init_19 : ab_Cd := [
  (495, (.iconst 1, 1, .int 1, 0, 0)),
  (496, (.sipush 1000, 3, .int 1000, 0, 0)),
  (499, (.invokevirtual 57, 3, .ref 710, 0, 0)),
  (502, (.aload_n 0, 1, .null, 0, 0)),
  (503, (.bipush 26, 2, .int 26, 0, 0)),
  (505, (.ldc 86, 2, .int 6324480, 0, 739)),
  (507, (.iconst 4, 1, .int 4, 0, 0)),
  (508, (.bipush 10, 2, .int 10, 0, 0)),
  (510, (.bipush 100, 2, .int 100, 0, 0)),
  (512, (.iconst 1, 1, .int 1, 0, 0)),
  (513, (.sipush 1000, 3, .int 1000, 0, 0)),
  (516, (.invokevirtual 57, 3, .ref 710, 0, 0)),
  (519, (.aload_n 0, 1, .null, 0, 0)),
  (520, (.bipush 27, 2, .int 27, 0, 0)),
  (522, (.ldc 87, 2, .int 6324992, 0, 740))]
set_option maxRecDepth 100000 in
theorem ckR_init_19 : ab_ckM mR_init kR_init_19 = true := by decide +kernel
def kR_init_20 : ab_Cd := [
  (524, (.iconst 4, 1, .int 4, 0, 0)),
  (525, (.bipush 11, 2, .int 11, 0, 0)),
  (527, (.bipush 10, 2, .int 10, 0, 0)),
  (529, (.iconst 1, 1, .int 1, 0, 0)),
  (530, (.sipush 1000, 3, .int 1000, 0, 0)),
  (533, (.invokevirtual 57, 3, .ref 710, 0, 0)),
  (536, (.aload_n 0, 1, .null, 0, 0)),
  (537, (.bipush 28, 2, .int 28, 0, 0)),
  (539, (.ldc 88, 2, .int 6325504, 0, 741)),
  (541, (.iconst 4, 1, .int 4, 0, 0)),
  (542, (.bipush 11, 2, .int 11, 0, 0)),
  (544, (.bipush 50, 2, .int 50, 0, 0)),
  (546, (.iconst 1, 1, .int 1, 0, 0)),
  (547, (.sipush 1000, 3, .int 1000, 0, 0)),
  (550, (.invokevirtual 57, 3, .ref 710, 0, 0))]
set_option maxRecDepth 100000 in
theorem ckR_init_20 : ab_ckM mR_init kR_init_20 = true := by decide +kernel
def kR_init_21 : ab_Cd := [
  (553, (.aload_n 0, 1, .null, 0, 0)),
  (554, (.bipush 29, 2, .int 29, 0, 0)),
  (556, (.ldc 89, 2, .int 6356736, 0, 742)),
  (558, (.iconst 4, 1, .int 4, 0, 0)),
  (559, (.iconst 2, 1, .int 2, 0, 0)),
  (560, (.iconst 0, 1, .int 0, 0, 0)),
  (561, (.sipush (-1000), 3, .int (-1000), 0, 0)),
  (564, (.sipush 1000, 3, .int 1000, 0, 0)),
  (567, (.invokevirtual 57, 3, .ref 710, 0, 0)),
  (570, (.aload_n 0, 1, .null, 0, 0)),
  (571, (.invokevirtual 90, 3, .ref 743, 0, 0)),
  (574, (.return_, 1, .null, 0, 0))]
set_option maxRecDepth 100000 in
theorem ckR_init_21 : ab_ckM mR_init kR_init_21 = true := by decide +kernel
def kR_init : ab_Cd := kR_init_0 ++ (kR_init_1 ++ (kR_init_2 ++ (kR_init_3 ++ (kR_init_4 ++ (kR_init_5 ++ (kR_init_6 ++ (kR_init_7 ++ (kR_init_8 ++ (kR_init_9 ++ (kR_init_10 ++ (kR_init_11 ++ (kR_init_12 ++ (kR_init_13 ++ (kR_init_14 ++ (kR_init_15 ++ (kR_init_16 ++ (kR_init_17 ++ (kR_init_18 ++ (kR_init_19 ++ (kR_init_20 ++ (kR_init_21)))))))))))))))))))))
theorem ckR_init : ab_ckM mR_init kR_init = true := ab_ck_app ckR_init_0 (ab_ck_app ckR_init_1 (ab_ck_app ckR_init_2 (ab_ck_app ckR_init_3 (ab_ck_app ckR_init_4 (ab_ck_app ckR_init_5 (ab_ck_app ckR_init_6 (ab_ck_app ckR_init_7 (ab_ck_app ckR_init_8 (ab_ck_app ckR_init_9 (ab_ck_app ckR_init_10 (ab_ck_app ckR_init_11 (ab_ck_app ckR_init_12 (ab_ck_app ckR_init_13 (ab_ck_app ckR_init_14 (ab_ck_app ckR_init_15 (ab_ck_app ckR_init_16 (ab_ck_app ckR_init_17 (ab_ck_app ckR_init_18 (ab_ck_app ckR_init_19 (ab_ck_app ckR_init_20 (ckR_init_21)))))))))))))))))))))
set_option maxRecDepth 100000 in
theorem wR_init : ab_MW mR_init 2 1 := ab_mw_ok (i1 := 68) (i2 := 704) (i3 := 0) (by decide +kernel) (ab_t3 (List.mem_of_getElem? (i := 166) rfl))
