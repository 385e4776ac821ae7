def L_X13_in : List (Nat × Instr × Nat) := [(0, .iload_n 0, 1), (1, .iload_n 1, 1), (2, .if_icmp .lt 12, 3), (5, .iload_n 0, 1), (6, .iload_n 2, 1), (7, .if_icmp .gt 7, 3), (10, .iconst 1, 1), (11, .goto 4, 3), (14, .iconst 0, 1), (15, .ireturn, 1)]
theorem D_X13_in : dOk cX13_in L_X13_in = true := by decide +kernel
def L_X13_feed : List (Nat × Instr × Nat) := [(0, .iload_n 3, 1), (1, .iconst 1, 1), (2, .bipush 8, 2), (4, .invokestatic 292, 3), (7, .ifCond .ne 5, 3), (10, .iconst (-1), 1), (11, .ireturn, 1), (12, .aload_n 0, 1), (13, .getfield 296, 3), (16, .iload_n 3, 1), (17, .iadd, 1), (18, .sipush 3000, 3), (21, .if_icmp .le 6, 3), (24, .bipush (-3), 2), (26, .ireturn, 1), (27, .iconst 0, 1), (28, .istore 4, 2), (30, .iload 4, 2), (32, .iload_n 3, 1), (33, .if_icmp .ge 30, 3), (36, .aload_n 0, 1), (37, .getfield 16, 3), (40, .aload_n 0, 1), (41, .getfield 296, 3), (44, .iload 4, 2), (46, .iadd, 1), (47, .lload_n 1, 1), (48, .bipush 8, 2), (50, .iload 4, 2), (52, .imul, 1), (53, .lshr, 1), (54, .l2i, 1), (55, .i2b, 1), (56, .bastore, 1), (57, .iinc 4 1, 3), (60, .goto (-30), 3), (63, .aload_n 0, 1), (64, .dup, 1), (65, .getfield 296, 3), (68, .iload_n 3, 1), (69, .iadd, 1), (70, .putfield 296, 3), (73, .aload_n 0, 1), (74, .getfield 296, 3), (77, .ireturn, 1)]
theorem D_X13_feed : dOk cX13_feed L_X13_feed = true := by decide +kernel
def L_X13_drop : List (Nat × Instr × Nat) := [(0, .aload_n 0, 1), (1, .getfield 296, 3), (4, .istore_n 1, 1), (5, .aload_n 0, 1), (6, .iconst 0, 1), (7, .putfield 296, 3), (10, .iload_n 1, 1), (11, .ireturn, 1)]
theorem D_X13_drop : dOk cX13_drop L_X13_drop = true := by decide +kernel
def L_X13_cut : List (Nat × Instr × Nat) := [(0, .iconst 0, 1), (1, .istore_n 1, 1), (2, .iconst 0, 1), (3, .istore_n 2, 1), (4, .iconst 1, 1), (5, .istore_n 3, 1), (6, .iload_n 3, 1), (7, .ifCond .eq 489, 3), (10, .iload_n 2, 1), (11, .aload_n 0, 1), (12, .getfield 314, 3), (15, .if_icmp .ge 31, 3), (18, .aload_n 0, 1), (19, .getfield 20, 3), (22, .iload_n 2, 1), (23, .baload, 1), (24, .bipush 32, 2), (26, .if_icmp .eq 14, 3), (29, .aload_n 0, 1), (30, .getfield 20, 3), (33, .iload_n 2, 1), (34, .baload, 1), (35, .bipush 10, 2), (37, .if_icmp .ne 9, 3), (40, .iinc 2 1, 3), (43, .goto (-33), 3), (46, .aload_n 0, 1), (47, .getfield 27, 3), (50, .iload_n 1, 1), (51, .iload_n 2, 1), (52, .iastore, 1), (53, .iload_n 2, 1), (54, .aload_n 0, 1), (55, .getfield 314, 3), (58, .if_icmp .ge 12, 3), (61, .aload_n 0, 1), (62, .getfield 20, 3), (65, .iload_n 2, 1), (66, .baload, 1), (67, .goto 4, 3), (70, .iconst 0, 1), (71, .istore 4, 2), (73, .iload_n 2, 1), (74, .aload_n 0, 1), (75, .getfield 314, 3), (78, .if_icmp .ne 16, 3), (81, .aload_n 0, 1), (82, .getfield 23, 3), (85, .iload_n 1, 1), (86, .bipush 6, 2), (88, .iastore, 1), (89, .iconst 0, 1), (90, .istore_n 3, 1), (91, .goto 392, 3), (94, .iload 4, 2), (96, .invokestatic 317, 3), (99, .ifCond .eq 115, 3), (102, .lconst 0, 1), (103, .lstore 5, 2), (105, .iload_n 2, 1), (106, .aload_n 0, 1), (107, .getfield 314, 3), (110, .if_icmp .ge 60, 3), (113, .aload_n 0, 1), (114, .getfield 20, 3), (117, .iload_n 2, 1), (118, .baload, 1), (119, .invokestatic 317, 3), (122, .ifCond .eq 48, 3), (125, .iload_n 2, 1), (126, .aload_n 0, 1), (127, .getfield 27, 3), (130, .iload_n 1, 1), (131, .iaload, 1), (132, .isub, 1), (133, .bipush 8, 2), (135, .if_icmp .ge 25, 3), (138, .ldc2_w 304, 3), (141, .lload 5, 2), (143, .lmul, 1), (144, .aload_n 0, 1), (145, .getfield 20, 3), (148, .iload_n 2, 1), (149, .baload, 1), (150, .bipush 97, 2), (152, .isub, 1), (153, .iconst 1, 1), (154, .iadd, 1), (155, .i2l, 1), (156, .ladd, 1), (157, .goto 5, 3), (160, .lload 5, 2), (162, .lstore 5, 2), (164, .iinc 2 1, 3), (167, .goto (-62), 3), (170, .aload_n 0, 1), (171, .getfield 36, 3), (174, .iload_n 1, 1), (175, .lload 5, 2), (177, .lastore, 1), (178, .aload_n 0, 1), (179, .getfield 23, 3), (182, .iload_n 1, 1), (183, .iload_n 2, 1), (184, .aload_n 0, 1), (185, .getfield 27, 3), (188, .iload_n 1, 1), (189, .iaload, 1), (190, .isub, 1), (191, .bipush 8, 2), (193, .if_icmp .gt 16, 3), (196, .aload_n 0, 1), (197, .lload 5, 2), (199, .invokevirtual 321, 3), (202, .ifCond .eq 7, 3), (205, .iconst 4, 1), (206, .goto 4, 3), (209, .iconst 1, 1), (210, .iastore, 1), (211, .goto 272, 3), (214, .iload 4, 2), (216, .invokestatic 325, 3), (219, .ifCond .eq 85, 3), (222, .iconst 0, 1), (223, .istore 5, 2), (225, .iload_n 2, 1), (226, .aload_n 0, 1), (227, .getfield 314, 3), (230, .if_icmp .ge 56, 3), (233, .aload_n 0, 1), (234, .getfield 20, 3), (237, .iload_n 2, 1), (238, .baload, 1), (239, .invokestatic 325, 3), (242, .ifCond .eq 44, 3), (245, .iload_n 2, 1), (246, .aload_n 0, 1), (247, .getfield 27, 3), (250, .iload_n 1, 1), (251, .iaload, 1), (252, .isub, 1), (253, .bipush 9, 2), (255, .if_icmp .ge 21, 3), (258, .bipush 10, 2), (260, .iload 5, 2), (262, .imul, 1), (263, .aload_n 0, 1), (264, .getfield 20, 3), (267, .iload_n 2, 1), (268, .baload, 1), (269, .iadd, 1), (270, .bipush 48, 2), (272, .isub, 1), (273, .goto 5, 3), (276, .iload 5, 2), (278, .istore 5, 2), (280, .iinc 2 1, 3), (283, .goto (-58), 3), (286, .aload_n 0, 1), (287, .getfield 33, 3), (290, .iload_n 1, 1), (291, .iload 5, 2), (293, .iastore, 1), (294, .aload_n 0, 1), (295, .getfield 23, 3), (298, .iload_n 1, 1), (299, .iconst 2, 1), (300, .iastore, 1), (301, .goto 182, 3), (304, .iload 4, 2), (306, .bipush 61, 2), (308, .if_icmp .ne 39, 3), (311, .iload_n 2, 1), (312, .iconst 1, 1), (313, .iadd, 1), (314, .aload_n 0, 1), (315, .getfield 314, 3), (318, .if_icmp .ge 29, 3), (321, .aload_n 0, 1), (322, .getfield 20, 3), (325, .iload_n 2, 1), (326, .iconst 1, 1), (327, .iadd, 1), (328, .baload, 1), (329, .bipush 61, 2), (331, .if_icmp .ne 16, 3), (334, .aload_n 0, 1), (335, .getfield 23, 3), (338, .iload_n 1, 1), (339, .iconst 5, 1), (340, .iastore, 1), (341, .iinc 2 2, 3), (344, .goto 139, 3), (347, .iload 4, 2), (349, .bipush 40, 2), (351, .if_icmp .eq 94, 3), (354, .iload 4, 2), (356, .bipush 41, 2), (358, .if_icmp .eq 87, 3), (361, .iload 4, 2), (363, .bipush 123, 2), (365, .if_icmp .eq 80, 3), (368, .iload 4, 2), (370, .bipush 125, 2), (372, .if_icmp .eq 73, 3), (375, .iload 4, 2), (377, .bipush 44, 2), (379, .if_icmp .eq 66, 3), (382, .iload 4, 2), (384, .bipush 59, 2), (386, .if_icmp .eq 59, 3), (389, .iload 4, 2), (391, .bipush 61, 2), (393, .if_icmp .eq 52, 3), (396, .iload 4, 2), (398, .bipush 43, 2), (400, .if_icmp .eq 45, 3), (403, .iload 4, 2), (405, .bipush 45, 2), (407, .if_icmp .eq 38, 3), (410, .iload 4, 2), (412, .bipush 42, 2), (414, .if_icmp .eq 31, 3), (417, .iload 4, 2), (419, .bipush 47, 2), (421, .if_icmp .eq 24, 3), (424, .iload 4, 2), (426, .bipush 37, 2), (428, .if_icmp .eq 17, 3), (431, .iload 4, 2), (433, .bipush 60, 2), (435, .if_icmp .eq 10, 3), (438, .iload 4, 2), (440, .bipush 33, 2), (442, .if_icmp .ne 7, 3), (445, .iconst 1, 1), (446, .goto 4, 3), (449, .iconst 0, 1), (450, .istore 5, 2), (452, .aload_n 0, 1), (453, .getfield 23, 3), (456, .iload_n 1, 1), (457, .iload 5, 2), (459, .ifCond .eq 7, 3), (462, .iconst 3, 1), (463, .goto 5, 3), (466, .bipush 7, 2), (468, .iastore, 1), (469, .aload_n 0, 1), (470, .getfield 33, 3), (473, .iload_n 1, 1), (474, .iload 4, 2), (476, .iastore, 1), (477, .iload 5, 2), (479, .istore_n 3, 1), (480, .iinc 2 1, 3), (483, .aload_n 0, 1), (484, .getfield 30, 3), (487, .iload_n 1, 1), (488, .iload_n 2, 1), (489, .iastore, 1), (490, .iinc 1 1, 3), (493, .goto (-487), 3), (496, .return_, 1)]
theorem D_X13_cut : dOk cX13_cut L_X13_cut = true := by decide +kernel
def L_X13_isWord : List (Nat × Instr × Nat) := [(0, .aload_n 0, 1), (1, .getfield 23, 3), (4, .aload_n 0, 1), (5, .getfield 331, 3), (8, .iaload, 1), (9, .iconst 4, 1), (10, .if_icmp .ne 25, 3), (13, .aload_n 0, 1), (14, .getfield 36, 3), (17, .aload_n 0, 1), (18, .getfield 331, 3), (21, .laload, 1), (22, .aload_n 0, 1), (23, .aload_n 1, 1), (24, .invokevirtual 310, 3), (27, .lcmp, 1), (28, .ifCond .ne 7, 3), (31, .iconst 1, 1), (32, .goto 4, 3), (35, .iconst 0, 1), (36, .ireturn, 1)]
theorem D_X13_isWord : dOk cX13_isWord L_X13_isWord = true := by decide +kernel
def L_X13_readBody : List (Nat × Instr × Nat) := [(0, .aload_n 0, 1), (1, .getfield 445, 3), (4, .bipush 12, 2), (6, .if_icmp .eq 21, 3), (9, .aload_n 0, 1), (10, .ldc 42, 2), (12, .invokevirtual 341, 3), (15, .ifCond .ne 25, 3), (18, .aload_n 0, 1), (19, .ldc 44, 2), (21, .invokevirtual 341, 3), (24, .ifCond .ne 16, 3), (27, .aload_n 0, 1), (28, .aload_n 0, 1), (29, .getfield 27, 3), (32, .aload_n 0, 1), (33, .getfield 331, 3), (36, .iaload, 1), (37, .invokevirtual 337, 3), (40, .aload_n 0, 1), (41, .ldc 42, 2), (43, .invokevirtual 341, 3), (46, .istore_n 1, 1), (47, .aload_n 0, 1), (48, .dup, 1), (49, .getfield 331, 3), (52, .iconst 1, 1), (53, .iadd, 1), (54, .putfield 331, 3), (57, .aload_n 0, 1), (58, .invokevirtual 399, 3), (61, .istore_n 2, 1), (62, .aload_n 0, 1), (63, .getfield 445, 3), (66, .istore_n 3, 1), (67, .aload_n 0, 1), (68, .getfield 104, 3), (71, .iload_n 3, 1), (72, .iload_n 1, 1), (73, .ifCond .eq 7, 3), (76, .iconst 1, 1), (77, .goto 4, 3), (80, .iconst 0, 1), (81, .iastore, 1), (82, .aload_n 0, 1), (83, .getfield 113, 3), (86, .iload_n 3, 1), (87, .aload_n 0, 1), (88, .getfield 27, 3), (91, .iload_n 2, 1), (92, .iaload, 1), (93, .iastore, 1), (94, .iconst 0, 1), (95, .istore 4, 2), (97, .iload 4, 2), (99, .iload_n 3, 1), (100, .if_icmp .ge 31, 3), (103, .aload_n 0, 1), (104, .getfield 122, 3), (107, .iload 4, 2), (109, .laload, 1), (110, .aload_n 0, 1), (111, .getfield 36, 3), (114, .iload_n 2, 1), (115, .laload, 1), (116, .lcmp, 1), (117, .ifCond .ne 8, 3), (120, .aload_n 0, 1), (121, .iload_n 2, 1), (122, .invokevirtual 360, 3), (125, .iinc 4 1, 3), (128, .goto (-31), 3), (131, .aload_n 0, 1), (132, .getfield 122, 3), (135, .iload_n 3, 1), (136, .aload_n 0, 1), (137, .getfield 36, 3), (140, .iload_n 2, 1), (141, .laload, 1), (142, .lastore, 1), (143, .aload_n 0, 1), (144, .dup, 1), (145, .getfield 445, 3), (148, .iconst 1, 1), (149, .iadd, 1), (150, .putfield 445, 3), (153, .aload_n 0, 1), (154, .iconst 0, 1), (155, .putfield 357, 3), (158, .aload_n 0, 1), (159, .iconst 0, 1), (160, .putfield 439, 3), (163, .aload_n 0, 1), (164, .bipush 40, 2), (166, .invokevirtual 334, 3), (169, .ifCond .ne 16, 3), (172, .aload_n 0, 1), (173, .aload_n 0, 1), (174, .getfield 27, 3), (177, .aload_n 0, 1), (178, .getfield 331, 3), (181, .iaload, 1), (182, .invokevirtual 337, 3), (185, .aload_n 0, 1), (186, .invokevirtual 363, 3), (189, .iconst 0, 1), (190, .istore 4, 2), (192, .aload_n 0, 1), (193, .getfield 23, 3), (196, .aload_n 0, 1), (197, .getfield 331, 3), (200, .iaload, 1), (201, .iconst 1, 1), (202, .if_icmp .eq 17, 3), (205, .iload 4, 2), (207, .ifCond .le 120, 3), (210, .aload_n 0, 1), (211, .bipush 41, 2), (213, .invokevirtual 334, 3), (216, .ifCond .ne 111, 3), (219, .iload 4, 2), (221, .ifCond .le 26, 3), (224, .iload_n 1, 1), (225, .ifCond .eq 16, 3), (228, .aload_n 0, 1), (229, .aload_n 0, 1), (230, .getfield 27, 3), (233, .aload_n 0, 1), (234, .getfield 331, 3), (237, .iaload, 1), (238, .invokevirtual 337, 3), (241, .aload_n 0, 1), (242, .bipush 44, 2), (244, .invokevirtual 348, 3), (247, .iload 4, 2), (249, .iconst 4, 1), (250, .if_icmp .ne 16, 3), (253, .aload_n 0, 1), (254, .aload_n 0, 1), (255, .getfield 27, 3), (258, .aload_n 0, 1), (259, .getfield 331, 3), (262, .iaload, 1), (263, .invokevirtual 337, 3), (266, .aload_n 0, 1), (267, .invokevirtual 399, 3), (270, .istore 5, 2), (272, .aload_n 0, 1), (273, .getfield 357, 3), (276, .istore 6, 2), (278, .aload_n 0, 1), (279, .iload 5, 2), (281, .invokevirtual 402, 3), (284, .istore 7, 2), (286, .aload_n 0, 1), (287, .getfield 357, 3), (290, .iload 6, 2), (292, .if_icmp .ne 29, 3), (295, .aload_n 0, 1), (296, .iload 5, 2), (298, .invokevirtual 360, 3), (301, .aload_n 0, 1), (302, .getfield 119, 3), (305, .aload_n 0, 1), (306, .getfield 357, 3), (309, .lconst 0, 1), (310, .lastore, 1), (311, .aload_n 0, 1), (312, .dup, 1), (313, .getfield 357, 3), (316, .iconst 1, 1), (317, .iadd, 1), (318, .putfield 357, 3), (321, .iinc 4 1, 3), (324, .goto (-132), 3), (327, .aload_n 0, 1), (328, .bipush 41, 2), (330, .invokevirtual 370, 3), (333, .aload_n 0, 1), (334, .getfield 107, 3), (337, .iload_n 3, 1), (338, .iload 4, 2), (340, .iastore, 1), (341, .aload_n 0, 1), (342, .getfield 116, 3), (345, .iload_n 3, 1), (346, .aload_n 0, 1), (347, .getfield 351, 3), (350, .iastore, 1), (351, .aload_n 0, 1), (352, .iconst 0, 1), (353, .putfield 389, 3), (356, .aload_n 0, 1), (357, .iconst 0, 1), (358, .putfield 410, 3), (361, .aload_n 0, 1), (362, .invokestatic 383, 3), (365, .aload_n 0, 1), (366, .iconst 1, 1), (367, .iconst 0, 1), (368, .iconst 0, 1), (369, .invokevirtual 373, 3), (372, .istore 5, 2), (374, .aload_n 0, 1), (375, .bipush 26, 2), (377, .iconst 0, 1), (378, .iconst 0, 1), (379, .invokevirtual 373, 3), (382, .istore 5, 2), (384, .aload_n 0, 1), (385, .getfield 110, 3), (388, .iload_n 3, 1), (389, .aload_n 0, 1), (390, .getfield 357, 3), (393, .iastore, 1), (394, .iconst 0, 1), (395, .istore 6, 2), (397, .iload 6, 2), (399, .aload_n 0, 1), (400, .getfield 439, 3), (403, .if_icmp .ge 102, 3), (406, .bipush (-9), 2), (408, .istore 7, 2), (410, .iconst 0, 1), (411, .istore 8, 2), (413, .iload 8, 2), (415, .aload_n 0, 1), (416, .getfield 357, 3), (419, .if_icmp .ge 48, 3), (422, .iload 7, 2), (424, .bipush (-9), 2), (426, .if_icmp .ne 31, 3), (429, .aload_n 0, 1), (430, .getfield 119, 3), (433, .iload 8, 2), (435, .laload, 1), (436, .aload_n 0, 1), (437, .getfield 36, 3), (440, .aload_n 0, 1), (441, .getfield 155, 3), (444, .iload 6, 2), (446, .iaload, 1), (447, .laload, 1), (448, .lcmp, 1), (449, .ifCond .ne 8, 3), (452, .iload 8, 2), (454, .goto 5, 3), (457, .iload 7, 2), (459, .istore 7, 2), (461, .iinc 8 1, 3), (464, .goto (-51), 3), (467, .iload 7, 2), (469, .bipush (-9), 2), (471, .if_icmp .ne 14, 3), (474, .aload_n 0, 1), (475, .aload_n 0, 1), (476, .getfield 155, 3), (479, .iload 6, 2), (481, .iaload, 1), (482, .invokevirtual 360, 3), (485, .aload_n 0, 1), (486, .getfield 95, 3), (489, .aload_n 0, 1), (490, .getfield 152, 3), (493, .iload 6, 2), (495, .iaload, 1), (496, .iload 7, 2), (498, .iastore, 1), (499, .iinc 6 1, 3), (502, .goto (-105), 3), (505, .return_, 1)]
theorem D_X13_readBody : dOk cX13_readBody L_X13_readBody = true := by decide +kernel
def L_X13_body : List (Nat × Instr × Nat) := [(0, .aload_n 0, 1), (1, .getfield 448, 3), (4, .ifCond .ne 6, 3), (7, .bipush (-2), 2), (9, .ireturn, 1), (10, .iload_n 1, 1), (11, .iconst 0, 1), (12, .aload_n 0, 1), (13, .getfield 445, 3), (16, .iconst 1, 1), (17, .isub, 1), (18, .invokestatic 292, 3), (21, .ifCond .eq 12, 3), (24, .iload_n 2, 1), (25, .iconst 0, 1), (26, .iconst 3, 1), (27, .invokestatic 292, 3), (30, .ifCond .ne 5, 3), (33, .iconst (-1), 1), (34, .ireturn, 1), (35, .iload_n 2, 1), (36, .ifCond .ne 12, 3), (39, .aload_n 0, 1), (40, .getfield 104, 3), (43, .iload_n 1, 1), (44, .iaload, 1), (45, .goto 37, 3), (48, .iload_n 2, 1), (49, .iconst 1, 1), (50, .if_icmp .ne 12, 3), (53, .aload_n 0, 1), (54, .getfield 107, 3), (57, .iload_n 1, 1), (58, .iaload, 1), (59, .goto 23, 3), (62, .iload_n 2, 1), (63, .iconst 2, 1), (64, .if_icmp .ne 12, 3), (67, .aload_n 0, 1), (68, .getfield 110, 3), (71, .iload_n 1, 1), (72, .iaload, 1), (73, .goto 9, 3), (76, .aload_n 0, 1), (77, .getfield 113, 3), (80, .iload_n 1, 1), (81, .iaload, 1), (82, .ireturn, 1)]
theorem D_X13_body : dOk cX13_body L_X13_body = true := by decide +kernel
def L_X13_begins : List (Nat × Instr × Nat) := [(0, .aload_n 0, 1), (1, .iconst 0, 1), (2, .putfield 461, 3), (5, .aload_n 0, 1), (6, .iconst 0, 1), (7, .putfield 464, 3), (10, .iconst 0, 1), (11, .istore_n 1, 1), (12, .iload_n 1, 1), (13, .bipush 12, 2), (15, .if_icmp .ge 16, 3), (18, .aload_n 0, 1), (19, .getfield 192, 3), (22, .iload_n 1, 1), (23, .iconst 0, 1), (24, .bastore, 1), (25, .iinc 1 1, 3), (28, .goto (-16), 3), (31, .aload_n 0, 1), (32, .iconst 0, 1), (33, .putfield 467, 3), (36, .aload_n 0, 1), (37, .iconst 0, 1), (38, .putfield 470, 3), (41, .aload_n 0, 1), (42, .iconst 0, 1), (43, .putfield 473, 3), (46, .aload_n 0, 1), (47, .iconst 0, 1), (48, .putfield 476, 3), (51, .aload_n 0, 1), (52, .iconst 0, 1), (53, .putfield 479, 3), (56, .aload_n 0, 1), (57, .iconst 0, 1), (58, .putfield 482, 3), (61, .aload_n 0, 1), (62, .iconst 0, 1), (63, .putfield 485, 3), (66, .aload_n 0, 1), (67, .iconst 0, 1), (68, .putfield 488, 3), (71, .aload_n 0, 1), (72, .bipush (-9), 2), (74, .putfield 491, 3), (77, .return_, 1)]
theorem D_X13_begins : dOk cX13_begins L_X13_begins = true := by decide +kernel
def L_X13_isSilent : List (Nat × Instr × Nat) := [(0, .aload_n 0, 1), (1, .getfield 448, 3), (4, .ifCond .eq 10, 3), (7, .aload_n 0, 1), (8, .getfield 470, 3), (11, .ifCond .eq 7, 3), (14, .iconst 1, 1), (15, .goto 4, 3), (18, .iconst 0, 1), (19, .ireturn, 1)]
theorem D_X13_isSilent : dOk cX13_isSilent L_X13_isSilent = true := by decide +kernel
def L_X13_voice : List (Nat × Instr × Nat) := [(0, .aload_n 0, 1), (1, .invokevirtual 619, 3), (4, .ifCond .eq 6, 3), (7, .bipush (-2), 2), (9, .ireturn, 1), (10, .iload_n 1, 1), (11, .iconst 0, 1), (12, .aload_n 0, 1), (13, .getfield 445, 3), (16, .iconst 1, 1), (17, .isub, 1), (18, .invokestatic 292, 3), (21, .ifCond .eq 12, 3), (24, .aload_n 0, 1), (25, .getfield 104, 3), (28, .iload_n 1, 1), (29, .iaload, 1), (30, .ifCond .ne 5, 3), (33, .iconst (-1), 1), (34, .ireturn, 1), (35, .aload_n 0, 1), (36, .getfield 461, 3), (39, .bipush 60, 2), (41, .if_icmp .eq 12, 3), (44, .aload_n 0, 1), (45, .getfield 464, 3), (48, .bipush 12, 2), (50, .if_icmp .ne 8, 3), (53, .bipush (-3), 2), (55, .goto 10, 3), (58, .aload_n 0, 1), (59, .iload_n 1, 1), (60, .iload_n 2, 1), (61, .iconst 0, 1), (62, .invokevirtual 604, 3), (65, .ireturn, 1)]
theorem D_X13_voice : dOk cX13_voice L_X13_voice = true := by decide +kernel
def L_X13_resume : List (Nat × Instr × Nat) := [(0, .aload_n 0, 1), (1, .invokevirtual 619, 3), (4, .ifCond .eq 6, 3), (7, .bipush (-2), 2), (9, .ireturn, 1), (10, .aload_n 0, 1), (11, .iload_n 1, 1), (12, .invokevirtual 554, 3), (15, .ifCond .ne 5, 3), (18, .iconst (-1), 1), (19, .ireturn, 1), (20, .aload_n 0, 1), (21, .iload_n 1, 1), (22, .invokevirtual 510, 3), (25, .ifCond .eq 5, 3), (28, .iconst 3, 1), (29, .ireturn, 1), (30, .aload_n 0, 1), (31, .getfield 176, 3), (34, .iload_n 1, 1), (35, .iconst 0, 1), (36, .iastore, 1), (37, .aload_n 0, 1), (38, .iconst 0, 1), (39, .iload_n 1, 1), (40, .iload_n 2, 1), (41, .invokevirtual 570, 3), (44, .aload_n 0, 1), (45, .invokevirtual 623, 3), (48, .ireturn, 1)]
theorem D_X13_resume : dOk cX13_resume L_X13_resume = true := by decide +kernel
def L_X13_inject : List (Nat × Instr × Nat) := [(0, .aload_n 0, 1), (1, .invokevirtual 619, 3), (4, .ifCond .eq 6, 3), (7, .bipush (-2), 2), (9, .ireturn, 1), (10, .aload_n 0, 1), (11, .iload_n 1, 1), (12, .invokevirtual 554, 3), (15, .ifCond .eq 13, 3), (18, .iload_n 2, 1), (19, .iconst 0, 1), (20, .bipush 9, 2), (22, .invokestatic 292, 3), (25, .ifCond .ne 5, 3), (28, .iconst (-1), 1), (29, .ireturn, 1), (30, .aload_n 0, 1), (31, .iload_n 1, 1), (32, .invokevirtual 510, 3), (35, .ifCond .eq 5, 3), (38, .iconst 3, 1), (39, .ireturn, 1), (40, .aload_n 0, 1), (41, .iload_n 2, 1), (42, .iload_n 3, 1), (43, .iconst 0, 1), (44, .bipush (-9), 2), (46, .bipush (-9), 2), (48, .invokevirtual 525, 3), (51, .istore 4, 2), (53, .aload_n 0, 1), (54, .getfield 161, 3), (57, .iload_n 1, 1), (58, .iaload, 1), (59, .ifCond .ne 17, 3), (62, .aload_n 0, 1), (63, .iload_n 1, 1), (64, .iconst 5, 1), (65, .invokevirtual 513, 3), (68, .aload_n 0, 1), (69, .iload 4, 2), (71, .putfield 491, 3), (74, .iconst 2, 1), (75, .ireturn, 1), (76, .aload_n 0, 1), (77, .iconst 0, 1), (78, .iload_n 1, 1), (79, .iload 4, 2), (81, .invokevirtual 573, 3), (84, .aload_n 0, 1), (85, .invokevirtual 623, 3), (88, .ireturn, 1)]
theorem D_X13_inject : dOk cX13_inject L_X13_inject = true := by decide +kernel
def L_X13_close : List (Nat × Instr × Nat) := [(0, .aload_n 0, 1), (1, .invokevirtual 619, 3), (4, .ifCond .eq 8, 3), (7, .bipush (-2), 2), (9, .goto 21, 3), (12, .aload_n 0, 1), (13, .iload_n 1, 1), (14, .invokevirtual 554, 3), (17, .ifCond .ne 7, 3), (20, .iconst (-1), 1), (21, .goto 9, 3), (24, .aload_n 0, 1), (25, .iload_n 1, 1), (26, .iconst 1, 1), (27, .invokevirtual 626, 3), (30, .ireturn, 1)]
theorem D_X13_close : dOk cX13_close L_X13_close = true := by decide +kernel
def L_X13_sweep : List (Nat × Instr × Nat) := [(0, .aload_n 0, 1), (1, .invokevirtual 619, 3), (4, .ifCond .eq 6, 3), (7, .bipush (-2), 2), (9, .ireturn, 1), (10, .iconst 1, 1), (11, .istore_n 1, 1), (12, .iload_n 1, 1), (13, .aload_n 0, 1), (14, .getfield 461, 3), (17, .if_icmp .gt 29, 3), (20, .aload_n 0, 1), (21, .getfield 280, 3), (24, .iload_n 1, 1), (25, .aload_n 0, 1), (26, .getfield 179, 3), (29, .iload_n 1, 1), (30, .iaload, 1), (31, .ifCond .ne 7, 3), (34, .iconst 1, 1), (35, .goto 4, 3), (38, .iconst 0, 1), (39, .bastore, 1), (40, .iinc 1 1, 3), (43, .goto (-31), 3), (46, .iconst 0, 1), (47, .istore_n 1, 1), (48, .iload_n 1, 1), (49, .aload_n 0, 1), (50, .getfield 461, 3), (53, .if_icmp .ge 47, 3), (56, .iconst 1, 1), (57, .istore_n 2, 1), (58, .iload_n 2, 1), (59, .aload_n 0, 1), (60, .getfield 461, 3), (63, .if_icmp .gt 31, 3), (66, .aload_n 0, 1), (67, .getfield 280, 3), (70, .iload_n 2, 1), (71, .baload, 1), (72, .ifCond .eq 16, 3), (75, .aload_n 0, 1), (76, .iload_n 2, 1), (77, .invokevirtual 510, 3), (80, .ifCond .ne 8, 3), (83, .aload_n 0, 1), (84, .iload_n 2, 1), (85, .invokevirtual 632, 3), (88, .iinc 2 1, 3), (91, .goto (-33), 3), (94, .iinc 1 1, 3), (97, .goto (-49), 3), (100, .aload_n 0, 1), (101, .getfield 461, 3), (104, .istore_n 1, 1), (105, .iconst 0, 1), (106, .istore_n 2, 1), (107, .iconst 1, 1), (108, .istore_n 3, 1), (109, .iload_n 3, 1), (110, .iload_n 1, 1), (111, .if_icmp .gt 37, 3), (114, .aload_n 0, 1), (115, .getfield 280, 3), (118, .iload_n 3, 1), (119, .aload_n 0, 1), (120, .getfield 280, 3), (123, .iload_n 3, 1), (124, .baload, 1), (125, .ifCond .ne 11, 3), (128, .aload_n 0, 1), (129, .iload_n 3, 1), (130, .invokevirtual 510, 3), (133, .ifCond .eq 7, 3), (136, .iconst 1, 1), (137, .goto 4, 3), (140, .iconst 0, 1), (141, .bastore, 1), (142, .iinc 3 1, 3), (145, .goto (-36), 3), (148, .iconst 1, 1), (149, .istore_n 3, 1), (150, .iload_n 3, 1), (151, .iload_n 1, 1), (152, .if_icmp .gt 44, 3), (155, .aload_n 0, 1), (156, .getfield 470, 3), (159, .ifCond .ne 37, 3), (162, .aload_n 0, 1), (163, .getfield 280, 3), (166, .iload_n 3, 1), (167, .baload, 1), (168, .ifCond .ne 22, 3), (171, .aload_n 0, 1), (172, .iload_n 3, 1), (173, .invokevirtual 510, 3), (176, .ifCond .ne 14, 3), (179, .aload_n 0, 1), (180, .iload_n 3, 1), (181, .iconst 0, 1), (182, .invokevirtual 626, 3), (185, .istore 4, 2), (187, .iinc 2 1, 3), (190, .iinc 3 1, 3), (193, .goto (-43), 3), (196, .iload_n 2, 1), (197, .ireturn, 1)]
theorem D_X13_sweep : dOk cX13_sweep L_X13_sweep = true := by decide +kernel
def L_X13_answer : List (Nat × Instr × Nat) := [(0, .aload_n 0, 1), (1, .getfield 448, 3), (4, .ifCond .eq 10, 3), (7, .aload_n 0, 1), (8, .getfield 476, 3), (11, .goto 5, 3), (14, .bipush (-2), 2), (16, .ireturn, 1)]
theorem D_X13_answer : dOk cX13_answer L_X13_answer = true := by decide +kernel
def L_X13_told : List (Nat × Instr × Nat) := [(0, .aload_n 0, 1), (1, .getfield 448, 3), (4, .ifCond .ne 6, 3), (7, .bipush (-2), 2), (9, .ireturn, 1), (10, .aload_n 0, 1), (11, .iload_n 1, 1), (12, .invokevirtual 554, 3), (15, .ifCond .eq 13, 3), (18, .iload_n 2, 1), (19, .iconst 0, 1), (20, .bipush 6, 2), (22, .invokestatic 292, 3), (25, .ifCond .ne 7, 3), (28, .iconst (-1), 1), (29, .goto 9, 3), (32, .aload_n 0, 1), (33, .iload_n 1, 1), (34, .iload_n 2, 1), (35, .invokevirtual 638, 3), (38, .ireturn, 1)]
theorem D_X13_told : dOk cX13_told L_X13_told = true := by decide +kernel
def L_X13_local : List (Nat × Instr × Nat) := [(0, .aload_n 0, 1), (1, .getfield 448, 3), (4, .ifCond .ne 6, 3), (7, .bipush (-2), 2), (9, .ireturn, 1), (10, .aload_n 0, 1), (11, .iload_n 1, 1), (12, .invokevirtual 554, 3), (15, .ifCond .ne 5, 3), (18, .iconst (-1), 1), (19, .ireturn, 1), (20, .aload_n 0, 1), (21, .getfield 161, 3), (24, .iload_n 1, 1), (25, .iaload, 1), (26, .ifCond .ne 36, 3), (29, .iload_n 2, 1), (30, .ifCond .ne 30, 3), (33, .iload_n 3, 1), (34, .ifCond .ne 26, 3), (37, .aload_n 0, 1), (38, .getfield 107, 3), (41, .aload_n 0, 1), (42, .getfield 164, 3), (45, .iload_n 1, 1), (46, .iaload, 1), (47, .iaload, 1), (48, .ifCond .le 12, 3), (51, .aload_n 0, 1), (52, .getfield 167, 3), (55, .iload_n 1, 1), (56, .iaload, 1), (57, .goto 4, 3), (60, .iconst (-1), 1), (61, .ireturn, 1), (62, .iload_n 2, 1), (63, .iconst 0, 1), (64, .aload_n 0, 1), (65, .iload_n 1, 1), (66, .invokevirtual 635, 3), (69, .iconst 1, 1), (70, .isub, 1), (71, .invokestatic 292, 3), (74, .ifCond .ne 5, 3), (77, .iconst (-1), 1), (78, .ireturn, 1), (79, .bipush 60, 2), (81, .aload_n 0, 1), (82, .getfield 189, 3), (85, .iload_n 1, 1), (86, .iaload, 1), (87, .imul, 1), (88, .aload_n 0, 1), (89, .getfield 195, 3), (92, .aload_n 0, 1), (93, .getfield 189, 3), (96, .iload_n 1, 1), (97, .iaload, 1), (98, .iaload, 1), (99, .iadd, 1), (100, .iconst 1, 1), (101, .isub, 1), (102, .iload_n 2, 1), (103, .isub, 1), (104, .istore 4, 2), (106, .iload_n 3, 1), (107, .iconst 0, 1), (108, .aload_n 0, 1), (109, .getfield 110, 3), (112, .aload_n 0, 1), (113, .getfield 198, 3), (116, .iload 4, 2), (118, .iaload, 1), (119, .iaload, 1), (120, .iconst 1, 1), (121, .isub, 1), (122, .invokestatic 292, 3), (125, .ifCond .eq 18, 3), (128, .aload_n 0, 1), (129, .getfield 213, 3), (132, .bipush 40, 2), (134, .iload 4, 2), (136, .imul, 1), (137, .iload_n 3, 1), (138, .iadd, 1), (139, .iaload, 1), (140, .goto 4, 3), (143, .iconst (-1), 1), (144, .ireturn, 1)]
theorem D_X13_local : dOk cX13_local L_X13_local = true := by decide +kernel
def L_X13_lines : List (Nat × Instr × Nat) := [(0, .aload_n 0, 1), (1, .getfield 448, 3), (4, .ifCond .eq 10, 3), (7, .aload_n 0, 1), (8, .getfield 479, 3), (11, .goto 5, 3), (14, .bipush (-2), 2), (16, .ireturn, 1)]
theorem D_X13_lines : dOk cX13_lines L_X13_lines = true := by decide +kernel
def L_X13_line : List (Nat × Instr × Nat) := [(0, .aload_n 0, 1), (1, .getfield 448, 3), (4, .ifCond .ne 6, 3), (7, .bipush (-2), 2), (9, .ireturn, 1), (10, .iload_n 2, 1), (11, .iconst 0, 1), (12, .iconst 1, 1), (13, .invokestatic 292, 3), (16, .ifCond .ne 5, 3), (19, .iconst (-1), 1), (20, .ireturn, 1), (21, .iload_n 1, 1), (22, .iconst 0, 1), (23, .aload_n 0, 1), (24, .getfield 479, 3), (27, .iconst 1, 1), (28, .isub, 1), (29, .invokestatic 292, 3), (32, .ifCond .eq 10, 3), (35, .iload_n 1, 1), (36, .sipush 300, 3), (39, .if_icmp .lt 8, 3), (42, .bipush (-9), 2), (44, .goto 22, 3), (47, .iload_n 2, 1), (48, .ifCond .ne 12, 3), (51, .aload_n 0, 1), (52, .getfield 241, 3), (55, .iload_n 1, 1), (56, .iaload, 1), (57, .goto 9, 3), (60, .aload_n 0, 1), (61, .getfield 244, 3), (64, .iload_n 1, 1), (65, .iaload, 1), (66, .ireturn, 1)]
theorem D_X13_line : dOk cX13_line L_X13_line = true := by decide +kernel
def L_X13_handings : List (Nat × Instr × Nat) := [(0, .aload_n 0, 1), (1, .getfield 448, 3), (4, .ifCond .eq 10, 3), (7, .aload_n 0, 1), (8, .getfield 482, 3), (11, .goto 5, 3), (14, .bipush (-2), 2), (16, .ireturn, 1)]
theorem D_X13_handings : dOk cX13_handings L_X13_handings = true := by decide +kernel
def L_X13_handing : List (Nat × Instr × Nat) := [(0, .aload_n 0, 1), (1, .getfield 448, 3), (4, .ifCond .ne 6, 3), (7, .bipush (-2), 2), (9, .ireturn, 1), (10, .iload_n 2, 1), (11, .iconst 0, 1), (12, .iconst 1, 1), (13, .invokestatic 292, 3), (16, .ifCond .ne 5, 3), (19, .iconst (-1), 1), (20, .ireturn, 1), (21, .iload_n 1, 1), (22, .iconst 0, 1), (23, .aload_n 0, 1), (24, .getfield 482, 3), (27, .iconst 1, 1), (28, .isub, 1), (29, .invokestatic 292, 3), (32, .ifCond .eq 10, 3), (35, .iload_n 1, 1), (36, .sipush 300, 3), (39, .if_icmp .lt 8, 3), (42, .bipush (-9), 2), (44, .goto 22, 3), (47, .iload_n 2, 1), (48, .ifCond .ne 12, 3), (51, .aload_n 0, 1), (52, .getfield 247, 3), (55, .iload_n 1, 1), (56, .iaload, 1), (57, .goto 9, 3), (60, .aload_n 0, 1), (61, .getfield 250, 3), (64, .iload_n 1, 1), (65, .iaload, 1), (66, .ireturn, 1)]
theorem D_X13_handing : dOk cX13_handing L_X13_handing = true := by decide +kernel
def L_X13_failures : List (Nat × Instr × Nat) := [(0, .aload_n 0, 1), (1, .getfield 448, 3), (4, .ifCond .ne 6, 3), (7, .bipush (-2), 2), (9, .ireturn, 1), (10, .aload_n 0, 1), (11, .invokevirtual 649, 3), (14, .aload_n 0, 1), (15, .getfield 642, 3), (18, .ireturn, 1)]
theorem D_X13_failures : dOk cX13_failures L_X13_failures = true := by decide +kernel
def L_X13_failure_ : List (Nat × Instr × Nat) := [(0, .aload_n 0, 1), (1, .getfield 448, 3), (4, .ifCond .ne 6, 3), (7, .bipush (-2), 2), (9, .ireturn, 1), (10, .aload_n 0, 1), (11, .invokevirtual 649, 3), (14, .iload_n 1, 1), (15, .iconst 0, 1), (16, .aload_n 0, 1), (17, .getfield 642, 3), (20, .iconst 1, 1), (21, .isub, 1), (22, .invokestatic 292, 3), (25, .ifCond .eq 12, 3), (28, .iload_n 2, 1), (29, .iconst 0, 1), (30, .iconst 5, 1), (31, .invokestatic 292, 3), (34, .ifCond .ne 5, 3), (37, .iconst (-1), 1), (38, .ireturn, 1), (39, .aload_n 0, 1), (40, .getfield 283, 3), (43, .iload_n 1, 1), (44, .iaload, 1), (45, .istore_n 3, 1), (46, .iload_n 2, 1), (47, .tableswitch 68 0 4 #[33, 40, 47, 54, 61], 33), (80, .aload_n 0, 1), (81, .getfield 256, 3), (84, .iload_n 3, 1), (85, .iaload, 1), (86, .ireturn, 1), (87, .aload_n 0, 1), (88, .getfield 259, 3), (91, .iload_n 3, 1), (92, .iaload, 1), (93, .ireturn, 1), (94, .aload_n 0, 1), (95, .getfield 262, 3), (98, .iload_n 3, 1), (99, .iaload, 1), (100, .ireturn, 1), (101, .aload_n 0, 1), (102, .getfield 265, 3), (105, .iload_n 3, 1), (106, .iaload, 1), (107, .ireturn, 1), (108, .aload_n 0, 1), (109, .getfield 286, 3), (112, .iload_n 1, 1), (113, .iaload, 1), (114, .ireturn, 1), (115, .aload_n 0, 1), (116, .getfield 289, 3), (119, .iload_n 1, 1), (120, .iaload, 1), (121, .ireturn, 1)]
theorem D_X13_failure_ : dOk cX13_failure_ L_X13_failure_ = true := by decide +kernel
def L_X13_ring : List (Nat × Instr × Nat) := [(0, .aload_n 0, 1), (1, .getfield 448, 3), (4, .ifCond .ne 8, 3), (7, .bipush (-2), 2), (9, .goto 28, 3), (12, .iload_n 1, 1), (13, .iconst 0, 1), (14, .aload_n 0, 1), (15, .getfield 485, 3), (18, .iconst 1, 1), (19, .isub, 1), (20, .invokestatic 292, 3), (23, .ifCond .eq 12, 3), (26, .aload_n 0, 1), (27, .getfield 253, 3), (30, .iload_n 1, 1), (31, .iaload, 1), (32, .goto 5, 3), (35, .bipush (-9), 2), (37, .ireturn, 1)]
theorem D_X13_ring : dOk cX13_ring L_X13_ring = true := by decide +kernel
def L_X13_count : List (Nat × Instr × Nat) := [(0, .aload_n 0, 1), (1, .getfield 448, 3), (4, .ifCond .ne 6, 3), (7, .bipush (-2), 2), (9, .ireturn, 1), (10, .iload_n 1, 1), (11, .tableswitch 66 0 4 #[33, 38, 43, 48, 53], 33), (44, .aload_n 0, 1), (45, .getfield 445, 3), (48, .ireturn, 1), (49, .aload_n 0, 1), (50, .getfield 461, 3), (53, .ireturn, 1), (54, .aload_n 0, 1), (55, .getfield 464, 3), (58, .ireturn, 1), (59, .aload_n 0, 1), (60, .getfield 467, 3), (63, .ireturn, 1), (64, .aload_n 0, 1), (65, .getfield 470, 3), (68, .ifCond .eq 7, 3), (71, .iconst 1, 1), (72, .goto 4, 3), (75, .iconst 0, 1), (76, .ireturn, 1), (77, .iconst (-1), 1), (78, .ireturn, 1)]
theorem D_X13_count : dOk cX13_count L_X13_count = true := by decide +kernel
def L_X13_digest : List (Nat × Instr × Nat) := [(0, .aload_n 0, 1), (1, .getfield 448, 3), (4, .ifCond .ne 5, 3), (7, .lconst 0, 1), (8, .lreturn, 1), (9, .ldc2_w 652, 3), (12, .lstore_n 1, 1), (13, .iconst 1, 1), (14, .istore_n 3, 1), (15, .iload_n 3, 1), (16, .aload_n 0, 1), (17, .getfield 461, 3), (20, .if_icmp .gt 121, 3), (23, .iconst 0, 1), (24, .istore 4, 2), (26, .iload 4, 2), (28, .bipush 6, 2), (30, .if_icmp .gt 24, 3), (33, .ldc2_w 654, 3), (36, .lload_n 1, 1), (37, .lmul, 1), (38, .aload_n 0, 1), (39, .iload_n 3, 1), (40, .iload 4, 2), (42, .invokevirtual 638, 3), (45, .i2l, 1), (46, .ladd, 1), (47, .lstore_n 1, 1), (48, .iinc 4 1, 3), (51, .goto (-25), 3), (54, .aload_n 0, 1), (55, .iload_n 3, 1), (56, .invokevirtual 635, 3), (59, .iconst 1, 1), (60, .isub, 1), (61, .istore 4, 2), (63, .iload 4, 2), (65, .ifCond .lt 70, 3), (68, .bipush 60, 2), (70, .aload_n 0, 1), (71, .getfield 189, 3), (74, .iload_n 3, 1), (75, .iaload, 1), (76, .imul, 1), (77, .iload 4, 2), (79, .iadd, 1), (80, .istore 5, 2), (82, .iconst 0, 1), (83, .istore 6, 2), (85, .iload 6, 2), (87, .aload_n 0, 1), (88, .getfield 110, 3), (91, .aload_n 0, 1), (92, .getfield 198, 3), (95, .iload 5, 2), (97, .iaload, 1), (98, .iaload, 1), (99, .if_icmp .ge 30, 3), (102, .ldc2_w 654, 3), (105, .lload_n 1, 1), (106, .lmul, 1), (107, .aload_n 0, 1), (108, .getfield 213, 3), (111, .bipush 40, 2), (113, .iload 5, 2), (115, .imul, 1), (116, .iload 6, 2), (118, .iadd, 1), (119, .iaload, 1), (120, .i2l, 1), (121, .ladd, 1), (122, .lstore_n 1, 1), (123, .iinc 6 1, 3), (126, .goto (-41), 3), (129, .iinc 4 (-1), 3), (132, .goto (-69), 3), (135, .iinc 3 1, 3), (138, .goto (-123), 3), (141, .iconst 0, 1), (142, .istore_n 3, 1), (143, .iload_n 3, 1), (144, .aload_n 0, 1), (145, .getfield 479, 3), (148, .if_icmp .ge 42, 3), (151, .iload_n 3, 1), (152, .sipush 300, 3), (155, .if_icmp .ge 35, 3), (158, .ldc2_w 654, 3), (161, .ldc2_w 654, 3), (164, .lload_n 1, 1), (165, .lmul, 1), (166, .aload_n 0, 1), (167, .getfield 241, 3), (170, .iload_n 3, 1), (171, .iaload, 1), (172, .i2l, 1), (173, .ladd, 1), (174, .lmul, 1), (175, .aload_n 0, 1), (176, .getfield 244, 3), (179, .iload_n 3, 1), (180, .iaload, 1), (181, .i2l, 1), (182, .ladd, 1), (183, .lstore_n 1, 1), (184, .iinc 3 1, 3), (187, .goto (-44), 3), (190, .iconst 0, 1), (191, .istore_n 3, 1), (192, .iload_n 3, 1), (193, .aload_n 0, 1), (194, .getfield 482, 3), (197, .if_icmp .ge 42, 3), (200, .iload_n 3, 1), (201, .sipush 300, 3), (204, .if_icmp .ge 35, 3), (207, .ldc2_w 654, 3), (210, .ldc2_w 654, 3), (213, .lload_n 1, 1), (214, .lmul, 1), (215, .aload_n 0, 1), (216, .getfield 247, 3), (219, .iload_n 3, 1), (220, .iaload, 1), (221, .i2l, 1), (222, .ladd, 1), (223, .lmul, 1), (224, .aload_n 0, 1), (225, .getfield 250, 3), (228, .iload_n 3, 1), (229, .iaload, 1), (230, .i2l, 1), (231, .ladd, 1), (232, .lstore_n 1, 1), (233, .iinc 3 1, 3), (236, .goto (-44), 3), (239, .ldc2_w 654, 3), (242, .lload_n 1, 1), (243, .lmul, 1), (244, .aload_n 0, 1), (245, .getfield 467, 3), (248, .i2l, 1), (249, .ladd, 1), (250, .lreturn, 1)]
theorem D_X13_digest : dOk cX13_digest L_X13_digest = true := by decide +kernel
def L_X13_init : List (Nat × Instr × Nat) := [(0, .aload_n 0, 1), (1, .invokespecial 1, 3), (4, .aload_n 0, 1), (5, .new 7, 3), (8, .dup, 1), (9, .invokespecial 9, 3), (12, .putfield 10, 3), (15, .aload_n 0, 1), (16, .sipush 3000, 3), (19, .newarray .byte, 2), (21, .putfield 16, 3), (24, .aload_n 0, 1), (25, .sipush 3000, 3), (28, .newarray .byte, 2), (30, .putfield 20, 3), (33, .aload_n 0, 1), (34, .sipush 3002, 3), (37, .newarray .int, 2), (39, .putfield 23, 3), (42, .aload_n 0, 1), (43, .sipush 3002, 3), (46, .newarray .int, 2), (48, .putfield 27, 3), (51, .aload_n 0, 1), (52, .sipush 3002, 3), (55, .newarray .int, 2), (57, .putfield 30, 3), (60, .aload_n 0, 1), (61, .sipush 3002, 3), (64, .newarray .int, 2), (66, .putfield 33, 3), (69, .aload_n 0, 1), (70, .sipush 3002, 3), (73, .newarray .long, 2), (75, .putfield 36, 3), (78, .aload_n 0, 1), (79, .bipush 23, 2), (81, .anewarray 40, 3), (84, .dup, 1), (85, .iconst 0, 1), (86, .ldc 42, 2), (88, .aastore, 1), (89, .dup, 1), (90, .iconst 1, 1), (91, .ldc 44, 2), (93, .aastore, 1), (94, .dup, 1), (95, .iconst 2, 1), (96, .ldc 46, 2), (98, .aastore, 1), (99, .dup, 1), (100, .iconst 3, 1), (101, .ldc 48, 2), (103, .aastore, 1), (104, .dup, 1), (105, .iconst 4, 1), (106, .ldc 50, 2), (108, .aastore, 1), (109, .dup, 1), (110, .iconst 5, 1), (111, .ldc 52, 2), (113, .aastore, 1), (114, .dup, 1), (115, .bipush 6, 2), (117, .ldc 54, 2), (119, .aastore, 1), (120, .dup, 1), (121, .bipush 7, 2), (123, .ldc 56, 2), (125, .aastore, 1), (126, .dup, 1), (127, .bipush 8, 2), (129, .ldc 58, 2), (131, .aastore, 1), (132, .dup, 1), (133, .bipush 9, 2), (135, .ldc 60, 2), (137, .aastore, 1), (138, .dup, 1), (139, .bipush 10, 2), (141, .ldc 62, 2), (143, .aastore, 1), (144, .dup, 1), (145, .bipush 11, 2), (147, .ldc 64, 2), (149, .aastore, 1), (150, .dup, 1), (151, .bipush 12, 2), (153, .ldc 66, 2), (155, .aastore, 1), (156, .dup, 1), (157, .bipush 13, 2), (159, .ldc 68, 2), (161, .aastore, 1), (162, .dup, 1), (163, .bipush 14, 2), (165, .ldc 70, 2), (167, .aastore, 1), (168, .dup, 1), (169, .bipush 15, 2), (171, .ldc 72, 2), (173, .aastore, 1), (174, .dup, 1), (175, .bipush 16, 2), (177, .ldc 74, 2), (179, .aastore, 1), (180, .dup, 1), (181, .bipush 17, 2), (183, .ldc 76, 2), (185, .aastore, 1), (186, .dup, 1), (187, .bipush 18, 2), (189, .ldc 78, 2), (191, .aastore, 1), (192, .dup, 1), (193, .bipush 19, 2), (195, .ldc 80, 2), (197, .aastore, 1), (198, .dup, 1), (199, .bipush 20, 2), (201, .ldc 82, 2), (203, .aastore, 1), (204, .dup, 1), (205, .bipush 21, 2), (207, .ldc 84, 2), (209, .aastore, 1), (210, .dup, 1), (211, .bipush 22, 2), (213, .ldc 86, 2), (215, .aastore, 1), (216, .putfield 88, 3), (219, .aload_n 0, 1), (220, .sipush 12000, 3), (223, .newarray .int, 2), (225, .putfield 92, 3), (228, .aload_n 0, 1), (229, .sipush 12000, 3), (232, .newarray .int, 2), (234, .putfield 95, 3), (237, .aload_n 0, 1), (238, .sipush 12000, 3), (241, .newarray .int, 2), (243, .putfield 98, 3), (246, .aload_n 0, 1), (247, .sipush 12000, 3), (250, .newarray .int, 2), (252, .putfield 101, 3), (255, .aload_n 0, 1), (256, .bipush 12, 2), (258, .newarray .int, 2), (260, .putfield 104, 3), (263, .aload_n 0, 1), (264, .bipush 12, 2), (266, .newarray .int, 2), (268, .putfield 107, 3), (271, .aload_n 0, 1), (272, .bipush 12, 2), (274, .newarray .int, 2), (276, .putfield 110, 3), (279, .aload_n 0, 1), (280, .bipush 12, 2), (282, .newarray .int, 2), (284, .putfield 113, 3), (287, .aload_n 0, 1), (288, .bipush 12, 2), (290, .newarray .int, 2), (292, .putfield 116, 3), (295, .aload_n 0, 1), (296, .sipush 1600, 3), (299, .newarray .long, 2), (301, .putfield 119, 3), (304, .aload_n 0, 1), (305, .bipush 12, 2), (307, .newarray .long, 2), (309, .putfield 122, 3), (312, .aload_n 0, 1), (313, .sipush 1000, 3), (316, .newarray .int, 2), (318, .putfield 125, 3), (321, .aload_n 0, 1), (322, .sipush 1000, 3), (325, .newarray .int, 2), (327, .putfield 128, 3), (330, .aload_n 0, 1), (331, .sipush 1000, 3), (334, .newarray .int, 2), (336, .putfield 131, 3), (339, .aload_n 0, 1), (340, .sipush 1000, 3), (343, .newarray .int, 2), (345, .putfield 134, 3), (348, .aload_n 0, 1), (349, .sipush 1000, 3), (352, .newarray .int, 2), (354, .putfield 137, 3), (357, .aload_n 0, 1), (358, .sipush 1000, 3), (361, .newarray .int, 2), (363, .putfield 140, 3), (366, .aload_n 0, 1), (367, .sipush 1600, 3), (370, .newarray .int, 2), (372, .putfield 143, 3), (375, .aload_n 0, 1), (376, .sipush 1600, 3), (379, .newarray .int, 2), (381, .putfield 146, 3), (384, .aload_n 0, 1), (385, .sipush 1600, 3), (388, .newarray .int, 2), (390, .putfield 149, 3), (393, .aload_n 0, 1), (394, .sipush 1600, 3), (397, .newarray .int, 2), (399, .putfield 152, 3), (402, .aload_n 0, 1), (403, .sipush 1600, 3), (406, .newarray .int, 2), (408, .putfield 155, 3), (411, .aload_n 0, 1), (412, .sipush 1000, 3), (415, .newarray .int, 2), (417, .putfield 158, 3), (420, .aload_n 0, 1), (421, .bipush 61, 2), (423, .newarray .int, 2), (425, .putfield 161, 3), (428, .aload_n 0, 1), (429, .bipush 61, 2), (431, .newarray .int, 2), (433, .putfield 164, 3), (436, .aload_n 0, 1), (437, .bipush 61, 2), (439, .newarray .int, 2), (441, .putfield 167, 3), (444, .aload_n 0, 1), (445, .bipush 61, 2), (447, .newarray .int, 2), (449, .putfield 170, 3), (452, .aload_n 0, 1), (453, .bipush 61, 2), (455, .newarray .int, 2), (457, .putfield 173, 3), (460, .aload_n 0, 1), (461, .bipush 61, 2), (463, .newarray .int, 2), (465, .putfield 176, 3), (468, .aload_n 0, 1), (469, .bipush 61, 2), (471, .newarray .int, 2), (473, .putfield 179, 3), (476, .aload_n 0, 1), (477, .bipush 61, 2), (479, .newarray .int, 2), (481, .putfield 182, 3), (484, .aload_n 0, 1), (485, .bipush 61, 2), (487, .newarray .boolean, 2), (489, .putfield 185, 3), (492, .aload_n 0, 1), (493, .bipush 61, 2), (495, .newarray .int, 2), (497, .putfield 189, 3), (500, .aload_n 0, 1), (501, .bipush 12, 2), (503, .newarray .boolean, 2), (505, .putfield 192, 3), (508, .aload_n 0, 1), (509, .bipush 12, 2), (511, .newarray .int, 2), (513, .putfield 195, 3), (516, .aload_n 0, 1), (517, .sipush 720, 3), (520, .newarray .int, 2), (522, .putfield 198, 3), (525, .aload_n 0, 1), (526, .sipush 720, 3), (529, .newarray .int, 2), (531, .putfield 201, 3), (534, .aload_n 0, 1), (535, .sipush 720, 3), (538, .newarray .int, 2), (540, .putfield 204, 3), (543, .aload_n 0, 1), (544, .sipush 720, 3), (547, .newarray .int, 2), (549, .putfield 207, 3), (552, .aload_n 0, 1), (553, .sipush 720, 3), (556, .newarray .int, 2), (558, .putfield 210, 3), (561, .aload_n 0, 1), (562, .sipush 28800, 3), (565, .newarray .int, 2), (567, .putfield 213, 3), (570, .aload_n 0, 1), (571, .sipush 18000, 3), (574, .newarray .int, 2), (576, .putfield 216, 3), (579, .aload_n 0, 1), (580, .bipush 12, 2), (582, .newarray .int, 2), (584, .putfield 219, 3), (587, .aload_n 0, 1), (588, .sipush 18000, 3), (591, .newarray .int, 2), (593, .putfield 222, 3), (596, .aload_n 0, 1), (597, .sipush 18000, 3), (600, .newarray .int, 2), (602, .putfield 225, 3), (605, .aload_n 0, 1), (606, .sipush 18000, 3), (609, .newarray .int, 2), (611, .putfield 228, 3), (614, .aload_n 0, 1), (615, .sipush 18000, 3), (618, .newarray .int, 2), (620, .putfield 231, 3), (623, .aload_n 0, 1), (624, .bipush 12, 2), (626, .newarray .int, 2), (628, .putfield 234, 3), (631, .aload_n 0, 1), (632, .ldc 237, 2), (634, .newarray .int, 2), (636, .putfield 238, 3), (639, .aload_n 0, 1), (640, .sipush 300, 3), (643, .newarray .int, 2), (645, .putfield 241, 3), (648, .aload_n 0, 1), (649, .sipush 300, 3), (652, .newarray .int, 2), (654, .putfield 244, 3), (657, .aload_n 0, 1), (658, .sipush 300, 3), (661, .newarray .int, 2), (663, .putfield 247, 3), (666, .aload_n 0, 1), (667, .sipush 300, 3), (670, .newarray .int, 2), (672, .putfield 250, 3), (675, .aload_n 0, 1), (676, .bipush 64, 2), (678, .newarray .int, 2), (680, .putfield 253, 3), (683, .aload_n 0, 1), (684, .sipush 8000, 3), (687, .newarray .int, 2), (689, .putfield 256, 3), (692, .aload_n 0, 1), (693, .sipush 8000, 3), (696, .newarray .int, 2), (698, .putfield 259, 3), (701, .aload_n 0, 1), (702, .sipush 8000, 3), (705, .newarray .int, 2), (707, .putfield 262, 3), (710, .aload_n 0, 1), (711, .sipush 8000, 3), (714, .newarray .int, 2), (716, .putfield 265, 3), (719, .aload_n 0, 1), (720, .sipush 8000, 3), (723, .newarray .int, 2), (725, .putfield 268, 3), (728, .aload_n 0, 1), (729, .sipush 8000, 3), (732, .newarray .int, 2), (734, .putfield 271, 3), (737, .aload_n 0, 1), (738, .sipush 8000, 3), (741, .newarray .int, 2), (743, .putfield 274, 3), (746, .aload_n 0, 1), (747, .sipush 8000, 3), (750, .newarray .int, 2), (752, .putfield 277, 3), (755, .aload_n 0, 1), (756, .bipush 61, 2), (758, .newarray .boolean, 2), (760, .putfield 280, 3), (763, .aload_n 0, 1), (764, .bipush 40, 2), (766, .newarray .int, 2), (768, .putfield 283, 3), (771, .aload_n 0, 1), (772, .bipush 40, 2), (774, .newarray .int, 2), (776, .putfield 286, 3), (779, .aload_n 0, 1), (780, .bipush 40, 2), (782, .newarray .int, 2), (784, .putfield 289, 3), (787, .return_, 1)]
theorem D_X13_init : dOk cX13_init L_X13_init = true := by decide +kernel
set_option maxRecDepth 100000 in
theorem w_X13_init_0 {X : Cx} {d : Nat} {S : Mem} {Q : Res → Mem → Prop} (r0 : Nat) (h : (1 ≤ d) ∧ (r0 ≠ 0) ∧ ∀ S3 : Mem, S3 = nw S 12 0 7 → ((tp S) ≠ 0) ∧ ∃ e6 : Nat, e6 + 1 ≤ d ∧ C X e6 MX12_init [vR (tp S)] S3 (RV fun  S9 => (isK S9 r0 13) ∧ ∀ S12 : Mem, S12 = uR S9 r0 0 (tp S) → ∀ S16 : Mem, S16 = nw S12 20 3000 3000 → ∀ S20 : Mem, S20 = uR S16 r0 1 (tp S12) → ∀ S24 : Mem, S24 = nw S20 20 3000 3000 → ∀ S28 : Mem, S28 = uR S24 r0 3 (tp S20) → ∀ S32 : Mem, S32 = nw S28 21 3002 3002 → ∀ S36 : Mem, S36 = uR S32 r0 5 (tp S28) → ∀ S40 : Mem, S40 = nw S36 21 3002 3002 → ∀ S44 : Mem, S44 = uR S40 r0 6 (tp S36) → ∀ S48 : Mem, S48 = nw S44 21 3002 3002 → ∀ S52 : Mem, S52 = uR S48 r0 7 (tp S44) → ∀ S56 : Mem, S56 = nw S52 21 3002 3002 → ∀ S60 : Mem, S60 = uR S56 r0 8 (tp S52) → ∀ S64 : Mem, S64 = nw S60 22 3002 3002 → ∀ S68 : Mem, S68 = uR S64 r0 9 (tp S60) → ∀ S71 : Mem, S71 = nw S68 27 23 23 → (vp_in 0 (gN S71 (tp S68))) ∧ ∀ S76 : Mem, S76 = uR S71 (tp S68) ((0 : Int32).toNatClampNeg) 4 → (vp_in 1 (gN S76 (tp S68))) ∧ ∀ S81 : Mem, S81 = uR S76 (tp S68) ((1 : Int32).toNatClampNeg) 5 → (vp_in 2 (gN S81 (tp S68))) ∧ ∀ S86 : Mem, S86 = uR S81 (tp S68) ((2 : Int32).toNatClampNeg) 6 → (vp_in 3 (gN S86 (tp S68))) ∧ ∀ S91 : Mem, S91 = uR S86 (tp S68) ((3 : Int32).toNatClampNeg) 7 → (vp_in 4 (gN S91 (tp S68))) ∧ ∀ S96 : Mem, S96 = uR S91 (tp S68) ((4 : Int32).toNatClampNeg) 8 → (vp_in 5 (gN S96 (tp S68))) ∧ ∀ S101 : Mem, S101 = uR S96 (tp S68) ((5 : Int32).toNatClampNeg) 9 → (vp_in 6 (gN S101 (tp S68))) ∧ ∀ S106 : Mem, S106 = uR S101 (tp S68) ((6 : Int32).toNatClampNeg) 10 → (vp_in 7 (gN S106 (tp S68))) ∧ ∀ S111 : Mem, S111 = uR S106 (tp S68) ((7 : Int32).toNatClampNeg) 11 → (vp_in 8 (gN S111 (tp S68))) ∧ ∀ S116 : Mem, S116 = uR S111 (tp S68) ((8 : Int32).toNatClampNeg) 12 → (vp_in 9 (gN S116 (tp S68))) ∧ ∀ S121 : Mem, S121 = uR S116 (tp S68) ((9 : Int32).toNatClampNeg) 13 → (vp_in 10 (gN S121 (tp S68))) ∧ ∀ S126 : Mem, S126 = uR S121 (tp S68) ((10 : Int32).toNatClampNeg) 14 → (vp_in 11 (gN S126 (tp S68))) ∧ ∀ S131 : Mem, S131 = uR S126 (tp S68) ((11 : Int32).toNatClampNeg) 15 → (vp_in 12 (gN S131 (tp S68))) ∧ ∀ S136 : Mem, S136 = uR S131 (tp S68) ((12 : Int32).toNatClampNeg) 16 → (vp_in 13 (gN S136 (tp S68))) ∧ ∀ S141 : Mem, S141 = uR S136 (tp S68) ((13 : Int32).toNatClampNeg) 17 → (vp_in 14 (gN S141 (tp S68))) ∧ ∀ S146 : Mem, S146 = uR S141 (tp S68) ((14 : Int32).toNatClampNeg) 18 → (vp_in 15 (gN S146 (tp S68))) ∧ ∀ S151 : Mem, S151 = uR S146 (tp S68) ((15 : Int32).toNatClampNeg) 19 → (vp_in 16 (gN S151 (tp S68))) ∧ ∀ S156 : Mem, S156 = uR S151 (tp S68) ((16 : Int32).toNatClampNeg) 20 → (vp_in 17 (gN S156 (tp S68))) ∧ ∀ S161 : Mem, S161 = uR S156 (tp S68) ((17 : Int32).toNatClampNeg) 21 → (vp_in 18 (gN S161 (tp S68))) ∧ ∀ S166 : Mem, S166 = uR S161 (tp S68) ((18 : Int32).toNatClampNeg) 22 → (vp_in 19 (gN S166 (tp S68))) ∧ ∀ S171 : Mem, S171 = uR S166 (tp S68) ((19 : Int32).toNatClampNeg) 23 → (vp_in 20 (gN S171 (tp S68))) ∧ ∀ S176 : Mem, S176 = uR S171 (tp S68) ((20 : Int32).toNatClampNeg) 24 → (vp_in 21 (gN S176 (tp S68))) ∧ ∀ S181 : Mem, S181 = uR S176 (tp S68) ((21 : Int32).toNatClampNeg) 25 → (vp_in 22 (gN S181 (tp S68))) ∧ ∀ S186 : Mem, S186 = uR S181 (tp S68) ((22 : Int32).toNatClampNeg) 26 → ∀ S190 : Mem, S190 = uR S186 r0 11 (tp S68) → ∀ S194 : Mem, S194 = nw S190 21 12000 12000 → ∀ S198 : Mem, S198 = uR S194 r0 13 (tp S190) → ∀ S202 : Mem, S202 = nw S198 21 12000 12000 → ∀ S206 : Mem, S206 = uR S202 r0 14 (tp S198) → ∀ S210 : Mem, S210 = nw S206 21 12000 12000 → ∀ S214 : Mem, S214 = uR S210 r0 15 (tp S206) → ∀ S218 : Mem, S218 = nw S214 21 12000 12000 → ∀ S222 : Mem, S222 = uR S218 r0 16 (tp S214) → ∀ S226 : Mem, S226 = nw S222 21 12 12 → ∀ S230 : Mem, S230 = uR S226 r0 19 (tp S222) → ∀ S234 : Mem, S234 = nw S230 21 12 12 → ∀ S238 : Mem, S238 = uR S234 r0 20 (tp S230) → ∀ S242 : Mem, S242 = nw S238 21 12 12 → ∀ S246 : Mem, S246 = uR S242 r0 21 (tp S238) → ∀ S250 : Mem, S250 = nw S246 21 12 12 → ∀ S254 : Mem, S254 = uR S250 r0 22 (tp S246) → ∀ S258 : Mem, S258 = nw S254 21 12 12 → ∀ S262 : Mem, S262 = uR S258 r0 23 (tp S254) → ∀ S266 : Mem, S266 = nw S262 22 1600 1600 → ∀ S270 : Mem, S270 = uR S266 r0 24 (tp S262) → ∀ S274 : Mem, S274 = nw S270 22 12 12 → ∀ S278 : Mem, S278 = uR S274 r0 26 (tp S270) → ∀ S282 : Mem, S282 = nw S278 21 1000 1000 → ∀ S286 : Mem, S286 = uR S282 r0 27 (tp S278) → ∀ S290 : Mem, S290 = nw S286 21 1000 1000 → ∀ S294 : Mem, S294 = uR S290 r0 28 (tp S286) → ∀ S298 : Mem, S298 = nw S294 21 1000 1000 → ∀ S302 : Mem, S302 = uR S298 r0 30 (tp S294) → ∀ S306 : Mem, S306 = nw S302 21 1000 1000 → ∀ S310 : Mem, S310 = uR S306 r0 31 (tp S302) → ∀ S314 : Mem, S314 = nw S310 21 1000 1000 → ∀ S318 : Mem, S318 = uR S314 r0 32 (tp S310) → ∀ S322 : Mem, S322 = nw S318 21 1000 1000 → ∀ S326 : Mem, S326 = uR S322 r0 33 (tp S318) → ∀ S330 : Mem, S330 = nw S326 21 1600 1600 → ∀ S334 : Mem, S334 = uR S330 r0 38 (tp S326) → ∀ S338 : Mem, S338 = nw S334 21 1600 1600 → ∀ S342 : Mem, S342 = uR S338 r0 39 (tp S334) → ∀ S346 : Mem, S346 = nw S342 21 1600 1600 → ∀ S350 : Mem, S350 = uR S346 r0 40 (tp S342) → ∀ S354 : Mem, S354 = nw S350 21 1600 1600 → ∀ S358 : Mem, S358 = uR S354 r0 42 (tp S350) → ∀ S362 : Mem, S362 = nw S358 21 1600 1600 → ∀ S366 : Mem, S366 = uR S362 r0 43 (tp S358) → ∀ S370 : Mem, S370 = nw S366 21 1000 1000 → ∀ S374 : Mem, S374 = uR S370 r0 45 (tp S366) → ∀ S378 : Mem, S378 = nw S374 21 61 61 → ∀ S382 : Mem, S382 = uR S378 r0 49 (tp S374) → ∀ S386 : Mem, S386 = nw S382 21 61 61 → ∀ S390 : Mem, S390 = uR S386 r0 50 (tp S382) → ∀ S394 : Mem, S394 = nw S390 21 61 61 → ∀ S398 : Mem, S398 = uR S394 r0 51 (tp S390) → ∀ S402 : Mem, S402 = nw S398 21 61 61 → ∀ S406 : Mem, S406 = uR S402 r0 52 (tp S398) → ∀ S410 : Mem, S410 = nw S406 21 61 61 → ∀ S414 : Mem, S414 = uR S410 r0 53 (tp S406) → ∀ S418 : Mem, S418 = nw S414 21 61 61 → ∀ S422 : Mem, S422 = uR S418 r0 54 (tp S414) → ∀ S426 : Mem, S426 = nw S422 21 61 61 → ∀ S430 : Mem, S430 = uR S426 r0 55 (tp S422) → ∀ S434 : Mem, S434 = nw S430 21 61 61 → ∀ S438 : Mem, S438 = uR S434 r0 56 (tp S430) → ∀ S442 : Mem, S442 = nw S438 23 61 61 → ∀ S446 : Mem, S446 = uR S442 r0 57 (tp S438) → ∀ S450 : Mem, S450 = nw S446 21 61 61 → ∀ S454 : Mem, S454 = uR S450 r0 58 (tp S446) → ∀ S458 : Mem, S458 = nw S454 23 12 12 → ∀ S462 : Mem, S462 = uR S458 r0 59 (tp S454) → ∀ S466 : Mem, S466 = nw S462 21 12 12 → ∀ S470 : Mem, S470 = uR S466 r0 60 (tp S462) → ∀ S474 : Mem, S474 = nw S470 21 720 720 → ∀ S478 : Mem, S478 = uR S474 r0 61 (tp S470) → ∀ S482 : Mem, S482 = nw S478 21 720 720 → ∀ S486 : Mem, S486 = uR S482 r0 62 (tp S478) → ∀ S490 : Mem, S490 = nw S486 21 720 720 → ∀ S494 : Mem, S494 = uR S490 r0 63 (tp S486) → ∀ S498 : Mem, S498 = nw S494 21 720 720 → ∀ S502 : Mem, S502 = uR S498 r0 64 (tp S494) → ∀ S506 : Mem, S506 = nw S502 21 720 720 → ∀ S510 : Mem, S510 = uR S506 r0 65 (tp S502) → ∀ S514 : Mem, S514 = nw S510 21 28800 28800 → ∀ S518 : Mem, S518 = uR S514 r0 66 (tp S510) → ∀ S522 : Mem, S522 = nw S518 21 18000 18000 → ∀ S526 : Mem, S526 = uR S522 r0 67 (tp S518) → ∀ S530 : Mem, S530 = nw S526 21 12 12 → ∀ S534 : Mem, S534 = uR S530 r0 68 (tp S526) → ∀ S538 : Mem, S538 = nw S534 21 18000 18000 → ∀ S542 : Mem, S542 = uR S538 r0 69 (tp S534) → ∀ S546 : Mem, S546 = nw S542 21 18000 18000 → ∀ S550 : Mem, S550 = uR S546 r0 70 (tp S542) → ∀ S554 : Mem, S554 = nw S550 21 18000 18000 → ∀ S558 : Mem, S558 = uR S554 r0 71 (tp S550) → ∀ S562 : Mem, S562 = nw S558 21 18000 18000 → ∀ S566 : Mem, S566 = uR S562 r0 72 (tp S558) → ∀ S570 : Mem, S570 = nw S566 21 12 12 → ∀ S574 : Mem, S574 = uR S570 r0 73 (tp S566) → ∀ S578 : Mem, S578 = nw S574 21 122400 122400 → ∀ S582 : Mem, S582 = uR S578 r0 74 (tp S574) → ∀ S586 : Mem, S586 = nw S582 21 300 300 → ∀ S590 : Mem, S590 = uR S586 r0 81 (tp S582) → ∀ S594 : Mem, S594 = nw S590 21 300 300 → ∀ S598 : Mem, S598 = uR S594 r0 82 (tp S590) → ∀ S602 : Mem, S602 = nw S598 21 300 300 → ∀ S606 : Mem, S606 = uR S602 r0 84 (tp S598) → ∀ S610 : Mem, S610 = nw S606 21 300 300 → ∀ S614 : Mem, S614 = uR S610 r0 85 (tp S606) → ∀ S618 : Mem, S618 = nw S614 21 64 64 → ∀ S622 : Mem, S622 = uR S618 r0 86 (tp S614) → ∀ S626 : Mem, S626 = nw S622 21 8000 8000 → ∀ S630 : Mem, S630 = uR S626 r0 89 (tp S622) → ∀ S634 : Mem, S634 = nw S630 21 8000 8000 → ∀ S638 : Mem, S638 = uR S634 r0 90 (tp S630) → ∀ S642 : Mem, S642 = nw S638 21 8000 8000 → ∀ S646 : Mem, S646 = uR S642 r0 91 (tp S638) → ∀ S650 : Mem, S650 = nw S646 21 8000 8000 → ∀ S654 : Mem, S654 = uR S650 r0 92 (tp S646) → ∀ S658 : Mem, S658 = nw S654 21 8000 8000 → ∀ S662 : Mem, S662 = uR S658 r0 93 (tp S654) → ∀ S666 : Mem, S666 = nw S662 21 8000 8000 → ∀ S670 : Mem, S670 = uR S666 r0 94 (tp S662) → ∀ S674 : Mem, S674 = nw S670 21 8000 8000 → ∀ S678 : Mem, S678 = uR S674 r0 95 (tp S670) → ∀ S682 : Mem, S682 = nw S678 21 8000 8000 → ∀ S686 : Mem, S686 = uR S682 r0 96 (tp S678) → ∀ S690 : Mem, S690 = nw S686 23 61 61 → ∀ S694 : Mem, S694 = uR S690 r0 98 (tp S686) → ∀ S698 : Mem, S698 = nw S694 21 40 40 → ∀ S702 : Mem, S702 = uR S698 r0 99 (tp S694) → ∀ S706 : Mem, S706 = nw S702 21 40 40 → ∀ S710 : Mem, S710 = uR S706 r0 100 (tp S702) → ∀ S714 : Mem, S714 = nw S710 21 40 40 → ∀ S718 : Mem, S718 = uR S714 r0 101 (tp S710) → Q (.inl none) S718)) : V X d MX13_init 0 [(0, vR r0)] [] S Q := by
  refine V_aload_n (pc2 := 1) (dk D_X13_init 0 rfl) rfl (V_lg 0 rfl) rfl ?_
  obtain ⟨h1, h⟩ := h
  obtain ⟨h2, h⟩ := h
  refine V_obj (pc2 := 4) (dk D_X13_init 1 rfl) ml_13_1 oi_i oi_c rfl (Nat.le_of_ble_eq_true rfl) h1 h2 ?_
  refine V_aload_n (pc2 := 5) (dk D_X13_init 2 rfl) rfl (V_lg 0 rfl) rfl ?_
  refine V_newC kc12 (pc2 := 8) (dk D_X13_init 3 rfl) cl_13_7 it_12 ii_12 (by decide) rfl ?_
  obtain ⟨S3, en4⟩ : ∃ Z : Mem, Z = nw S 12 0 7 := ⟨_, rfl⟩
  rw [← en4]
  have h := h S3 en4
  have hf5 : isK S3 (tp S) 12 := by rw [en4]; exact isK_new
  refine V_dup (pc2 := 9) (dk D_X13_init 4 rfl) rfl rfl ?_
  obtain ⟨h10, h⟩ := h
  obtain ⟨e6, he7, hc8⟩ := h
  refine V_callI (as := []) (st := [_, _]) (M' := MX12_init) (pc2 := 12) (dk D_X13_init 5 rfl) ml_13_9 mv_X12_init rfl rfl rfl (Nat.le_of_ble_eq_true rfl) rfl he7 h10 hc8 (RV.k fun  S9 h => ?_)
  obtain ⟨h11, h⟩ := h
  refine V_putR kc13 (pc2 := 15) 0 (dk D_X13_init 6 rfl) fl_13_10 (by decide) (Or.inr ⟨rfl, rfl, rfl⟩) (Or.inl ⟨_, rfl⟩) rfl h11 ?_
  obtain ⟨S12, en13⟩ : ∃ Z : Mem, Z = uR S9 r0 0 (tp S) := ⟨_, rfl⟩
  rw [← en13]
  have h := h S12 en13
  have hf14 : isK S12 r0 13 := by rw [en13]; exact h11
  refine V_aload_n (pc2 := 16) (dk D_X13_init 7 rfl) rfl (V_lg 0 rfl) rfl ?_
  refine V_sipush (x := 3000) (pc2 := 19) (dk D_X13_init 8 rfl) (by decide) rfl ?_
  have hd15 : decode MX13_init.2.1 19 = .ok (.newarray .byte, 2) := dk D_X13_init 9 rfl
  refine V_newa20 (n := 3000) (pc2 := 21) hd15 ac_20 rfl (litI 3000) (Nat.le_of_ble_eq_true rfl) ?_
  obtain ⟨S16, en17⟩ : ∃ Z : Mem, Z = nw S12 20 3000 3000 := ⟨_, rfl⟩
  rw [← en17]
  have h := h S16 en17
  have hf18 : isK S16 r0 13 := by rw [en17]; exact isK_nw hf14
  have hf19 : isK S16 (tp S12) 20 := by rw [en17]; exact isK_new
  refine V_putR kc13 (pc2 := 24) 1 (dk D_X13_init 10 rfl) fl_13_16 (by decide) (Or.inr ⟨rfl, rfl, rfl⟩) (Or.inr ⟨_, rfl⟩) rfl hf18 ?_
  obtain ⟨S20, en21⟩ : ∃ Z : Mem, Z = uR S16 r0 1 (tp S12) := ⟨_, rfl⟩
  rw [← en21]
  have h := h S20 en21
  have hf22 : isK S20 r0 13 := by rw [en21]; exact hf18
  refine V_aload_n (pc2 := 25) (dk D_X13_init 11 rfl) rfl (V_lg 0 rfl) rfl ?_
  refine V_sipush (x := 3000) (pc2 := 28) (dk D_X13_init 12 rfl) (by decide) rfl ?_
  have hd23 : decode MX13_init.2.1 28 = .ok (.newarray .byte, 2) := dk D_X13_init 13 rfl
  refine V_newa20 (n := 3000) (pc2 := 30) hd23 ac_20 rfl (litI 3000) (Nat.le_of_ble_eq_true rfl) ?_
  obtain ⟨S24, en25⟩ : ∃ Z : Mem, Z = nw S20 20 3000 3000 := ⟨_, rfl⟩
  rw [← en25]
  have h := h S24 en25
  have hf26 : isK S24 r0 13 := by rw [en25]; exact isK_nw hf22
  have hf27 : isK S24 (tp S20) 20 := by rw [en25]; exact isK_new
  refine V_putR kc13 (pc2 := 33) 3 (dk D_X13_init 14 rfl) fl_13_20 (by decide) (Or.inr ⟨rfl, rfl, rfl⟩) (Or.inr ⟨_, rfl⟩) rfl hf26 ?_
  obtain ⟨S28, en29⟩ : ∃ Z : Mem, Z = uR S24 r0 3 (tp S20) := ⟨_, rfl⟩
  rw [← en29]
  have h := h S28 en29
  have hf30 : isK S28 r0 13 := by rw [en29]; exact hf26
  refine V_aload_n (pc2 := 34) (dk D_X13_init 15 rfl) rfl (V_lg 0 rfl) rfl ?_
  refine V_sipush (x := 3002) (pc2 := 37) (dk D_X13_init 16 rfl) (by decide) rfl ?_
  have hd31 : decode MX13_init.2.1 37 = .ok (.newarray .int, 2) := dk D_X13_init 17 rfl
  refine V_newa21 (n := 3002) (pc2 := 39) hd31 ac_21 rfl (litI 3002) (Nat.le_of_ble_eq_true rfl) ?_
  obtain ⟨S32, en33⟩ : ∃ Z : Mem, Z = nw S28 21 3002 3002 := ⟨_, rfl⟩
  rw [← en33]
  have h := h S32 en33
  have hf34 : isK S32 r0 13 := by rw [en33]; exact isK_nw hf30
  have hf35 : isK S32 (tp S28) 21 := by rw [en33]; exact isK_new
  refine V_putR kc13 (pc2 := 42) 5 (dk D_X13_init 18 rfl) fl_13_23 (by decide) (Or.inr ⟨rfl, rfl, rfl⟩) (Or.inr ⟨_, rfl⟩) rfl hf34 ?_
  obtain ⟨S36, en37⟩ : ∃ Z : Mem, Z = uR S32 r0 5 (tp S28) := ⟨_, rfl⟩
  rw [← en37]
  have h := h S36 en37
  have hf38 : isK S36 r0 13 := by rw [en37]; exact hf34
  refine V_aload_n (pc2 := 43) (dk D_X13_init 19 rfl) rfl (V_lg 0 rfl) rfl ?_
  refine V_sipush (x := 3002) (pc2 := 46) (dk D_X13_init 20 rfl) (by decide) rfl ?_
  have hd39 : decode MX13_init.2.1 46 = .ok (.newarray .int, 2) := dk D_X13_init 21 rfl
  refine V_newa21 (n := 3002) (pc2 := 48) hd39 ac_21 rfl (litI 3002) (Nat.le_of_ble_eq_true rfl) ?_
  obtain ⟨S40, en41⟩ : ∃ Z : Mem, Z = nw S36 21 3002 3002 := ⟨_, rfl⟩
  rw [← en41]
  have h := h S40 en41
  have hf42 : isK S40 r0 13 := by rw [en41]; exact isK_nw hf38
  have hf43 : isK S40 (tp S36) 21 := by rw [en41]; exact isK_new
  refine V_putR kc13 (pc2 := 51) 6 (dk D_X13_init 22 rfl) fl_13_27 (by decide) (Or.inr ⟨rfl, rfl, rfl⟩) (Or.inr ⟨_, rfl⟩) rfl hf42 ?_
  obtain ⟨S44, en45⟩ : ∃ Z : Mem, Z = uR S40 r0 6 (tp S36) := ⟨_, rfl⟩
  rw [← en45]
  have h := h S44 en45
  have hf46 : isK S44 r0 13 := by rw [en45]; exact hf42
  refine V_aload_n (pc2 := 52) (dk D_X13_init 23 rfl) rfl (V_lg 0 rfl) rfl ?_
  refine V_sipush (x := 3002) (pc2 := 55) (dk D_X13_init 24 rfl) (by decide) rfl ?_
  have hd47 : decode MX13_init.2.1 55 = .ok (.newarray .int, 2) := dk D_X13_init 25 rfl
  refine V_newa21 (n := 3002) (pc2 := 57) hd47 ac_21 rfl (litI 3002) (Nat.le_of_ble_eq_true rfl) ?_
  obtain ⟨S48, en49⟩ : ∃ Z : Mem, Z = nw S44 21 3002 3002 := ⟨_, rfl⟩
  rw [← en49]
  have h := h S48 en49
  have hf50 : isK S48 r0 13 := by rw [en49]; exact isK_nw hf46
  have hf51 : isK S48 (tp S44) 21 := by rw [en49]; exact isK_new
  refine V_putR kc13 (pc2 := 60) 7 (dk D_X13_init 26 rfl) fl_13_30 (by decide) (Or.inr ⟨rfl, rfl, rfl⟩) (Or.inr ⟨_, rfl⟩) rfl hf50 ?_
  obtain ⟨S52, en53⟩ : ∃ Z : Mem, Z = uR S48 r0 7 (tp S44) := ⟨_, rfl⟩
  rw [← en53]
  have h := h S52 en53
  have hf54 : isK S52 r0 13 := by rw [en53]; exact hf50
  refine V_aload_n (pc2 := 61) (dk D_X13_init 27 rfl) rfl (V_lg 0 rfl) rfl ?_
  refine V_sipush (x := 3002) (pc2 := 64) (dk D_X13_init 28 rfl) (by decide) rfl ?_
  have hd55 : decode MX13_init.2.1 64 = .ok (.newarray .int, 2) := dk D_X13_init 29 rfl
  refine V_newa21 (n := 3002) (pc2 := 66) hd55 ac_21 rfl (litI 3002) (Nat.le_of_ble_eq_true rfl) ?_
  obtain ⟨S56, en57⟩ : ∃ Z : Mem, Z = nw S52 21 3002 3002 := ⟨_, rfl⟩
  rw [← en57]
  have h := h S56 en57
  have hf58 : isK S56 r0 13 := by rw [en57]; exact isK_nw hf54
  have hf59 : isK S56 (tp S52) 21 := by rw [en57]; exact isK_new
  refine V_putR kc13 (pc2 := 69) 8 (dk D_X13_init 30 rfl) fl_13_33 (by decide) (Or.inr ⟨rfl, rfl, rfl⟩) (Or.inr ⟨_, rfl⟩) rfl hf58 ?_
  obtain ⟨S60, en61⟩ : ∃ Z : Mem, Z = uR S56 r0 8 (tp S52) := ⟨_, rfl⟩
  rw [← en61]
  have h := h S60 en61
  have hf62 : isK S60 r0 13 := by rw [en61]; exact hf58
  refine V_aload_n (pc2 := 70) (dk D_X13_init 31 rfl) rfl (V_lg 0 rfl) rfl ?_
  refine V_sipush (x := 3002) (pc2 := 73) (dk D_X13_init 32 rfl) (by decide) rfl ?_
  have hd63 : decode MX13_init.2.1 73 = .ok (.newarray .long, 2) := dk D_X13_init 33 rfl
  refine V_newa22 (n := 3002) (pc2 := 75) hd63 ac_22 rfl (litI 3002) (Nat.le_of_ble_eq_true rfl) ?_
  obtain ⟨S64, en65⟩ : ∃ Z : Mem, Z = nw S60 22 3002 3002 := ⟨_, rfl⟩
  rw [← en65]
  have h := h S64 en65
  have hf66 : isK S64 r0 13 := by rw [en65]; exact isK_nw hf62
  have hf67 : isK S64 (tp S60) 22 := by rw [en65]; exact isK_new
  refine V_putR kc13 (pc2 := 78) 9 (dk D_X13_init 34 rfl) fl_13_36 (by decide) (Or.inr ⟨rfl, rfl, rfl⟩) (Or.inr ⟨_, rfl⟩) rfl hf66 ?_
  obtain ⟨S68, en69⟩ : ∃ Z : Mem, Z = uR S64 r0 9 (tp S60) := ⟨_, rfl⟩
  rw [← en69]
  have h := h S68 en69
  have hf70 : isK S68 r0 13 := by rw [en69]; exact hf66
  refine V_aload_n (pc2 := 79) (dk D_X13_init 35 rfl) rfl (V_lg 0 rfl) rfl ?_
  refine V_bipush (x := 23) (pc2 := 81) (dk D_X13_init 36 rfl) (by decide) rfl ?_
  refine V_anewO (M := MX13_init) (k := 27) (t0 := 7) (n := 23) (pc2 := 84) (by decide) (by decide) rfl rfl (dk D_X13_init 37 rfl) cl_13_40 ao_27 rfl (litI 23) (Nat.le_of_ble_eq_true rfl) ?_
  obtain ⟨S71, en72⟩ : ∃ Z : Mem, Z = nw S68 27 23 23 := ⟨_, rfl⟩
  rw [← en72]
  have h := h S71 en72
  have hf73 : isK S71 r0 13 := by rw [en72]; exact isK_nw hf70
  have hf74 : isK S71 (tp S68) 27 := by rw [en72]; exact isK_new
  refine V_dup (pc2 := 85) (dk D_X13_init 38 rfl) rfl rfl ?_
  refine V_iconst (x := 0) (pc2 := 86) (dk D_X13_init 39 rfl) (by decide) rfl ?_
  refine V_ldcs 2 (pc2 := 88) (dk D_X13_init 40 rfl) rfl rfl ?_
  obtain ⟨h75, h⟩ := h
  refine V_aast27 (pc2 := 89) (dk D_X13_init 41 rfl) rfl hf74 h75 (by decide) (by decide) ?_
  obtain ⟨S76, en77⟩ : ∃ Z : Mem, Z = uR S71 (tp S68) ((0 : Int32).toNatClampNeg) 4 := ⟨_, rfl⟩
  rw [← en77]
  have h := h S76 en77
  have hf78 : isK S76 r0 13 := by rw [en77]; exact hf73
  have hf79 : isK S76 (tp S68) 27 := by rw [en77]; exact hf74
  refine V_dup (pc2 := 90) (dk D_X13_init 42 rfl) rfl rfl ?_
  refine V_iconst (x := 1) (pc2 := 91) (dk D_X13_init 43 rfl) (by decide) rfl ?_
  refine V_ldcs 3 (pc2 := 93) (dk D_X13_init 44 rfl) rfl rfl ?_
  obtain ⟨h80, h⟩ := h
  refine V_aast27 (pc2 := 94) (dk D_X13_init 45 rfl) rfl hf79 h80 (by decide) (by decide) ?_
  obtain ⟨S81, en82⟩ : ∃ Z : Mem, Z = uR S76 (tp S68) ((1 : Int32).toNatClampNeg) 5 := ⟨_, rfl⟩
  rw [← en82]
  have h := h S81 en82
  have hf83 : isK S81 r0 13 := by rw [en82]; exact hf78
  have hf84 : isK S81 (tp S68) 27 := by rw [en82]; exact hf79
  refine V_dup (pc2 := 95) (dk D_X13_init 46 rfl) rfl rfl ?_
  refine V_iconst (x := 2) (pc2 := 96) (dk D_X13_init 47 rfl) (by decide) rfl ?_
  refine V_ldcs 4 (pc2 := 98) (dk D_X13_init 48 rfl) rfl rfl ?_
  obtain ⟨h85, h⟩ := h
  refine V_aast27 (pc2 := 99) (dk D_X13_init 49 rfl) rfl hf84 h85 (by decide) (by decide) ?_
  obtain ⟨S86, en87⟩ : ∃ Z : Mem, Z = uR S81 (tp S68) ((2 : Int32).toNatClampNeg) 6 := ⟨_, rfl⟩
  rw [← en87]
  have h := h S86 en87
  have hf88 : isK S86 r0 13 := by rw [en87]; exact hf83
  have hf89 : isK S86 (tp S68) 27 := by rw [en87]; exact hf84
  refine V_dup (pc2 := 100) (dk D_X13_init 50 rfl) rfl rfl ?_
  refine V_iconst (x := 3) (pc2 := 101) (dk D_X13_init 51 rfl) (by decide) rfl ?_
  refine V_ldcs 5 (pc2 := 103) (dk D_X13_init 52 rfl) rfl rfl ?_
  obtain ⟨h90, h⟩ := h
  refine V_aast27 (pc2 := 104) (dk D_X13_init 53 rfl) rfl hf89 h90 (by decide) (by decide) ?_
  obtain ⟨S91, en92⟩ : ∃ Z : Mem, Z = uR S86 (tp S68) ((3 : Int32).toNatClampNeg) 7 := ⟨_, rfl⟩
  rw [← en92]
  have h := h S91 en92
  have hf93 : isK S91 r0 13 := by rw [en92]; exact hf88
  have hf94 : isK S91 (tp S68) 27 := by rw [en92]; exact hf89
  refine V_dup (pc2 := 105) (dk D_X13_init 54 rfl) rfl rfl ?_
  refine V_iconst (x := 4) (pc2 := 106) (dk D_X13_init 55 rfl) (by decide) rfl ?_
  refine V_ldcs 6 (pc2 := 108) (dk D_X13_init 56 rfl) rfl rfl ?_
  obtain ⟨h95, h⟩ := h
  refine V_aast27 (pc2 := 109) (dk D_X13_init 57 rfl) rfl hf94 h95 (by decide) (by decide) ?_
  obtain ⟨S96, en97⟩ : ∃ Z : Mem, Z = uR S91 (tp S68) ((4 : Int32).toNatClampNeg) 8 := ⟨_, rfl⟩
  rw [← en97]
  have h := h S96 en97
  have hf98 : isK S96 r0 13 := by rw [en97]; exact hf93
  have hf99 : isK S96 (tp S68) 27 := by rw [en97]; exact hf94
  refine V_dup (pc2 := 110) (dk D_X13_init 58 rfl) rfl rfl ?_
  refine V_iconst (x := 5) (pc2 := 111) (dk D_X13_init 59 rfl) (by decide) rfl ?_
  refine V_ldcs 7 (pc2 := 113) (dk D_X13_init 60 rfl) rfl rfl ?_
  obtain ⟨h100, h⟩ := h
  refine V_aast27 (pc2 := 114) (dk D_X13_init 61 rfl) rfl hf99 h100 (by decide) (by decide) ?_
  obtain ⟨S101, en102⟩ : ∃ Z : Mem, Z = uR S96 (tp S68) ((5 : Int32).toNatClampNeg) 9 := ⟨_, rfl⟩
  rw [← en102]
  have h := h S101 en102
  have hf103 : isK S101 r0 13 := by rw [en102]; exact hf98
  have hf104 : isK S101 (tp S68) 27 := by rw [en102]; exact hf99
  refine V_dup (pc2 := 115) (dk D_X13_init 62 rfl) rfl rfl ?_
  refine V_bipush (x := 6) (pc2 := 117) (dk D_X13_init 63 rfl) (by decide) rfl ?_
  refine V_ldcs 8 (pc2 := 119) (dk D_X13_init 64 rfl) rfl rfl ?_
  obtain ⟨h105, h⟩ := h
  refine V_aast27 (pc2 := 120) (dk D_X13_init 65 rfl) rfl hf104 h105 (by decide) (by decide) ?_
  obtain ⟨S106, en107⟩ : ∃ Z : Mem, Z = uR S101 (tp S68) ((6 : Int32).toNatClampNeg) 10 := ⟨_, rfl⟩
  rw [← en107]
  have h := h S106 en107
  have hf108 : isK S106 r0 13 := by rw [en107]; exact hf103
  have hf109 : isK S106 (tp S68) 27 := by rw [en107]; exact hf104
  refine V_dup (pc2 := 121) (dk D_X13_init 66 rfl) rfl rfl ?_
  refine V_bipush (x := 7) (pc2 := 123) (dk D_X13_init 67 rfl) (by decide) rfl ?_
  refine V_ldcs 9 (pc2 := 125) (dk D_X13_init 68 rfl) rfl rfl ?_
  obtain ⟨h110, h⟩ := h
  refine V_aast27 (pc2 := 126) (dk D_X13_init 69 rfl) rfl hf109 h110 (by decide) (by decide) ?_
  obtain ⟨S111, en112⟩ : ∃ Z : Mem, Z = uR S106 (tp S68) ((7 : Int32).toNatClampNeg) 11 := ⟨_, rfl⟩
  rw [← en112]
  have h := h S111 en112
  have hf113 : isK S111 r0 13 := by rw [en112]; exact hf108
  have hf114 : isK S111 (tp S68) 27 := by rw [en112]; exact hf109
  refine V_dup (pc2 := 127) (dk D_X13_init 70 rfl) rfl rfl ?_
  refine V_bipush (x := 8) (pc2 := 129) (dk D_X13_init 71 rfl) (by decide) rfl ?_
  refine V_ldcs 10 (pc2 := 131) (dk D_X13_init 72 rfl) rfl rfl ?_
  obtain ⟨h115, h⟩ := h
  refine V_aast27 (pc2 := 132) (dk D_X13_init 73 rfl) rfl hf114 h115 (by decide) (by decide) ?_
  obtain ⟨S116, en117⟩ : ∃ Z : Mem, Z = uR S111 (tp S68) ((8 : Int32).toNatClampNeg) 12 := ⟨_, rfl⟩
  rw [← en117]
  have h := h S116 en117
  have hf118 : isK S116 r0 13 := by rw [en117]; exact hf113
  have hf119 : isK S116 (tp S68) 27 := by rw [en117]; exact hf114
  refine V_dup (pc2 := 133) (dk D_X13_init 74 rfl) rfl rfl ?_
  refine V_bipush (x := 9) (pc2 := 135) (dk D_X13_init 75 rfl) (by decide) rfl ?_
  refine V_ldcs 11 (pc2 := 137) (dk D_X13_init 76 rfl) rfl rfl ?_
  obtain ⟨h120, h⟩ := h
  refine V_aast27 (pc2 := 138) (dk D_X13_init 77 rfl) rfl hf119 h120 (by decide) (by decide) ?_
  obtain ⟨S121, en122⟩ : ∃ Z : Mem, Z = uR S116 (tp S68) ((9 : Int32).toNatClampNeg) 13 := ⟨_, rfl⟩
  rw [← en122]
  have h := h S121 en122
  have hf123 : isK S121 r0 13 := by rw [en122]; exact hf118
  have hf124 : isK S121 (tp S68) 27 := by rw [en122]; exact hf119
  refine V_dup (pc2 := 139) (dk D_X13_init 78 rfl) rfl rfl ?_
  refine V_bipush (x := 10) (pc2 := 141) (dk D_X13_init 79 rfl) (by decide) rfl ?_
  refine V_ldcs 12 (pc2 := 143) (dk D_X13_init 80 rfl) rfl rfl ?_
  obtain ⟨h125, h⟩ := h
  refine V_aast27 (pc2 := 144) (dk D_X13_init 81 rfl) rfl hf124 h125 (by decide) (by decide) ?_
  obtain ⟨S126, en127⟩ : ∃ Z : Mem, Z = uR S121 (tp S68) ((10 : Int32).toNatClampNeg) 14 := ⟨_, rfl⟩
  rw [← en127]
  have h := h S126 en127
  have hf128 : isK S126 r0 13 := by rw [en127]; exact hf123
  have hf129 : isK S126 (tp S68) 27 := by rw [en127]; exact hf124
  refine V_dup (pc2 := 145) (dk D_X13_init 82 rfl) rfl rfl ?_
  refine V_bipush (x := 11) (pc2 := 147) (dk D_X13_init 83 rfl) (by decide) rfl ?_
  refine V_ldcs 13 (pc2 := 149) (dk D_X13_init 84 rfl) rfl rfl ?_
  obtain ⟨h130, h⟩ := h
  refine V_aast27 (pc2 := 150) (dk D_X13_init 85 rfl) rfl hf129 h130 (by decide) (by decide) ?_
  obtain ⟨S131, en132⟩ : ∃ Z : Mem, Z = uR S126 (tp S68) ((11 : Int32).toNatClampNeg) 15 := ⟨_, rfl⟩
  rw [← en132]
  have h := h S131 en132
  have hf133 : isK S131 r0 13 := by rw [en132]; exact hf128
  have hf134 : isK S131 (tp S68) 27 := by rw [en132]; exact hf129
  refine V_dup (pc2 := 151) (dk D_X13_init 86 rfl) rfl rfl ?_
  refine V_bipush (x := 12) (pc2 := 153) (dk D_X13_init 87 rfl) (by decide) rfl ?_
  refine V_ldcs 14 (pc2 := 155) (dk D_X13_init 88 rfl) rfl rfl ?_
  obtain ⟨h135, h⟩ := h
  refine V_aast27 (pc2 := 156) (dk D_X13_init 89 rfl) rfl hf134 h135 (by decide) (by decide) ?_
  obtain ⟨S136, en137⟩ : ∃ Z : Mem, Z = uR S131 (tp S68) ((12 : Int32).toNatClampNeg) 16 := ⟨_, rfl⟩
  rw [← en137]
  have h := h S136 en137
  have hf138 : isK S136 r0 13 := by rw [en137]; exact hf133
  have hf139 : isK S136 (tp S68) 27 := by rw [en137]; exact hf134
  refine V_dup (pc2 := 157) (dk D_X13_init 90 rfl) rfl rfl ?_
  refine V_bipush (x := 13) (pc2 := 159) (dk D_X13_init 91 rfl) (by decide) rfl ?_
  refine V_ldcs 15 (pc2 := 161) (dk D_X13_init 92 rfl) rfl rfl ?_
  obtain ⟨h140, h⟩ := h
  refine V_aast27 (pc2 := 162) (dk D_X13_init 93 rfl) rfl hf139 h140 (by decide) (by decide) ?_
  obtain ⟨S141, en142⟩ : ∃ Z : Mem, Z = uR S136 (tp S68) ((13 : Int32).toNatClampNeg) 17 := ⟨_, rfl⟩
  rw [← en142]
  have h := h S141 en142
  have hf143 : isK S141 r0 13 := by rw [en142]; exact hf138
  have hf144 : isK S141 (tp S68) 27 := by rw [en142]; exact hf139
  refine V_dup (pc2 := 163) (dk D_X13_init 94 rfl) rfl rfl ?_
  refine V_bipush (x := 14) (pc2 := 165) (dk D_X13_init 95 rfl) (by decide) rfl ?_
  refine V_ldcs 16 (pc2 := 167) (dk D_X13_init 96 rfl) rfl rfl ?_
  obtain ⟨h145, h⟩ := h
  refine V_aast27 (pc2 := 168) (dk D_X13_init 97 rfl) rfl hf144 h145 (by decide) (by decide) ?_
  obtain ⟨S146, en147⟩ : ∃ Z : Mem, Z = uR S141 (tp S68) ((14 : Int32).toNatClampNeg) 18 := ⟨_, rfl⟩
  rw [← en147]
  have h := h S146 en147
  have hf148 : isK S146 r0 13 := by rw [en147]; exact hf143
  have hf149 : isK S146 (tp S68) 27 := by rw [en147]; exact hf144
  refine V_dup (pc2 := 169) (dk D_X13_init 98 rfl) rfl rfl ?_
  refine V_bipush (x := 15) (pc2 := 171) (dk D_X13_init 99 rfl) (by decide) rfl ?_
  refine V_ldcs 17 (pc2 := 173) (dk D_X13_init 100 rfl) rfl rfl ?_
  obtain ⟨h150, h⟩ := h
  refine V_aast27 (pc2 := 174) (dk D_X13_init 101 rfl) rfl hf149 h150 (by decide) (by decide) ?_
  obtain ⟨S151, en152⟩ : ∃ Z : Mem, Z = uR S146 (tp S68) ((15 : Int32).toNatClampNeg) 19 := ⟨_, rfl⟩
  rw [← en152]
  have h := h S151 en152
  have hf153 : isK S151 r0 13 := by rw [en152]; exact hf148
  have hf154 : isK S151 (tp S68) 27 := by rw [en152]; exact hf149
  refine V_dup (pc2 := 175) (dk D_X13_init 102 rfl) rfl rfl ?_
  refine V_bipush (x := 16) (pc2 := 177) (dk D_X13_init 103 rfl) (by decide) rfl ?_
  refine V_ldcs 18 (pc2 := 179) (dk D_X13_init 104 rfl) rfl rfl ?_
  obtain ⟨h155, h⟩ := h
  refine V_aast27 (pc2 := 180) (dk D_X13_init 105 rfl) rfl hf154 h155 (by decide) (by decide) ?_
  obtain ⟨S156, en157⟩ : ∃ Z : Mem, Z = uR S151 (tp S68) ((16 : Int32).toNatClampNeg) 20 := ⟨_, rfl⟩
  rw [← en157]
  have h := h S156 en157
  have hf158 : isK S156 r0 13 := by rw [en157]; exact hf153
  have hf159 : isK S156 (tp S68) 27 := by rw [en157]; exact hf154
  refine V_dup (pc2 := 181) (dk D_X13_init 106 rfl) rfl rfl ?_
  refine V_bipush (x := 17) (pc2 := 183) (dk D_X13_init 107 rfl) (by decide) rfl ?_
  refine V_ldcs 19 (pc2 := 185) (dk D_X13_init 108 rfl) rfl rfl ?_
  obtain ⟨h160, h⟩ := h
  refine V_aast27 (pc2 := 186) (dk D_X13_init 109 rfl) rfl hf159 h160 (by decide) (by decide) ?_
  obtain ⟨S161, en162⟩ : ∃ Z : Mem, Z = uR S156 (tp S68) ((17 : Int32).toNatClampNeg) 21 := ⟨_, rfl⟩
  rw [← en162]
  have h := h S161 en162
  have hf163 : isK S161 r0 13 := by rw [en162]; exact hf158
  have hf164 : isK S161 (tp S68) 27 := by rw [en162]; exact hf159
  refine V_dup (pc2 := 187) (dk D_X13_init 110 rfl) rfl rfl ?_
  refine V_bipush (x := 18) (pc2 := 189) (dk D_X13_init 111 rfl) (by decide) rfl ?_
  refine V_ldcs 20 (pc2 := 191) (dk D_X13_init 112 rfl) rfl rfl ?_
  obtain ⟨h165, h⟩ := h
  refine V_aast27 (pc2 := 192) (dk D_X13_init 113 rfl) rfl hf164 h165 (by decide) (by decide) ?_
  obtain ⟨S166, en167⟩ : ∃ Z : Mem, Z = uR S161 (tp S68) ((18 : Int32).toNatClampNeg) 22 := ⟨_, rfl⟩
  rw [← en167]
  have h := h S166 en167
  have hf168 : isK S166 r0 13 := by rw [en167]; exact hf163
  have hf169 : isK S166 (tp S68) 27 := by rw [en167]; exact hf164
  refine V_dup (pc2 := 193) (dk D_X13_init 114 rfl) rfl rfl ?_
  refine V_bipush (x := 19) (pc2 := 195) (dk D_X13_init 115 rfl) (by decide) rfl ?_
  refine V_ldcs 21 (pc2 := 197) (dk D_X13_init 116 rfl) rfl rfl ?_
  obtain ⟨h170, h⟩ := h
  refine V_aast27 (pc2 := 198) (dk D_X13_init 117 rfl) rfl hf169 h170 (by decide) (by decide) ?_
  obtain ⟨S171, en172⟩ : ∃ Z : Mem, Z = uR S166 (tp S68) ((19 : Int32).toNatClampNeg) 23 := ⟨_, rfl⟩
  rw [← en172]
  have h := h S171 en172
  have hf173 : isK S171 r0 13 := by rw [en172]; exact hf168
  have hf174 : isK S171 (tp S68) 27 := by rw [en172]; exact hf169
  refine V_dup (pc2 := 199) (dk D_X13_init 118 rfl) rfl rfl ?_
  refine V_bipush (x := 20) (pc2 := 201) (dk D_X13_init 119 rfl) (by decide) rfl ?_
  refine V_ldcs 22 (pc2 := 203) (dk D_X13_init 120 rfl) rfl rfl ?_
  obtain ⟨h175, h⟩ := h
  refine V_aast27 (pc2 := 204) (dk D_X13_init 121 rfl) rfl hf174 h175 (by decide) (by decide) ?_
  obtain ⟨S176, en177⟩ : ∃ Z : Mem, Z = uR S171 (tp S68) ((20 : Int32).toNatClampNeg) 24 := ⟨_, rfl⟩
  rw [← en177]
  have h := h S176 en177
  have hf178 : isK S176 r0 13 := by rw [en177]; exact hf173
  have hf179 : isK S176 (tp S68) 27 := by rw [en177]; exact hf174
  refine V_dup (pc2 := 205) (dk D_X13_init 122 rfl) rfl rfl ?_
  refine V_bipush (x := 21) (pc2 := 207) (dk D_X13_init 123 rfl) (by decide) rfl ?_
  refine V_ldcs 23 (pc2 := 209) (dk D_X13_init 124 rfl) rfl rfl ?_
  obtain ⟨h180, h⟩ := h
  refine V_aast27 (pc2 := 210) (dk D_X13_init 125 rfl) rfl hf179 h180 (by decide) (by decide) ?_
  obtain ⟨S181, en182⟩ : ∃ Z : Mem, Z = uR S176 (tp S68) ((21 : Int32).toNatClampNeg) 25 := ⟨_, rfl⟩
  rw [← en182]
  have h := h S181 en182
  have hf183 : isK S181 r0 13 := by rw [en182]; exact hf178
  have hf184 : isK S181 (tp S68) 27 := by rw [en182]; exact hf179
  refine V_dup (pc2 := 211) (dk D_X13_init 126 rfl) rfl rfl ?_
  refine V_bipush (x := 22) (pc2 := 213) (dk D_X13_init 127 rfl) (by decide) rfl ?_
  refine V_ldcs 24 (pc2 := 215) (dk D_X13_init 128 rfl) rfl rfl ?_
  obtain ⟨h185, h⟩ := h
  refine V_aast27 (pc2 := 216) (dk D_X13_init 129 rfl) rfl hf184 h185 (by decide) (by decide) ?_
  obtain ⟨S186, en187⟩ : ∃ Z : Mem, Z = uR S181 (tp S68) ((22 : Int32).toNatClampNeg) 26 := ⟨_, rfl⟩
  rw [← en187]
  have h := h S186 en187
  have hf188 : isK S186 r0 13 := by rw [en187]; exact hf183
  have hf189 : isK S186 (tp S68) 27 := by rw [en187]; exact hf184
  refine V_putR kc13 (pc2 := 219) 11 (dk D_X13_init 130 rfl) fl_13_88 (by decide) (Or.inr ⟨rfl, rfl, rfl⟩) (Or.inr ⟨_, rfl⟩) rfl hf188 ?_
  obtain ⟨S190, en191⟩ : ∃ Z : Mem, Z = uR S186 r0 11 (tp S68) := ⟨_, rfl⟩
  rw [← en191]
  have h := h S190 en191
  have hf192 : isK S190 r0 13 := by rw [en191]; exact hf188
  refine V_aload_n (pc2 := 220) (dk D_X13_init 131 rfl) rfl (V_lg 0 rfl) rfl ?_
  refine V_sipush (x := 12000) (pc2 := 223) (dk D_X13_init 132 rfl) (by decide) rfl ?_
  have hd193 : decode MX13_init.2.1 223 = .ok (.newarray .int, 2) := dk D_X13_init 133 rfl
  refine V_newa21 (n := 12000) (pc2 := 225) hd193 ac_21 rfl (litI 12000) (Nat.le_of_ble_eq_true rfl) ?_
  obtain ⟨S194, en195⟩ : ∃ Z : Mem, Z = nw S190 21 12000 12000 := ⟨_, rfl⟩
  rw [← en195]
  have h := h S194 en195
  have hf196 : isK S194 r0 13 := by rw [en195]; exact isK_nw hf192
  have hf197 : isK S194 (tp S190) 21 := by rw [en195]; exact isK_new
  refine V_putR kc13 (pc2 := 228) 13 (dk D_X13_init 134 rfl) fl_13_92 (by decide) (Or.inr ⟨rfl, rfl, rfl⟩) (Or.inr ⟨_, rfl⟩) rfl hf196 ?_
  obtain ⟨S198, en199⟩ : ∃ Z : Mem, Z = uR S194 r0 13 (tp S190) := ⟨_, rfl⟩
  rw [← en199]
  have h := h S198 en199
  have hf200 : isK S198 r0 13 := by rw [en199]; exact hf196
  refine V_aload_n (pc2 := 229) (dk D_X13_init 135 rfl) rfl (V_lg 0 rfl) rfl ?_
  refine V_sipush (x := 12000) (pc2 := 232) (dk D_X13_init 136 rfl) (by decide) rfl ?_
  have hd201 : decode MX13_init.2.1 232 = .ok (.newarray .int, 2) := dk D_X13_init 137 rfl
  refine V_newa21 (n := 12000) (pc2 := 234) hd201 ac_21 rfl (litI 12000) (Nat.le_of_ble_eq_true rfl) ?_
  obtain ⟨S202, en203⟩ : ∃ Z : Mem, Z = nw S198 21 12000 12000 := ⟨_, rfl⟩
  rw [← en203]
  have h := h S202 en203
  have hf204 : isK S202 r0 13 := by rw [en203]; exact isK_nw hf200
  have hf205 : isK S202 (tp S198) 21 := by rw [en203]; exact isK_new
  refine V_putR kc13 (pc2 := 237) 14 (dk D_X13_init 138 rfl) fl_13_95 (by decide) (Or.inr ⟨rfl, rfl, rfl⟩) (Or.inr ⟨_, rfl⟩) rfl hf204 ?_
  obtain ⟨S206, en207⟩ : ∃ Z : Mem, Z = uR S202 r0 14 (tp S198) := ⟨_, rfl⟩
  rw [← en207]
  have h := h S206 en207
  have hf208 : isK S206 r0 13 := by rw [en207]; exact hf204
  refine V_aload_n (pc2 := 238) (dk D_X13_init 139 rfl) rfl (V_lg 0 rfl) rfl ?_
  refine V_sipush (x := 12000) (pc2 := 241) (dk D_X13_init 140 rfl) (by decide) rfl ?_
  have hd209 : decode MX13_init.2.1 241 = .ok (.newarray .int, 2) := dk D_X13_init 141 rfl
  refine V_newa21 (n := 12000) (pc2 := 243) hd209 ac_21 rfl (litI 12000) (Nat.le_of_ble_eq_true rfl) ?_
  obtain ⟨S210, en211⟩ : ∃ Z : Mem, Z = nw S206 21 12000 12000 := ⟨_, rfl⟩
  rw [← en211]
  have h := h S210 en211
  have hf212 : isK S210 r0 13 := by rw [en211]; exact isK_nw hf208
  have hf213 : isK S210 (tp S206) 21 := by rw [en211]; exact isK_new
  refine V_putR kc13 (pc2 := 246) 15 (dk D_X13_init 142 rfl) fl_13_98 (by decide) (Or.inr ⟨rfl, rfl, rfl⟩) (Or.inr ⟨_, rfl⟩) rfl hf212 ?_
  obtain ⟨S214, en215⟩ : ∃ Z : Mem, Z = uR S210 r0 15 (tp S206) := ⟨_, rfl⟩
  rw [← en215]
  have h := h S214 en215
  have hf216 : isK S214 r0 13 := by rw [en215]; exact hf212
  refine V_aload_n (pc2 := 247) (dk D_X13_init 143 rfl) rfl (V_lg 0 rfl) rfl ?_
  refine V_sipush (x := 12000) (pc2 := 250) (dk D_X13_init 144 rfl) (by decide) rfl ?_
  have hd217 : decode MX13_init.2.1 250 = .ok (.newarray .int, 2) := dk D_X13_init 145 rfl
  refine V_newa21 (n := 12000) (pc2 := 252) hd217 ac_21 rfl (litI 12000) (Nat.le_of_ble_eq_true rfl) ?_
  obtain ⟨S218, en219⟩ : ∃ Z : Mem, Z = nw S214 21 12000 12000 := ⟨_, rfl⟩
  rw [← en219]
  have h := h S218 en219
  have hf220 : isK S218 r0 13 := by rw [en219]; exact isK_nw hf216
  have hf221 : isK S218 (tp S214) 21 := by rw [en219]; exact isK_new
  refine V_putR kc13 (pc2 := 255) 16 (dk D_X13_init 146 rfl) fl_13_101 (by decide) (Or.inr ⟨rfl, rfl, rfl⟩) (Or.inr ⟨_, rfl⟩) rfl hf220 ?_
  obtain ⟨S222, en223⟩ : ∃ Z : Mem, Z = uR S218 r0 16 (tp S214) := ⟨_, rfl⟩
  rw [← en223]
  have h := h S222 en223
  have hf224 : isK S222 r0 13 := by rw [en223]; exact hf220
  refine V_aload_n (pc2 := 256) (dk D_X13_init 147 rfl) rfl (V_lg 0 rfl) rfl ?_
  refine V_bipush (x := 12) (pc2 := 258) (dk D_X13_init 148 rfl) (by decide) rfl ?_
  have hd225 : decode MX13_init.2.1 258 = .ok (.newarray .int, 2) := dk D_X13_init 149 rfl
  refine V_newa21 (n := 12) (pc2 := 260) hd225 ac_21 rfl (litI 12) (Nat.le_of_ble_eq_true rfl) ?_
  obtain ⟨S226, en227⟩ : ∃ Z : Mem, Z = nw S222 21 12 12 := ⟨_, rfl⟩
  rw [← en227]
  have h := h S226 en227
  have hf228 : isK S226 r0 13 := by rw [en227]; exact isK_nw hf224
  have hf229 : isK S226 (tp S222) 21 := by rw [en227]; exact isK_new
  refine V_putR kc13 (pc2 := 263) 19 (dk D_X13_init 150 rfl) fl_13_104 (by decide) (Or.inr ⟨rfl, rfl, rfl⟩) (Or.inr ⟨_, rfl⟩) rfl hf228 ?_
  obtain ⟨S230, en231⟩ : ∃ Z : Mem, Z = uR S226 r0 19 (tp S222) := ⟨_, rfl⟩
  rw [← en231]
  have h := h S230 en231
  have hf232 : isK S230 r0 13 := by rw [en231]; exact hf228
  refine V_aload_n (pc2 := 264) (dk D_X13_init 151 rfl) rfl (V_lg 0 rfl) rfl ?_
  refine V_bipush (x := 12) (pc2 := 266) (dk D_X13_init 152 rfl) (by decide) rfl ?_
  have hd233 : decode MX13_init.2.1 266 = .ok (.newarray .int, 2) := dk D_X13_init 153 rfl
  refine V_newa21 (n := 12) (pc2 := 268) hd233 ac_21 rfl (litI 12) (Nat.le_of_ble_eq_true rfl) ?_
  obtain ⟨S234, en235⟩ : ∃ Z : Mem, Z = nw S230 21 12 12 := ⟨_, rfl⟩
  rw [← en235]
  have h := h S234 en235
  have hf236 : isK S234 r0 13 := by rw [en235]; exact isK_nw hf232
  have hf237 : isK S234 (tp S230) 21 := by rw [en235]; exact isK_new
  refine V_putR kc13 (pc2 := 271) 20 (dk D_X13_init 154 rfl) fl_13_107 (by decide) (Or.inr ⟨rfl, rfl, rfl⟩) (Or.inr ⟨_, rfl⟩) rfl hf236 ?_
  obtain ⟨S238, en239⟩ : ∃ Z : Mem, Z = uR S234 r0 20 (tp S230) := ⟨_, rfl⟩
  rw [← en239]
  have h := h S238 en239
  have hf240 : isK S238 r0 13 := by rw [en239]; exact hf236
  refine V_aload_n (pc2 := 272) (dk D_X13_init 155 rfl) rfl (V_lg 0 rfl) rfl ?_
  refine V_bipush (x := 12) (pc2 := 274) (dk D_X13_init 156 rfl) (by decide) rfl ?_
  have hd241 : decode MX13_init.2.1 274 = .ok (.newarray .int, 2) := dk D_X13_init 157 rfl
  refine V_newa21 (n := 12) (pc2 := 276) hd241 ac_21 rfl (litI 12) (Nat.le_of_ble_eq_true rfl) ?_
  obtain ⟨S242, en243⟩ : ∃ Z : Mem, Z = nw S238 21 12 12 := ⟨_, rfl⟩
  rw [← en243]
  have h := h S242 en243
  have hf244 : isK S242 r0 13 := by rw [en243]; exact isK_nw hf240
  have hf245 : isK S242 (tp S238) 21 := by rw [en243]; exact isK_new
  refine V_putR kc13 (pc2 := 279) 21 (dk D_X13_init 158 rfl) fl_13_110 (by decide) (Or.inr ⟨rfl, rfl, rfl⟩) (Or.inr ⟨_, rfl⟩) rfl hf244 ?_
  obtain ⟨S246, en247⟩ : ∃ Z : Mem, Z = uR S242 r0 21 (tp S238) := ⟨_, rfl⟩
  rw [← en247]
  have h := h S246 en247
  have hf248 : isK S246 r0 13 := by rw [en247]; exact hf244
  refine V_aload_n (pc2 := 280) (dk D_X13_init 159 rfl) rfl (V_lg 0 rfl) rfl ?_
  refine V_bipush (x := 12) (pc2 := 282) (dk D_X13_init 160 rfl) (by decide) rfl ?_
  have hd249 : decode MX13_init.2.1 282 = .ok (.newarray .int, 2) := dk D_X13_init 161 rfl
  refine V_newa21 (n := 12) (pc2 := 284) hd249 ac_21 rfl (litI 12) (Nat.le_of_ble_eq_true rfl) ?_
  obtain ⟨S250, en251⟩ : ∃ Z : Mem, Z = nw S246 21 12 12 := ⟨_, rfl⟩
  rw [← en251]
  have h := h S250 en251
  have hf252 : isK S250 r0 13 := by rw [en251]; exact isK_nw hf248
  have hf253 : isK S250 (tp S246) 21 := by rw [en251]; exact isK_new
  refine V_putR kc13 (pc2 := 287) 22 (dk D_X13_init 162 rfl) fl_13_113 (by decide) (Or.inr ⟨rfl, rfl, rfl⟩) (Or.inr ⟨_, rfl⟩) rfl hf252 ?_
  obtain ⟨S254, en255⟩ : ∃ Z : Mem, Z = uR S250 r0 22 (tp S246) := ⟨_, rfl⟩
  rw [← en255]
  have h := h S254 en255
  have hf256 : isK S254 r0 13 := by rw [en255]; exact hf252
  refine V_aload_n (pc2 := 288) (dk D_X13_init 163 rfl) rfl (V_lg 0 rfl) rfl ?_
  refine V_bipush (x := 12) (pc2 := 290) (dk D_X13_init 164 rfl) (by decide) rfl ?_
  have hd257 : decode MX13_init.2.1 290 = .ok (.newarray .int, 2) := dk D_X13_init 165 rfl
  refine V_newa21 (n := 12) (pc2 := 292) hd257 ac_21 rfl (litI 12) (Nat.le_of_ble_eq_true rfl) ?_
  obtain ⟨S258, en259⟩ : ∃ Z : Mem, Z = nw S254 21 12 12 := ⟨_, rfl⟩
  rw [← en259]
  have h := h S258 en259
  have hf260 : isK S258 r0 13 := by rw [en259]; exact isK_nw hf256
  have hf261 : isK S258 (tp S254) 21 := by rw [en259]; exact isK_new
  refine V_putR kc13 (pc2 := 295) 23 (dk D_X13_init 166 rfl) fl_13_116 (by decide) (Or.inr ⟨rfl, rfl, rfl⟩) (Or.inr ⟨_, rfl⟩) rfl hf260 ?_
  obtain ⟨S262, en263⟩ : ∃ Z : Mem, Z = uR S258 r0 23 (tp S254) := ⟨_, rfl⟩
  rw [← en263]
  have h := h S262 en263
  have hf264 : isK S262 r0 13 := by rw [en263]; exact hf260
  refine V_aload_n (pc2 := 296) (dk D_X13_init 167 rfl) rfl (V_lg 0 rfl) rfl ?_
  refine V_sipush (x := 1600) (pc2 := 299) (dk D_X13_init 168 rfl) (by decide) rfl ?_
  have hd265 : decode MX13_init.2.1 299 = .ok (.newarray .long, 2) := dk D_X13_init 169 rfl
  refine V_newa22 (n := 1600) (pc2 := 301) hd265 ac_22 rfl (litI 1600) (Nat.le_of_ble_eq_true rfl) ?_
  obtain ⟨S266, en267⟩ : ∃ Z : Mem, Z = nw S262 22 1600 1600 := ⟨_, rfl⟩
  rw [← en267]
  have h := h S266 en267
  have hf268 : isK S266 r0 13 := by rw [en267]; exact isK_nw hf264
  have hf269 : isK S266 (tp S262) 22 := by rw [en267]; exact isK_new
  refine V_putR kc13 (pc2 := 304) 24 (dk D_X13_init 170 rfl) fl_13_119 (by decide) (Or.inr ⟨rfl, rfl, rfl⟩) (Or.inr ⟨_, rfl⟩) rfl hf268 ?_
  obtain ⟨S270, en271⟩ : ∃ Z : Mem, Z = uR S266 r0 24 (tp S262) := ⟨_, rfl⟩
  rw [← en271]
  have h := h S270 en271
  have hf272 : isK S270 r0 13 := by rw [en271]; exact hf268
  refine V_aload_n (pc2 := 305) (dk D_X13_init 171 rfl) rfl (V_lg 0 rfl) rfl ?_
  refine V_bipush (x := 12) (pc2 := 307) (dk D_X13_init 172 rfl) (by decide) rfl ?_
  have hd273 : decode MX13_init.2.1 307 = .ok (.newarray .long, 2) := dk D_X13_init 173 rfl
  refine V_newa22 (n := 12) (pc2 := 309) hd273 ac_22 rfl (litI 12) (Nat.le_of_ble_eq_true rfl) ?_
  obtain ⟨S274, en275⟩ : ∃ Z : Mem, Z = nw S270 22 12 12 := ⟨_, rfl⟩
  rw [← en275]
  have h := h S274 en275
  have hf276 : isK S274 r0 13 := by rw [en275]; exact isK_nw hf272
  have hf277 : isK S274 (tp S270) 22 := by rw [en275]; exact isK_new
  refine V_putR kc13 (pc2 := 312) 26 (dk D_X13_init 174 rfl) fl_13_122 (by decide) (Or.inr ⟨rfl, rfl, rfl⟩) (Or.inr ⟨_, rfl⟩) rfl hf276 ?_
  obtain ⟨S278, en279⟩ : ∃ Z : Mem, Z = uR S274 r0 26 (tp S270) := ⟨_, rfl⟩
  rw [← en279]
  have h := h S278 en279
  have hf280 : isK S278 r0 13 := by rw [en279]; exact hf276
  refine V_aload_n (pc2 := 313) (dk D_X13_init 175 rfl) rfl (V_lg 0 rfl) rfl ?_
  refine V_sipush (x := 1000) (pc2 := 316) (dk D_X13_init 176 rfl) (by decide) rfl ?_
  have hd281 : decode MX13_init.2.1 316 = .ok (.newarray .int, 2) := dk D_X13_init 177 rfl
  refine V_newa21 (n := 1000) (pc2 := 318) hd281 ac_21 rfl (litI 1000) (Nat.le_of_ble_eq_true rfl) ?_
  obtain ⟨S282, en283⟩ : ∃ Z : Mem, Z = nw S278 21 1000 1000 := ⟨_, rfl⟩
  rw [← en283]
  have h := h S282 en283
  have hf284 : isK S282 r0 13 := by rw [en283]; exact isK_nw hf280
  have hf285 : isK S282 (tp S278) 21 := by rw [en283]; exact isK_new
  refine V_putR kc13 (pc2 := 321) 27 (dk D_X13_init 178 rfl) fl_13_125 (by decide) (Or.inr ⟨rfl, rfl, rfl⟩) (Or.inr ⟨_, rfl⟩) rfl hf284 ?_
  obtain ⟨S286, en287⟩ : ∃ Z : Mem, Z = uR S282 r0 27 (tp S278) := ⟨_, rfl⟩
  rw [← en287]
  have h := h S286 en287
  have hf288 : isK S286 r0 13 := by rw [en287]; exact hf284
  refine V_aload_n (pc2 := 322) (dk D_X13_init 179 rfl) rfl (V_lg 0 rfl) rfl ?_
  refine V_sipush (x := 1000) (pc2 := 325) (dk D_X13_init 180 rfl) (by decide) rfl ?_
  have hd289 : decode MX13_init.2.1 325 = .ok (.newarray .int, 2) := dk D_X13_init 181 rfl
  refine V_newa21 (n := 1000) (pc2 := 327) hd289 ac_21 rfl (litI 1000) (Nat.le_of_ble_eq_true rfl) ?_
  obtain ⟨S290, en291⟩ : ∃ Z : Mem, Z = nw S286 21 1000 1000 := ⟨_, rfl⟩
  rw [← en291]
  have h := h S290 en291
  have hf292 : isK S290 r0 13 := by rw [en291]; exact isK_nw hf288
  have hf293 : isK S290 (tp S286) 21 := by rw [en291]; exact isK_new
  refine V_putR kc13 (pc2 := 330) 28 (dk D_X13_init 182 rfl) fl_13_128 (by decide) (Or.inr ⟨rfl, rfl, rfl⟩) (Or.inr ⟨_, rfl⟩) rfl hf292 ?_
  obtain ⟨S294, en295⟩ : ∃ Z : Mem, Z = uR S290 r0 28 (tp S286) := ⟨_, rfl⟩
  rw [← en295]
  have h := h S294 en295
  have hf296 : isK S294 r0 13 := by rw [en295]; exact hf292
  refine V_aload_n (pc2 := 331) (dk D_X13_init 183 rfl) rfl (V_lg 0 rfl) rfl ?_
  refine V_sipush (x := 1000) (pc2 := 334) (dk D_X13_init 184 rfl) (by decide) rfl ?_
  have hd297 : decode MX13_init.2.1 334 = .ok (.newarray .int, 2) := dk D_X13_init 185 rfl
  refine V_newa21 (n := 1000) (pc2 := 336) hd297 ac_21 rfl (litI 1000) (Nat.le_of_ble_eq_true rfl) ?_
  obtain ⟨S298, en299⟩ : ∃ Z : Mem, Z = nw S294 21 1000 1000 := ⟨_, rfl⟩
  rw [← en299]
  have h := h S298 en299
  have hf300 : isK S298 r0 13 := by rw [en299]; exact isK_nw hf296
  have hf301 : isK S298 (tp S294) 21 := by rw [en299]; exact isK_new
  refine V_putR kc13 (pc2 := 339) 30 (dk D_X13_init 186 rfl) fl_13_131 (by decide) (Or.inr ⟨rfl, rfl, rfl⟩) (Or.inr ⟨_, rfl⟩) rfl hf300 ?_
  obtain ⟨S302, en303⟩ : ∃ Z : Mem, Z = uR S298 r0 30 (tp S294) := ⟨_, rfl⟩
  rw [← en303]
  have h := h S302 en303
  have hf304 : isK S302 r0 13 := by rw [en303]; exact hf300
  refine V_aload_n (pc2 := 340) (dk D_X13_init 187 rfl) rfl (V_lg 0 rfl) rfl ?_
  refine V_sipush (x := 1000) (pc2 := 343) (dk D_X13_init 188 rfl) (by decide) rfl ?_
  have hd305 : decode MX13_init.2.1 343 = .ok (.newarray .int, 2) := dk D_X13_init 189 rfl
  refine V_newa21 (n := 1000) (pc2 := 345) hd305 ac_21 rfl (litI 1000) (Nat.le_of_ble_eq_true rfl) ?_
  obtain ⟨S306, en307⟩ : ∃ Z : Mem, Z = nw S302 21 1000 1000 := ⟨_, rfl⟩
  rw [← en307]
  have h := h S306 en307
  have hf308 : isK S306 r0 13 := by rw [en307]; exact isK_nw hf304
  have hf309 : isK S306 (tp S302) 21 := by rw [en307]; exact isK_new
  refine V_putR kc13 (pc2 := 348) 31 (dk D_X13_init 190 rfl) fl_13_134 (by decide) (Or.inr ⟨rfl, rfl, rfl⟩) (Or.inr ⟨_, rfl⟩) rfl hf308 ?_
  obtain ⟨S310, en311⟩ : ∃ Z : Mem, Z = uR S306 r0 31 (tp S302) := ⟨_, rfl⟩
  rw [← en311]
  have h := h S310 en311
  have hf312 : isK S310 r0 13 := by rw [en311]; exact hf308
  refine V_aload_n (pc2 := 349) (dk D_X13_init 191 rfl) rfl (V_lg 0 rfl) rfl ?_
  refine V_sipush (x := 1000) (pc2 := 352) (dk D_X13_init 192 rfl) (by decide) rfl ?_
  have hd313 : decode MX13_init.2.1 352 = .ok (.newarray .int, 2) := dk D_X13_init 193 rfl
  refine V_newa21 (n := 1000) (pc2 := 354) hd313 ac_21 rfl (litI 1000) (Nat.le_of_ble_eq_true rfl) ?_
  obtain ⟨S314, en315⟩ : ∃ Z : Mem, Z = nw S310 21 1000 1000 := ⟨_, rfl⟩
  rw [← en315]
  have h := h S314 en315
  have hf316 : isK S314 r0 13 := by rw [en315]; exact isK_nw hf312
  have hf317 : isK S314 (tp S310) 21 := by rw [en315]; exact isK_new
  refine V_putR kc13 (pc2 := 357) 32 (dk D_X13_init 194 rfl) fl_13_137 (by decide) (Or.inr ⟨rfl, rfl, rfl⟩) (Or.inr ⟨_, rfl⟩) rfl hf316 ?_
  obtain ⟨S318, en319⟩ : ∃ Z : Mem, Z = uR S314 r0 32 (tp S310) := ⟨_, rfl⟩
  rw [← en319]
  have h := h S318 en319
  have hf320 : isK S318 r0 13 := by rw [en319]; exact hf316
  refine V_aload_n (pc2 := 358) (dk D_X13_init 195 rfl) rfl (V_lg 0 rfl) rfl ?_
  refine V_sipush (x := 1000) (pc2 := 361) (dk D_X13_init 196 rfl) (by decide) rfl ?_
  have hd321 : decode MX13_init.2.1 361 = .ok (.newarray .int, 2) := dk D_X13_init 197 rfl
  refine V_newa21 (n := 1000) (pc2 := 363) hd321 ac_21 rfl (litI 1000) (Nat.le_of_ble_eq_true rfl) ?_
  obtain ⟨S322, en323⟩ : ∃ Z : Mem, Z = nw S318 21 1000 1000 := ⟨_, rfl⟩
  rw [← en323]
  have h := h S322 en323
  have hf324 : isK S322 r0 13 := by rw [en323]; exact isK_nw hf320
  have hf325 : isK S322 (tp S318) 21 := by rw [en323]; exact isK_new
  refine V_putR kc13 (pc2 := 366) 33 (dk D_X13_init 198 rfl) fl_13_140 (by decide) (Or.inr ⟨rfl, rfl, rfl⟩) (Or.inr ⟨_, rfl⟩) rfl hf324 ?_
  obtain ⟨S326, en327⟩ : ∃ Z : Mem, Z = uR S322 r0 33 (tp S318) := ⟨_, rfl⟩
  rw [← en327]
  have h := h S326 en327
  have hf328 : isK S326 r0 13 := by rw [en327]; exact hf324
  refine V_aload_n (pc2 := 367) (dk D_X13_init 199 rfl) rfl (V_lg 0 rfl) rfl ?_
  refine V_sipush (x := 1600) (pc2 := 370) (dk D_X13_init 200 rfl) (by decide) rfl ?_
  have hd329 : decode MX13_init.2.1 370 = .ok (.newarray .int, 2) := dk D_X13_init 201 rfl
  refine V_newa21 (n := 1600) (pc2 := 372) hd329 ac_21 rfl (litI 1600) (Nat.le_of_ble_eq_true rfl) ?_
  obtain ⟨S330, en331⟩ : ∃ Z : Mem, Z = nw S326 21 1600 1600 := ⟨_, rfl⟩
  rw [← en331]
  have h := h S330 en331
  have hf332 : isK S330 r0 13 := by rw [en331]; exact isK_nw hf328
  have hf333 : isK S330 (tp S326) 21 := by rw [en331]; exact isK_new
  refine V_putR kc13 (pc2 := 375) 38 (dk D_X13_init 202 rfl) fl_13_143 (by decide) (Or.inr ⟨rfl, rfl, rfl⟩) (Or.inr ⟨_, rfl⟩) rfl hf332 ?_
  obtain ⟨S334, en335⟩ : ∃ Z : Mem, Z = uR S330 r0 38 (tp S326) := ⟨_, rfl⟩
  rw [← en335]
  have h := h S334 en335
  have hf336 : isK S334 r0 13 := by rw [en335]; exact hf332
  refine V_aload_n (pc2 := 376) (dk D_X13_init 203 rfl) rfl (V_lg 0 rfl) rfl ?_
  refine V_sipush (x := 1600) (pc2 := 379) (dk D_X13_init 204 rfl) (by decide) rfl ?_
  have hd337 : decode MX13_init.2.1 379 = .ok (.newarray .int, 2) := dk D_X13_init 205 rfl
  refine V_newa21 (n := 1600) (pc2 := 381) hd337 ac_21 rfl (litI 1600) (Nat.le_of_ble_eq_true rfl) ?_
  obtain ⟨S338, en339⟩ : ∃ Z : Mem, Z = nw S334 21 1600 1600 := ⟨_, rfl⟩
  rw [← en339]
  have h := h S338 en339
  have hf340 : isK S338 r0 13 := by rw [en339]; exact isK_nw hf336
  have hf341 : isK S338 (tp S334) 21 := by rw [en339]; exact isK_new
  refine V_putR kc13 (pc2 := 384) 39 (dk D_X13_init 206 rfl) fl_13_146 (by decide) (Or.inr ⟨rfl, rfl, rfl⟩) (Or.inr ⟨_, rfl⟩) rfl hf340 ?_
  obtain ⟨S342, en343⟩ : ∃ Z : Mem, Z = uR S338 r0 39 (tp S334) := ⟨_, rfl⟩
  rw [← en343]
  have h := h S342 en343
  have hf344 : isK S342 r0 13 := by rw [en343]; exact hf340
  refine V_aload_n (pc2 := 385) (dk D_X13_init 207 rfl) rfl (V_lg 0 rfl) rfl ?_
  refine V_sipush (x := 1600) (pc2 := 388) (dk D_X13_init 208 rfl) (by decide) rfl ?_
  have hd345 : decode MX13_init.2.1 388 = .ok (.newarray .int, 2) := dk D_X13_init 209 rfl
  refine V_newa21 (n := 1600) (pc2 := 390) hd345 ac_21 rfl (litI 1600) (Nat.le_of_ble_eq_true rfl) ?_
  obtain ⟨S346, en347⟩ : ∃ Z : Mem, Z = nw S342 21 1600 1600 := ⟨_, rfl⟩
  rw [← en347]
  have h := h S346 en347
  have hf348 : isK S346 r0 13 := by rw [en347]; exact isK_nw hf344
  have hf349 : isK S346 (tp S342) 21 := by rw [en347]; exact isK_new
  refine V_putR kc13 (pc2 := 393) 40 (dk D_X13_init 210 rfl) fl_13_149 (by decide) (Or.inr ⟨rfl, rfl, rfl⟩) (Or.inr ⟨_, rfl⟩) rfl hf348 ?_
  obtain ⟨S350, en351⟩ : ∃ Z : Mem, Z = uR S346 r0 40 (tp S342) := ⟨_, rfl⟩
  rw [← en351]
  have h := h S350 en351
  have hf352 : isK S350 r0 13 := by rw [en351]; exact hf348
  refine V_aload_n (pc2 := 394) (dk D_X13_init 211 rfl) rfl (V_lg 0 rfl) rfl ?_
  refine V_sipush (x := 1600) (pc2 := 397) (dk D_X13_init 212 rfl) (by decide) rfl ?_
  have hd353 : decode MX13_init.2.1 397 = .ok (.newarray .int, 2) := dk D_X13_init 213 rfl
  refine V_newa21 (n := 1600) (pc2 := 399) hd353 ac_21 rfl (litI 1600) (Nat.le_of_ble_eq_true rfl) ?_
  obtain ⟨S354, en355⟩ : ∃ Z : Mem, Z = nw S350 21 1600 1600 := ⟨_, rfl⟩
  rw [← en355]
  have h := h S354 en355
  have hf356 : isK S354 r0 13 := by rw [en355]; exact isK_nw hf352
  have hf357 : isK S354 (tp S350) 21 := by rw [en355]; exact isK_new
  refine V_putR kc13 (pc2 := 402) 42 (dk D_X13_init 214 rfl) fl_13_152 (by decide) (Or.inr ⟨rfl, rfl, rfl⟩) (Or.inr ⟨_, rfl⟩) rfl hf356 ?_
  obtain ⟨S358, en359⟩ : ∃ Z : Mem, Z = uR S354 r0 42 (tp S350) := ⟨_, rfl⟩
  rw [← en359]
  have h := h S358 en359
  have hf360 : isK S358 r0 13 := by rw [en359]; exact hf356
  refine V_aload_n (pc2 := 403) (dk D_X13_init 215 rfl) rfl (V_lg 0 rfl) rfl ?_
  refine V_sipush (x := 1600) (pc2 := 406) (dk D_X13_init 216 rfl) (by decide) rfl ?_
  have hd361 : decode MX13_init.2.1 406 = .ok (.newarray .int, 2) := dk D_X13_init 217 rfl
  refine V_newa21 (n := 1600) (pc2 := 408) hd361 ac_21 rfl (litI 1600) (Nat.le_of_ble_eq_true rfl) ?_
  obtain ⟨S362, en363⟩ : ∃ Z : Mem, Z = nw S358 21 1600 1600 := ⟨_, rfl⟩
  rw [← en363]
  have h := h S362 en363
  have hf364 : isK S362 r0 13 := by rw [en363]; exact isK_nw hf360
  have hf365 : isK S362 (tp S358) 21 := by rw [en363]; exact isK_new
  refine V_putR kc13 (pc2 := 411) 43 (dk D_X13_init 218 rfl) fl_13_155 (by decide) (Or.inr ⟨rfl, rfl, rfl⟩) (Or.inr ⟨_, rfl⟩) rfl hf364 ?_
  obtain ⟨S366, en367⟩ : ∃ Z : Mem, Z = uR S362 r0 43 (tp S358) := ⟨_, rfl⟩
  rw [← en367]
  have h := h S366 en367
  have hf368 : isK S366 r0 13 := by rw [en367]; exact hf364
  refine V_aload_n (pc2 := 412) (dk D_X13_init 219 rfl) rfl (V_lg 0 rfl) rfl ?_
  refine V_sipush (x := 1000) (pc2 := 415) (dk D_X13_init 220 rfl) (by decide) rfl ?_
  have hd369 : decode MX13_init.2.1 415 = .ok (.newarray .int, 2) := dk D_X13_init 221 rfl
  refine V_newa21 (n := 1000) (pc2 := 417) hd369 ac_21 rfl (litI 1000) (Nat.le_of_ble_eq_true rfl) ?_
  obtain ⟨S370, en371⟩ : ∃ Z : Mem, Z = nw S366 21 1000 1000 := ⟨_, rfl⟩
  rw [← en371]
  have h := h S370 en371
  have hf372 : isK S370 r0 13 := by rw [en371]; exact isK_nw hf368
  have hf373 : isK S370 (tp S366) 21 := by rw [en371]; exact isK_new
  refine V_putR kc13 (pc2 := 420) 45 (dk D_X13_init 222 rfl) fl_13_158 (by decide) (Or.inr ⟨rfl, rfl, rfl⟩) (Or.inr ⟨_, rfl⟩) rfl hf372 ?_
  obtain ⟨S374, en375⟩ : ∃ Z : Mem, Z = uR S370 r0 45 (tp S366) := ⟨_, rfl⟩
  rw [← en375]
  have h := h S374 en375
  have hf376 : isK S374 r0 13 := by rw [en375]; exact hf372
  refine V_aload_n (pc2 := 421) (dk D_X13_init 223 rfl) rfl (V_lg 0 rfl) rfl ?_
  refine V_bipush (x := 61) (pc2 := 423) (dk D_X13_init 224 rfl) (by decide) rfl ?_
  have hd377 : decode MX13_init.2.1 423 = .ok (.newarray .int, 2) := dk D_X13_init 225 rfl
  refine V_newa21 (n := 61) (pc2 := 425) hd377 ac_21 rfl (litI 61) (Nat.le_of_ble_eq_true rfl) ?_
  obtain ⟨S378, en379⟩ : ∃ Z : Mem, Z = nw S374 21 61 61 := ⟨_, rfl⟩
  rw [← en379]
  have h := h S378 en379
  have hf380 : isK S378 r0 13 := by rw [en379]; exact isK_nw hf376
  have hf381 : isK S378 (tp S374) 21 := by rw [en379]; exact isK_new
  refine V_putR kc13 (pc2 := 428) 49 (dk D_X13_init 226 rfl) fl_13_161 (by decide) (Or.inr ⟨rfl, rfl, rfl⟩) (Or.inr ⟨_, rfl⟩) rfl hf380 ?_
  obtain ⟨S382, en383⟩ : ∃ Z : Mem, Z = uR S378 r0 49 (tp S374) := ⟨_, rfl⟩
  rw [← en383]
  have h := h S382 en383
  have hf384 : isK S382 r0 13 := by rw [en383]; exact hf380
  refine V_aload_n (pc2 := 429) (dk D_X13_init 227 rfl) rfl (V_lg 0 rfl) rfl ?_
  refine V_bipush (x := 61) (pc2 := 431) (dk D_X13_init 228 rfl) (by decide) rfl ?_
  have hd385 : decode MX13_init.2.1 431 = .ok (.newarray .int, 2) := dk D_X13_init 229 rfl
  refine V_newa21 (n := 61) (pc2 := 433) hd385 ac_21 rfl (litI 61) (Nat.le_of_ble_eq_true rfl) ?_
  obtain ⟨S386, en387⟩ : ∃ Z : Mem, Z = nw S382 21 61 61 := ⟨_, rfl⟩
  rw [← en387]
  have h := h S386 en387
  have hf388 : isK S386 r0 13 := by rw [en387]; exact isK_nw hf384
  have hf389 : isK S386 (tp S382) 21 := by rw [en387]; exact isK_new
  refine V_putR kc13 (pc2 := 436) 50 (dk D_X13_init 230 rfl) fl_13_164 (by decide) (Or.inr ⟨rfl, rfl, rfl⟩) (Or.inr ⟨_, rfl⟩) rfl hf388 ?_
  obtain ⟨S390, en391⟩ : ∃ Z : Mem, Z = uR S386 r0 50 (tp S382) := ⟨_, rfl⟩
  rw [← en391]
  have h := h S390 en391
  have hf392 : isK S390 r0 13 := by rw [en391]; exact hf388
  refine V_aload_n (pc2 := 437) (dk D_X13_init 231 rfl) rfl (V_lg 0 rfl) rfl ?_
  refine V_bipush (x := 61) (pc2 := 439) (dk D_X13_init 232 rfl) (by decide) rfl ?_
  have hd393 : decode MX13_init.2.1 439 = .ok (.newarray .int, 2) := dk D_X13_init 233 rfl
  refine V_newa21 (n := 61) (pc2 := 441) hd393 ac_21 rfl (litI 61) (Nat.le_of_ble_eq_true rfl) ?_
  obtain ⟨S394, en395⟩ : ∃ Z : Mem, Z = nw S390 21 61 61 := ⟨_, rfl⟩
  rw [← en395]
  have h := h S394 en395
  have hf396 : isK S394 r0 13 := by rw [en395]; exact isK_nw hf392
  have hf397 : isK S394 (tp S390) 21 := by rw [en395]; exact isK_new
  refine V_putR kc13 (pc2 := 444) 51 (dk D_X13_init 234 rfl) fl_13_167 (by decide) (Or.inr ⟨rfl, rfl, rfl⟩) (Or.inr ⟨_, rfl⟩) rfl hf396 ?_
  obtain ⟨S398, en399⟩ : ∃ Z : Mem, Z = uR S394 r0 51 (tp S390) := ⟨_, rfl⟩
  rw [← en399]
  have h := h S398 en399
  have hf400 : isK S398 r0 13 := by rw [en399]; exact hf396
  refine V_aload_n (pc2 := 445) (dk D_X13_init 235 rfl) rfl (V_lg 0 rfl) rfl ?_
  refine V_bipush (x := 61) (pc2 := 447) (dk D_X13_init 236 rfl) (by decide) rfl ?_
  have hd401 : decode MX13_init.2.1 447 = .ok (.newarray .int, 2) := dk D_X13_init 237 rfl
  refine V_newa21 (n := 61) (pc2 := 449) hd401 ac_21 rfl (litI 61) (Nat.le_of_ble_eq_true rfl) ?_
  obtain ⟨S402, en403⟩ : ∃ Z : Mem, Z = nw S398 21 61 61 := ⟨_, rfl⟩
  rw [← en403]
  have h := h S402 en403
  have hf404 : isK S402 r0 13 := by rw [en403]; exact isK_nw hf400
  have hf405 : isK S402 (tp S398) 21 := by rw [en403]; exact isK_new
  refine V_putR kc13 (pc2 := 452) 52 (dk D_X13_init 238 rfl) fl_13_170 (by decide) (Or.inr ⟨rfl, rfl, rfl⟩) (Or.inr ⟨_, rfl⟩) rfl hf404 ?_
  obtain ⟨S406, en407⟩ : ∃ Z : Mem, Z = uR S402 r0 52 (tp S398) := ⟨_, rfl⟩
  rw [← en407]
  have h := h S406 en407
  have hf408 : isK S406 r0 13 := by rw [en407]; exact hf404
  refine V_aload_n (pc2 := 453) (dk D_X13_init 239 rfl) rfl (V_lg 0 rfl) rfl ?_
  refine V_bipush (x := 61) (pc2 := 455) (dk D_X13_init 240 rfl) (by decide) rfl ?_
  have hd409 : decode MX13_init.2.1 455 = .ok (.newarray .int, 2) := dk D_X13_init 241 rfl
  refine V_newa21 (n := 61) (pc2 := 457) hd409 ac_21 rfl (litI 61) (Nat.le_of_ble_eq_true rfl) ?_
  obtain ⟨S410, en411⟩ : ∃ Z : Mem, Z = nw S406 21 61 61 := ⟨_, rfl⟩
  rw [← en411]
  have h := h S410 en411
  have hf412 : isK S410 r0 13 := by rw [en411]; exact isK_nw hf408
  have hf413 : isK S410 (tp S406) 21 := by rw [en411]; exact isK_new
  refine V_putR kc13 (pc2 := 460) 53 (dk D_X13_init 242 rfl) fl_13_173 (by decide) (Or.inr ⟨rfl, rfl, rfl⟩) (Or.inr ⟨_, rfl⟩) rfl hf412 ?_
  obtain ⟨S414, en415⟩ : ∃ Z : Mem, Z = uR S410 r0 53 (tp S406) := ⟨_, rfl⟩
  rw [← en415]
  have h := h S414 en415
  have hf416 : isK S414 r0 13 := by rw [en415]; exact hf412
  refine V_aload_n (pc2 := 461) (dk D_X13_init 243 rfl) rfl (V_lg 0 rfl) rfl ?_
  refine V_bipush (x := 61) (pc2 := 463) (dk D_X13_init 244 rfl) (by decide) rfl ?_
  have hd417 : decode MX13_init.2.1 463 = .ok (.newarray .int, 2) := dk D_X13_init 245 rfl
  refine V_newa21 (n := 61) (pc2 := 465) hd417 ac_21 rfl (litI 61) (Nat.le_of_ble_eq_true rfl) ?_
  obtain ⟨S418, en419⟩ : ∃ Z : Mem, Z = nw S414 21 61 61 := ⟨_, rfl⟩
  rw [← en419]
  have h := h S418 en419
  have hf420 : isK S418 r0 13 := by rw [en419]; exact isK_nw hf416
  have hf421 : isK S418 (tp S414) 21 := by rw [en419]; exact isK_new
  refine V_putR kc13 (pc2 := 468) 54 (dk D_X13_init 246 rfl) fl_13_176 (by decide) (Or.inr ⟨rfl, rfl, rfl⟩) (Or.inr ⟨_, rfl⟩) rfl hf420 ?_
  obtain ⟨S422, en423⟩ : ∃ Z : Mem, Z = uR S418 r0 54 (tp S414) := ⟨_, rfl⟩
  rw [← en423]
  have h := h S422 en423
  have hf424 : isK S422 r0 13 := by rw [en423]; exact hf420
  refine V_aload_n (pc2 := 469) (dk D_X13_init 247 rfl) rfl (V_lg 0 rfl) rfl ?_
  refine V_bipush (x := 61) (pc2 := 471) (dk D_X13_init 248 rfl) (by decide) rfl ?_
  have hd425 : decode MX13_init.2.1 471 = .ok (.newarray .int, 2) := dk D_X13_init 249 rfl
  refine V_newa21 (n := 61) (pc2 := 473) hd425 ac_21 rfl (litI 61) (Nat.le_of_ble_eq_true rfl) ?_
  obtain ⟨S426, en427⟩ : ∃ Z : Mem, Z = nw S422 21 61 61 := ⟨_, rfl⟩
  rw [← en427]
  have h := h S426 en427
  have hf428 : isK S426 r0 13 := by rw [en427]; exact isK_nw hf424
  have hf429 : isK S426 (tp S422) 21 := by rw [en427]; exact isK_new
  refine V_putR kc13 (pc2 := 476) 55 (dk D_X13_init 250 rfl) fl_13_179 (by decide) (Or.inr ⟨rfl, rfl, rfl⟩) (Or.inr ⟨_, rfl⟩) rfl hf428 ?_
  obtain ⟨S430, en431⟩ : ∃ Z : Mem, Z = uR S426 r0 55 (tp S422) := ⟨_, rfl⟩
  rw [← en431]
  have h := h S430 en431
  have hf432 : isK S430 r0 13 := by rw [en431]; exact hf428
  refine V_aload_n (pc2 := 477) (dk D_X13_init 251 rfl) rfl (V_lg 0 rfl) rfl ?_
  refine V_bipush (x := 61) (pc2 := 479) (dk D_X13_init 252 rfl) (by decide) rfl ?_
  have hd433 : decode MX13_init.2.1 479 = .ok (.newarray .int, 2) := dk D_X13_init 253 rfl
  refine V_newa21 (n := 61) (pc2 := 481) hd433 ac_21 rfl (litI 61) (Nat.le_of_ble_eq_true rfl) ?_
  obtain ⟨S434, en435⟩ : ∃ Z : Mem, Z = nw S430 21 61 61 := ⟨_, rfl⟩
  rw [← en435]
  have h := h S434 en435
  have hf436 : isK S434 r0 13 := by rw [en435]; exact isK_nw hf432
  have hf437 : isK S434 (tp S430) 21 := by rw [en435]; exact isK_new
  refine V_putR kc13 (pc2 := 484) 56 (dk D_X13_init 254 rfl) fl_13_182 (by decide) (Or.inr ⟨rfl, rfl, rfl⟩) (Or.inr ⟨_, rfl⟩) rfl hf436 ?_
  obtain ⟨S438, en439⟩ : ∃ Z : Mem, Z = uR S434 r0 56 (tp S430) := ⟨_, rfl⟩
  rw [← en439]
  have h := h S438 en439
  have hf440 : isK S438 r0 13 := by rw [en439]; exact hf436
  refine V_aload_n (pc2 := 485) (dk D_X13_init 255 rfl) rfl (V_lg 0 rfl) rfl ?_
  refine V_bipush (x := 61) (pc2 := 487) (dk D_X13_init 256 rfl) (by decide) rfl ?_
  have hd441 : decode MX13_init.2.1 487 = .ok (.newarray .boolean, 2) := dk D_X13_init 257 rfl
  refine V_newa23 (n := 61) (pc2 := 489) hd441 ac_23 rfl (litI 61) (Nat.le_of_ble_eq_true rfl) ?_
  obtain ⟨S442, en443⟩ : ∃ Z : Mem, Z = nw S438 23 61 61 := ⟨_, rfl⟩
  rw [← en443]
  have h := h S442 en443
  have hf444 : isK S442 r0 13 := by rw [en443]; exact isK_nw hf440
  have hf445 : isK S442 (tp S438) 23 := by rw [en443]; exact isK_new
  refine V_putR kc13 (pc2 := 492) 57 (dk D_X13_init 258 rfl) fl_13_185 (by decide) (Or.inr ⟨rfl, rfl, rfl⟩) (Or.inr ⟨_, rfl⟩) rfl hf444 ?_
  obtain ⟨S446, en447⟩ : ∃ Z : Mem, Z = uR S442 r0 57 (tp S438) := ⟨_, rfl⟩
  rw [← en447]
  have h := h S446 en447
  have hf448 : isK S446 r0 13 := by rw [en447]; exact hf444
  refine V_aload_n (pc2 := 493) (dk D_X13_init 259 rfl) rfl (V_lg 0 rfl) rfl ?_
  refine V_bipush (x := 61) (pc2 := 495) (dk D_X13_init 260 rfl) (by decide) rfl ?_
  have hd449 : decode MX13_init.2.1 495 = .ok (.newarray .int, 2) := dk D_X13_init 261 rfl
  refine V_newa21 (n := 61) (pc2 := 497) hd449 ac_21 rfl (litI 61) (Nat.le_of_ble_eq_true rfl) ?_
  obtain ⟨S450, en451⟩ : ∃ Z : Mem, Z = nw S446 21 61 61 := ⟨_, rfl⟩
  rw [← en451]
  have h := h S450 en451
  have hf452 : isK S450 r0 13 := by rw [en451]; exact isK_nw hf448
  have hf453 : isK S450 (tp S446) 21 := by rw [en451]; exact isK_new
  refine V_putR kc13 (pc2 := 500) 58 (dk D_X13_init 262 rfl) fl_13_189 (by decide) (Or.inr ⟨rfl, rfl, rfl⟩) (Or.inr ⟨_, rfl⟩) rfl hf452 ?_
  obtain ⟨S454, en455⟩ : ∃ Z : Mem, Z = uR S450 r0 58 (tp S446) := ⟨_, rfl⟩
  rw [← en455]
  have h := h S454 en455
  have hf456 : isK S454 r0 13 := by rw [en455]; exact hf452
  refine V_aload_n (pc2 := 501) (dk D_X13_init 263 rfl) rfl (V_lg 0 rfl) rfl ?_
  refine V_bipush (x := 12) (pc2 := 503) (dk D_X13_init 264 rfl) (by decide) rfl ?_
  have hd457 : decode MX13_init.2.1 503 = .ok (.newarray .boolean, 2) := dk D_X13_init 265 rfl
  refine V_newa23 (n := 12) (pc2 := 505) hd457 ac_23 rfl (litI 12) (Nat.le_of_ble_eq_true rfl) ?_
  obtain ⟨S458, en459⟩ : ∃ Z : Mem, Z = nw S454 23 12 12 := ⟨_, rfl⟩
  rw [← en459]
  have h := h S458 en459
  have hf460 : isK S458 r0 13 := by rw [en459]; exact isK_nw hf456
  have hf461 : isK S458 (tp S454) 23 := by rw [en459]; exact isK_new
  refine V_putR kc13 (pc2 := 508) 59 (dk D_X13_init 266 rfl) fl_13_192 (by decide) (Or.inr ⟨rfl, rfl, rfl⟩) (Or.inr ⟨_, rfl⟩) rfl hf460 ?_
  obtain ⟨S462, en463⟩ : ∃ Z : Mem, Z = uR S458 r0 59 (tp S454) := ⟨_, rfl⟩
  rw [← en463]
  have h := h S462 en463
  have hf464 : isK S462 r0 13 := by rw [en463]; exact hf460
  refine V_aload_n (pc2 := 509) (dk D_X13_init 267 rfl) rfl (V_lg 0 rfl) rfl ?_
  refine V_bipush (x := 12) (pc2 := 511) (dk D_X13_init 268 rfl) (by decide) rfl ?_
  have hd465 : decode MX13_init.2.1 511 = .ok (.newarray .int, 2) := dk D_X13_init 269 rfl
  refine V_newa21 (n := 12) (pc2 := 513) hd465 ac_21 rfl (litI 12) (Nat.le_of_ble_eq_true rfl) ?_
  obtain ⟨S466, en467⟩ : ∃ Z : Mem, Z = nw S462 21 12 12 := ⟨_, rfl⟩
  rw [← en467]
  have h := h S466 en467
  have hf468 : isK S466 r0 13 := by rw [en467]; exact isK_nw hf464
  have hf469 : isK S466 (tp S462) 21 := by rw [en467]; exact isK_new
  refine V_putR kc13 (pc2 := 516) 60 (dk D_X13_init 270 rfl) fl_13_195 (by decide) (Or.inr ⟨rfl, rfl, rfl⟩) (Or.inr ⟨_, rfl⟩) rfl hf468 ?_
  obtain ⟨S470, en471⟩ : ∃ Z : Mem, Z = uR S466 r0 60 (tp S462) := ⟨_, rfl⟩
  rw [← en471]
  have h := h S470 en471
  have hf472 : isK S470 r0 13 := by rw [en471]; exact hf468
  refine V_aload_n (pc2 := 517) (dk D_X13_init 271 rfl) rfl (V_lg 0 rfl) rfl ?_
  refine V_sipush (x := 720) (pc2 := 520) (dk D_X13_init 272 rfl) (by decide) rfl ?_
  have hd473 : decode MX13_init.2.1 520 = .ok (.newarray .int, 2) := dk D_X13_init 273 rfl
  refine V_newa21 (n := 720) (pc2 := 522) hd473 ac_21 rfl (litI 720) (Nat.le_of_ble_eq_true rfl) ?_
  obtain ⟨S474, en475⟩ : ∃ Z : Mem, Z = nw S470 21 720 720 := ⟨_, rfl⟩
  rw [← en475]
  have h := h S474 en475
  have hf476 : isK S474 r0 13 := by rw [en475]; exact isK_nw hf472
  have hf477 : isK S474 (tp S470) 21 := by rw [en475]; exact isK_new
  refine V_putR kc13 (pc2 := 525) 61 (dk D_X13_init 274 rfl) fl_13_198 (by decide) (Or.inr ⟨rfl, rfl, rfl⟩) (Or.inr ⟨_, rfl⟩) rfl hf476 ?_
  obtain ⟨S478, en479⟩ : ∃ Z : Mem, Z = uR S474 r0 61 (tp S470) := ⟨_, rfl⟩
  rw [← en479]
  have h := h S478 en479
  have hf480 : isK S478 r0 13 := by rw [en479]; exact hf476
  refine V_aload_n (pc2 := 526) (dk D_X13_init 275 rfl) rfl (V_lg 0 rfl) rfl ?_
  refine V_sipush (x := 720) (pc2 := 529) (dk D_X13_init 276 rfl) (by decide) rfl ?_
  have hd481 : decode MX13_init.2.1 529 = .ok (.newarray .int, 2) := dk D_X13_init 277 rfl
  refine V_newa21 (n := 720) (pc2 := 531) hd481 ac_21 rfl (litI 720) (Nat.le_of_ble_eq_true rfl) ?_
  obtain ⟨S482, en483⟩ : ∃ Z : Mem, Z = nw S478 21 720 720 := ⟨_, rfl⟩
  rw [← en483]
  have h := h S482 en483
  have hf484 : isK S482 r0 13 := by rw [en483]; exact isK_nw hf480
  have hf485 : isK S482 (tp S478) 21 := by rw [en483]; exact isK_new
  refine V_putR kc13 (pc2 := 534) 62 (dk D_X13_init 278 rfl) fl_13_201 (by decide) (Or.inr ⟨rfl, rfl, rfl⟩) (Or.inr ⟨_, rfl⟩) rfl hf484 ?_
  obtain ⟨S486, en487⟩ : ∃ Z : Mem, Z = uR S482 r0 62 (tp S478) := ⟨_, rfl⟩
  rw [← en487]
  have h := h S486 en487
  have hf488 : isK S486 r0 13 := by rw [en487]; exact hf484
  refine V_aload_n (pc2 := 535) (dk D_X13_init 279 rfl) rfl (V_lg 0 rfl) rfl ?_
  refine V_sipush (x := 720) (pc2 := 538) (dk D_X13_init 280 rfl) (by decide) rfl ?_
  have hd489 : decode MX13_init.2.1 538 = .ok (.newarray .int, 2) := dk D_X13_init 281 rfl
  refine V_newa21 (n := 720) (pc2 := 540) hd489 ac_21 rfl (litI 720) (Nat.le_of_ble_eq_true rfl) ?_
  obtain ⟨S490, en491⟩ : ∃ Z : Mem, Z = nw S486 21 720 720 := ⟨_, rfl⟩
  rw [← en491]
  have h := h S490 en491
  have hf492 : isK S490 r0 13 := by rw [en491]; exact isK_nw hf488
  have hf493 : isK S490 (tp S486) 21 := by rw [en491]; exact isK_new
  refine V_putR kc13 (pc2 := 543) 63 (dk D_X13_init 282 rfl) fl_13_204 (by decide) (Or.inr ⟨rfl, rfl, rfl⟩) (Or.inr ⟨_, rfl⟩) rfl hf492 ?_
  obtain ⟨S494, en495⟩ : ∃ Z : Mem, Z = uR S490 r0 63 (tp S486) := ⟨_, rfl⟩
  rw [← en495]
  have h := h S494 en495
  have hf496 : isK S494 r0 13 := by rw [en495]; exact hf492
  refine V_aload_n (pc2 := 544) (dk D_X13_init 283 rfl) rfl (V_lg 0 rfl) rfl ?_
  refine V_sipush (x := 720) (pc2 := 547) (dk D_X13_init 284 rfl) (by decide) rfl ?_
  have hd497 : decode MX13_init.2.1 547 = .ok (.newarray .int, 2) := dk D_X13_init 285 rfl
  refine V_newa21 (n := 720) (pc2 := 549) hd497 ac_21 rfl (litI 720) (Nat.le_of_ble_eq_true rfl) ?_
  obtain ⟨S498, en499⟩ : ∃ Z : Mem, Z = nw S494 21 720 720 := ⟨_, rfl⟩
  rw [← en499]
  have h := h S498 en499
  have hf500 : isK S498 r0 13 := by rw [en499]; exact isK_nw hf496
  have hf501 : isK S498 (tp S494) 21 := by rw [en499]; exact isK_new
  refine V_putR kc13 (pc2 := 552) 64 (dk D_X13_init 286 rfl) fl_13_207 (by decide) (Or.inr ⟨rfl, rfl, rfl⟩) (Or.inr ⟨_, rfl⟩) rfl hf500 ?_
  obtain ⟨S502, en503⟩ : ∃ Z : Mem, Z = uR S498 r0 64 (tp S494) := ⟨_, rfl⟩
  rw [← en503]
  have h := h S502 en503
  have hf504 : isK S502 r0 13 := by rw [en503]; exact hf500
  refine V_aload_n (pc2 := 553) (dk D_X13_init 287 rfl) rfl (V_lg 0 rfl) rfl ?_
  refine V_sipush (x := 720) (pc2 := 556) (dk D_X13_init 288 rfl) (by decide) rfl ?_
  have hd505 : decode MX13_init.2.1 556 = .ok (.newarray .int, 2) := dk D_X13_init 289 rfl
  refine V_newa21 (n := 720) (pc2 := 558) hd505 ac_21 rfl (litI 720) (Nat.le_of_ble_eq_true rfl) ?_
  obtain ⟨S506, en507⟩ : ∃ Z : Mem, Z = nw S502 21 720 720 := ⟨_, rfl⟩
  rw [← en507]
  have h := h S506 en507
  have hf508 : isK S506 r0 13 := by rw [en507]; exact isK_nw hf504
  have hf509 : isK S506 (tp S502) 21 := by rw [en507]; exact isK_new
  refine V_putR kc13 (pc2 := 561) 65 (dk D_X13_init 290 rfl) fl_13_210 (by decide) (Or.inr ⟨rfl, rfl, rfl⟩) (Or.inr ⟨_, rfl⟩) rfl hf508 ?_
  obtain ⟨S510, en511⟩ : ∃ Z : Mem, Z = uR S506 r0 65 (tp S502) := ⟨_, rfl⟩
  rw [← en511]
  have h := h S510 en511
  have hf512 : isK S510 r0 13 := by rw [en511]; exact hf508
  refine V_aload_n (pc2 := 562) (dk D_X13_init 291 rfl) rfl (V_lg 0 rfl) rfl ?_
  refine V_sipush (x := 28800) (pc2 := 565) (dk D_X13_init 292 rfl) (by decide) rfl ?_
  have hd513 : decode MX13_init.2.1 565 = .ok (.newarray .int, 2) := dk D_X13_init 293 rfl
  refine V_newa21 (n := 28800) (pc2 := 567) hd513 ac_21 rfl (litI 28800) (Nat.le_of_ble_eq_true rfl) ?_
  obtain ⟨S514, en515⟩ : ∃ Z : Mem, Z = nw S510 21 28800 28800 := ⟨_, rfl⟩
  rw [← en515]
  have h := h S514 en515
  have hf516 : isK S514 r0 13 := by rw [en515]; exact isK_nw hf512
  have hf517 : isK S514 (tp S510) 21 := by rw [en515]; exact isK_new
  refine V_putR kc13 (pc2 := 570) 66 (dk D_X13_init 294 rfl) fl_13_213 (by decide) (Or.inr ⟨rfl, rfl, rfl⟩) (Or.inr ⟨_, rfl⟩) rfl hf516 ?_
  obtain ⟨S518, en519⟩ : ∃ Z : Mem, Z = uR S514 r0 66 (tp S510) := ⟨_, rfl⟩
  rw [← en519]
  have h := h S518 en519
  have hf520 : isK S518 r0 13 := by rw [en519]; exact hf516
  refine V_aload_n (pc2 := 571) (dk D_X13_init 295 rfl) rfl (V_lg 0 rfl) rfl ?_
  refine V_sipush (x := 18000) (pc2 := 574) (dk D_X13_init 296 rfl) (by decide) rfl ?_
  have hd521 : decode MX13_init.2.1 574 = .ok (.newarray .int, 2) := dk D_X13_init 297 rfl
  refine V_newa21 (n := 18000) (pc2 := 576) hd521 ac_21 rfl (litI 18000) (Nat.le_of_ble_eq_true rfl) ?_
  obtain ⟨S522, en523⟩ : ∃ Z : Mem, Z = nw S518 21 18000 18000 := ⟨_, rfl⟩
  rw [← en523]
  have h := h S522 en523
  have hf524 : isK S522 r0 13 := by rw [en523]; exact isK_nw hf520
  have hf525 : isK S522 (tp S518) 21 := by rw [en523]; exact isK_new
  refine V_putR kc13 (pc2 := 579) 67 (dk D_X13_init 298 rfl) fl_13_216 (by decide) (Or.inr ⟨rfl, rfl, rfl⟩) (Or.inr ⟨_, rfl⟩) rfl hf524 ?_
  obtain ⟨S526, en527⟩ : ∃ Z : Mem, Z = uR S522 r0 67 (tp S518) := ⟨_, rfl⟩
  rw [← en527]
  have h := h S526 en527
  have hf528 : isK S526 r0 13 := by rw [en527]; exact hf524
  refine V_aload_n (pc2 := 580) (dk D_X13_init 299 rfl) rfl (V_lg 0 rfl) rfl ?_
  refine V_bipush (x := 12) (pc2 := 582) (dk D_X13_init 300 rfl) (by decide) rfl ?_
  have hd529 : decode MX13_init.2.1 582 = .ok (.newarray .int, 2) := dk D_X13_init 301 rfl
  refine V_newa21 (n := 12) (pc2 := 584) hd529 ac_21 rfl (litI 12) (Nat.le_of_ble_eq_true rfl) ?_
  obtain ⟨S530, en531⟩ : ∃ Z : Mem, Z = nw S526 21 12 12 := ⟨_, rfl⟩
  rw [← en531]
  have h := h S530 en531
  have hf532 : isK S530 r0 13 := by rw [en531]; exact isK_nw hf528
  have hf533 : isK S530 (tp S526) 21 := by rw [en531]; exact isK_new
  refine V_putR kc13 (pc2 := 587) 68 (dk D_X13_init 302 rfl) fl_13_219 (by decide) (Or.inr ⟨rfl, rfl, rfl⟩) (Or.inr ⟨_, rfl⟩) rfl hf532 ?_
  obtain ⟨S534, en535⟩ : ∃ Z : Mem, Z = uR S530 r0 68 (tp S526) := ⟨_, rfl⟩
  rw [← en535]
  have h := h S534 en535
  have hf536 : isK S534 r0 13 := by rw [en535]; exact hf532
  refine V_aload_n (pc2 := 588) (dk D_X13_init 303 rfl) rfl (V_lg 0 rfl) rfl ?_
  refine V_sipush (x := 18000) (pc2 := 591) (dk D_X13_init 304 rfl) (by decide) rfl ?_
  have hd537 : decode MX13_init.2.1 591 = .ok (.newarray .int, 2) := dk D_X13_init 305 rfl
  refine V_newa21 (n := 18000) (pc2 := 593) hd537 ac_21 rfl (litI 18000) (Nat.le_of_ble_eq_true rfl) ?_
  obtain ⟨S538, en539⟩ : ∃ Z : Mem, Z = nw S534 21 18000 18000 := ⟨_, rfl⟩
  rw [← en539]
  have h := h S538 en539
  have hf540 : isK S538 r0 13 := by rw [en539]; exact isK_nw hf536
  have hf541 : isK S538 (tp S534) 21 := by rw [en539]; exact isK_new
  refine V_putR kc13 (pc2 := 596) 69 (dk D_X13_init 306 rfl) fl_13_222 (by decide) (Or.inr ⟨rfl, rfl, rfl⟩) (Or.inr ⟨_, rfl⟩) rfl hf540 ?_
  obtain ⟨S542, en543⟩ : ∃ Z : Mem, Z = uR S538 r0 69 (tp S534) := ⟨_, rfl⟩
  rw [← en543]
  have h := h S542 en543
  have hf544 : isK S542 r0 13 := by rw [en543]; exact hf540
  refine V_aload_n (pc2 := 597) (dk D_X13_init 307 rfl) rfl (V_lg 0 rfl) rfl ?_
  refine V_sipush (x := 18000) (pc2 := 600) (dk D_X13_init 308 rfl) (by decide) rfl ?_
  have hd545 : decode MX13_init.2.1 600 = .ok (.newarray .int, 2) := dk D_X13_init 309 rfl
  refine V_newa21 (n := 18000) (pc2 := 602) hd545 ac_21 rfl (litI 18000) (Nat.le_of_ble_eq_true rfl) ?_
  obtain ⟨S546, en547⟩ : ∃ Z : Mem, Z = nw S542 21 18000 18000 := ⟨_, rfl⟩
  rw [← en547]
  have h := h S546 en547
  have hf548 : isK S546 r0 13 := by rw [en547]; exact isK_nw hf544
  have hf549 : isK S546 (tp S542) 21 := by rw [en547]; exact isK_new
  refine V_putR kc13 (pc2 := 605) 70 (dk D_X13_init 310 rfl) fl_13_225 (by decide) (Or.inr ⟨rfl, rfl, rfl⟩) (Or.inr ⟨_, rfl⟩) rfl hf548 ?_
  obtain ⟨S550, en551⟩ : ∃ Z : Mem, Z = uR S546 r0 70 (tp S542) := ⟨_, rfl⟩
  rw [← en551]
  have h := h S550 en551
  have hf552 : isK S550 r0 13 := by rw [en551]; exact hf548
  refine V_aload_n (pc2 := 606) (dk D_X13_init 311 rfl) rfl (V_lg 0 rfl) rfl ?_
  refine V_sipush (x := 18000) (pc2 := 609) (dk D_X13_init 312 rfl) (by decide) rfl ?_
  have hd553 : decode MX13_init.2.1 609 = .ok (.newarray .int, 2) := dk D_X13_init 313 rfl
  refine V_newa21 (n := 18000) (pc2 := 611) hd553 ac_21 rfl (litI 18000) (Nat.le_of_ble_eq_true rfl) ?_
  obtain ⟨S554, en555⟩ : ∃ Z : Mem, Z = nw S550 21 18000 18000 := ⟨_, rfl⟩
  rw [← en555]
  have h := h S554 en555
  have hf556 : isK S554 r0 13 := by rw [en555]; exact isK_nw hf552
  have hf557 : isK S554 (tp S550) 21 := by rw [en555]; exact isK_new
  refine V_putR kc13 (pc2 := 614) 71 (dk D_X13_init 314 rfl) fl_13_228 (by decide) (Or.inr ⟨rfl, rfl, rfl⟩) (Or.inr ⟨_, rfl⟩) rfl hf556 ?_
  obtain ⟨S558, en559⟩ : ∃ Z : Mem, Z = uR S554 r0 71 (tp S550) := ⟨_, rfl⟩
  rw [← en559]
  have h := h S558 en559
  have hf560 : isK S558 r0 13 := by rw [en559]; exact hf556
  refine V_aload_n (pc2 := 615) (dk D_X13_init 315 rfl) rfl (V_lg 0 rfl) rfl ?_
  refine V_sipush (x := 18000) (pc2 := 618) (dk D_X13_init 316 rfl) (by decide) rfl ?_
  have hd561 : decode MX13_init.2.1 618 = .ok (.newarray .int, 2) := dk D_X13_init 317 rfl
  refine V_newa21 (n := 18000) (pc2 := 620) hd561 ac_21 rfl (litI 18000) (Nat.le_of_ble_eq_true rfl) ?_
  obtain ⟨S562, en563⟩ : ∃ Z : Mem, Z = nw S558 21 18000 18000 := ⟨_, rfl⟩
  rw [← en563]
  have h := h S562 en563
  have hf564 : isK S562 r0 13 := by rw [en563]; exact isK_nw hf560
  have hf565 : isK S562 (tp S558) 21 := by rw [en563]; exact isK_new
  refine V_putR kc13 (pc2 := 623) 72 (dk D_X13_init 318 rfl) fl_13_231 (by decide) (Or.inr ⟨rfl, rfl, rfl⟩) (Or.inr ⟨_, rfl⟩) rfl hf564 ?_
  obtain ⟨S566, en567⟩ : ∃ Z : Mem, Z = uR S562 r0 72 (tp S558) := ⟨_, rfl⟩
  rw [← en567]
  have h := h S566 en567
  have hf568 : isK S566 r0 13 := by rw [en567]; exact hf564
  refine V_aload_n (pc2 := 624) (dk D_X13_init 319 rfl) rfl (V_lg 0 rfl) rfl ?_
  refine V_bipush (x := 12) (pc2 := 626) (dk D_X13_init 320 rfl) (by decide) rfl ?_
  have hd569 : decode MX13_init.2.1 626 = .ok (.newarray .int, 2) := dk D_X13_init 321 rfl
  refine V_newa21 (n := 12) (pc2 := 628) hd569 ac_21 rfl (litI 12) (Nat.le_of_ble_eq_true rfl) ?_
  obtain ⟨S570, en571⟩ : ∃ Z : Mem, Z = nw S566 21 12 12 := ⟨_, rfl⟩
  rw [← en571]
  have h := h S570 en571
  have hf572 : isK S570 r0 13 := by rw [en571]; exact isK_nw hf568
  have hf573 : isK S570 (tp S566) 21 := by rw [en571]; exact isK_new
  refine V_putR kc13 (pc2 := 631) 73 (dk D_X13_init 322 rfl) fl_13_234 (by decide) (Or.inr ⟨rfl, rfl, rfl⟩) (Or.inr ⟨_, rfl⟩) rfl hf572 ?_
  obtain ⟨S574, en575⟩ : ∃ Z : Mem, Z = uR S570 r0 73 (tp S566) := ⟨_, rfl⟩
  rw [← en575]
  have h := h S574 en575
  have hf576 : isK S574 r0 13 := by rw [en575]; exact hf572
  refine V_aload_n (pc2 := 632) (dk D_X13_init 323 rfl) rfl (V_lg 0 rfl) rfl ?_
  refine V_ldci (x := 122400) (pc2 := 634) (dk D_X13_init 324 rfl) ki_13_237 rfl ?_
  have hd577 : decode MX13_init.2.1 634 = .ok (.newarray .int, 2) := dk D_X13_init 325 rfl
  refine V_newa21 (n := 122400) (pc2 := 636) hd577 ac_21 rfl (litI 122400) (Nat.le_of_ble_eq_true rfl) ?_
  obtain ⟨S578, en579⟩ : ∃ Z : Mem, Z = nw S574 21 122400 122400 := ⟨_, rfl⟩
  rw [← en579]
  have h := h S578 en579
  have hf580 : isK S578 r0 13 := by rw [en579]; exact isK_nw hf576
  have hf581 : isK S578 (tp S574) 21 := by rw [en579]; exact isK_new
  refine V_putR kc13 (pc2 := 639) 74 (dk D_X13_init 326 rfl) fl_13_238 (by decide) (Or.inr ⟨rfl, rfl, rfl⟩) (Or.inr ⟨_, rfl⟩) rfl hf580 ?_
  obtain ⟨S582, en583⟩ : ∃ Z : Mem, Z = uR S578 r0 74 (tp S574) := ⟨_, rfl⟩
  rw [← en583]
  have h := h S582 en583
  have hf584 : isK S582 r0 13 := by rw [en583]; exact hf580
  refine V_aload_n (pc2 := 640) (dk D_X13_init 327 rfl) rfl (V_lg 0 rfl) rfl ?_
  refine V_sipush (x := 300) (pc2 := 643) (dk D_X13_init 328 rfl) (by decide) rfl ?_
  have hd585 : decode MX13_init.2.1 643 = .ok (.newarray .int, 2) := dk D_X13_init 329 rfl
  refine V_newa21 (n := 300) (pc2 := 645) hd585 ac_21 rfl (litI 300) (Nat.le_of_ble_eq_true rfl) ?_
  obtain ⟨S586, en587⟩ : ∃ Z : Mem, Z = nw S582 21 300 300 := ⟨_, rfl⟩
  rw [← en587]
  have h := h S586 en587
  have hf588 : isK S586 r0 13 := by rw [en587]; exact isK_nw hf584
  have hf589 : isK S586 (tp S582) 21 := by rw [en587]; exact isK_new
  refine V_putR kc13 (pc2 := 648) 81 (dk D_X13_init 330 rfl) fl_13_241 (by decide) (Or.inr ⟨rfl, rfl, rfl⟩) (Or.inr ⟨_, rfl⟩) rfl hf588 ?_
  obtain ⟨S590, en591⟩ : ∃ Z : Mem, Z = uR S586 r0 81 (tp S582) := ⟨_, rfl⟩
  rw [← en591]
  have h := h S590 en591
  have hf592 : isK S590 r0 13 := by rw [en591]; exact hf588
  refine V_aload_n (pc2 := 649) (dk D_X13_init 331 rfl) rfl (V_lg 0 rfl) rfl ?_
  refine V_sipush (x := 300) (pc2 := 652) (dk D_X13_init 332 rfl) (by decide) rfl ?_
  have hd593 : decode MX13_init.2.1 652 = .ok (.newarray .int, 2) := dk D_X13_init 333 rfl
  refine V_newa21 (n := 300) (pc2 := 654) hd593 ac_21 rfl (litI 300) (Nat.le_of_ble_eq_true rfl) ?_
  obtain ⟨S594, en595⟩ : ∃ Z : Mem, Z = nw S590 21 300 300 := ⟨_, rfl⟩
  rw [← en595]
  have h := h S594 en595
  have hf596 : isK S594 r0 13 := by rw [en595]; exact isK_nw hf592
  have hf597 : isK S594 (tp S590) 21 := by rw [en595]; exact isK_new
  refine V_putR kc13 (pc2 := 657) 82 (dk D_X13_init 334 rfl) fl_13_244 (by decide) (Or.inr ⟨rfl, rfl, rfl⟩) (Or.inr ⟨_, rfl⟩) rfl hf596 ?_
  obtain ⟨S598, en599⟩ : ∃ Z : Mem, Z = uR S594 r0 82 (tp S590) := ⟨_, rfl⟩
  rw [← en599]
  have h := h S598 en599
  have hf600 : isK S598 r0 13 := by rw [en599]; exact hf596
  refine V_aload_n (pc2 := 658) (dk D_X13_init 335 rfl) rfl (V_lg 0 rfl) rfl ?_
  refine V_sipush (x := 300) (pc2 := 661) (dk D_X13_init 336 rfl) (by decide) rfl ?_
  have hd601 : decode MX13_init.2.1 661 = .ok (.newarray .int, 2) := dk D_X13_init 337 rfl
  refine V_newa21 (n := 300) (pc2 := 663) hd601 ac_21 rfl (litI 300) (Nat.le_of_ble_eq_true rfl) ?_
  obtain ⟨S602, en603⟩ : ∃ Z : Mem, Z = nw S598 21 300 300 := ⟨_, rfl⟩
  rw [← en603]
  have h := h S602 en603
  have hf604 : isK S602 r0 13 := by rw [en603]; exact isK_nw hf600
  have hf605 : isK S602 (tp S598) 21 := by rw [en603]; exact isK_new
  refine V_putR kc13 (pc2 := 666) 84 (dk D_X13_init 338 rfl) fl_13_247 (by decide) (Or.inr ⟨rfl, rfl, rfl⟩) (Or.inr ⟨_, rfl⟩) rfl hf604 ?_
  obtain ⟨S606, en607⟩ : ∃ Z : Mem, Z = uR S602 r0 84 (tp S598) := ⟨_, rfl⟩
  rw [← en607]
  have h := h S606 en607
  have hf608 : isK S606 r0 13 := by rw [en607]; exact hf604
  refine V_aload_n (pc2 := 667) (dk D_X13_init 339 rfl) rfl (V_lg 0 rfl) rfl ?_
  refine V_sipush (x := 300) (pc2 := 670) (dk D_X13_init 340 rfl) (by decide) rfl ?_
  have hd609 : decode MX13_init.2.1 670 = .ok (.newarray .int, 2) := dk D_X13_init 341 rfl
  refine V_newa21 (n := 300) (pc2 := 672) hd609 ac_21 rfl (litI 300) (Nat.le_of_ble_eq_true rfl) ?_
  obtain ⟨S610, en611⟩ : ∃ Z : Mem, Z = nw S606 21 300 300 := ⟨_, rfl⟩
  rw [← en611]
  have h := h S610 en611
  have hf612 : isK S610 r0 13 := by rw [en611]; exact isK_nw hf608
  have hf613 : isK S610 (tp S606) 21 := by rw [en611]; exact isK_new
  refine V_putR kc13 (pc2 := 675) 85 (dk D_X13_init 342 rfl) fl_13_250 (by decide) (Or.inr ⟨rfl, rfl, rfl⟩) (Or.inr ⟨_, rfl⟩) rfl hf612 ?_
  obtain ⟨S614, en615⟩ : ∃ Z : Mem, Z = uR S610 r0 85 (tp S606) := ⟨_, rfl⟩
  rw [← en615]
  have h := h S614 en615
  have hf616 : isK S614 r0 13 := by rw [en615]; exact hf612
  refine V_aload_n (pc2 := 676) (dk D_X13_init 343 rfl) rfl (V_lg 0 rfl) rfl ?_
  refine V_bipush (x := 64) (pc2 := 678) (dk D_X13_init 344 rfl) (by decide) rfl ?_
  have hd617 : decode MX13_init.2.1 678 = .ok (.newarray .int, 2) := dk D_X13_init 345 rfl
  refine V_newa21 (n := 64) (pc2 := 680) hd617 ac_21 rfl (litI 64) (Nat.le_of_ble_eq_true rfl) ?_
  obtain ⟨S618, en619⟩ : ∃ Z : Mem, Z = nw S614 21 64 64 := ⟨_, rfl⟩
  rw [← en619]
  have h := h S618 en619
  have hf620 : isK S618 r0 13 := by rw [en619]; exact isK_nw hf616
  have hf621 : isK S618 (tp S614) 21 := by rw [en619]; exact isK_new
  refine V_putR kc13 (pc2 := 683) 86 (dk D_X13_init 346 rfl) fl_13_253 (by decide) (Or.inr ⟨rfl, rfl, rfl⟩) (Or.inr ⟨_, rfl⟩) rfl hf620 ?_
  obtain ⟨S622, en623⟩ : ∃ Z : Mem, Z = uR S618 r0 86 (tp S614) := ⟨_, rfl⟩
  rw [← en623]
  have h := h S622 en623
  have hf624 : isK S622 r0 13 := by rw [en623]; exact hf620
  refine V_aload_n (pc2 := 684) (dk D_X13_init 347 rfl) rfl (V_lg 0 rfl) rfl ?_
  refine V_sipush (x := 8000) (pc2 := 687) (dk D_X13_init 348 rfl) (by decide) rfl ?_
  have hd625 : decode MX13_init.2.1 687 = .ok (.newarray .int, 2) := dk D_X13_init 349 rfl
  refine V_newa21 (n := 8000) (pc2 := 689) hd625 ac_21 rfl (litI 8000) (Nat.le_of_ble_eq_true rfl) ?_
  obtain ⟨S626, en627⟩ : ∃ Z : Mem, Z = nw S622 21 8000 8000 := ⟨_, rfl⟩
  rw [← en627]
  have h := h S626 en627
  have hf628 : isK S626 r0 13 := by rw [en627]; exact isK_nw hf624
  have hf629 : isK S626 (tp S622) 21 := by rw [en627]; exact isK_new
  refine V_putR kc13 (pc2 := 692) 89 (dk D_X13_init 350 rfl) fl_13_256 (by decide) (Or.inr ⟨rfl, rfl, rfl⟩) (Or.inr ⟨_, rfl⟩) rfl hf628 ?_
  obtain ⟨S630, en631⟩ : ∃ Z : Mem, Z = uR S626 r0 89 (tp S622) := ⟨_, rfl⟩
  rw [← en631]
  have h := h S630 en631
  have hf632 : isK S630 r0 13 := by rw [en631]; exact hf628
  refine V_aload_n (pc2 := 693) (dk D_X13_init 351 rfl) rfl (V_lg 0 rfl) rfl ?_
  refine V_sipush (x := 8000) (pc2 := 696) (dk D_X13_init 352 rfl) (by decide) rfl ?_
  have hd633 : decode MX13_init.2.1 696 = .ok (.newarray .int, 2) := dk D_X13_init 353 rfl
  refine V_newa21 (n := 8000) (pc2 := 698) hd633 ac_21 rfl (litI 8000) (Nat.le_of_ble_eq_true rfl) ?_
  obtain ⟨S634, en635⟩ : ∃ Z : Mem, Z = nw S630 21 8000 8000 := ⟨_, rfl⟩
  rw [← en635]
  have h := h S634 en635
  have hf636 : isK S634 r0 13 := by rw [en635]; exact isK_nw hf632
  have hf637 : isK S634 (tp S630) 21 := by rw [en635]; exact isK_new
  refine V_putR kc13 (pc2 := 701) 90 (dk D_X13_init 354 rfl) fl_13_259 (by decide) (Or.inr ⟨rfl, rfl, rfl⟩) (Or.inr ⟨_, rfl⟩) rfl hf636 ?_
  obtain ⟨S638, en639⟩ : ∃ Z : Mem, Z = uR S634 r0 90 (tp S630) := ⟨_, rfl⟩
  rw [← en639]
  have h := h S638 en639
  have hf640 : isK S638 r0 13 := by rw [en639]; exact hf636
  refine V_aload_n (pc2 := 702) (dk D_X13_init 355 rfl) rfl (V_lg 0 rfl) rfl ?_
  refine V_sipush (x := 8000) (pc2 := 705) (dk D_X13_init 356 rfl) (by decide) rfl ?_
  have hd641 : decode MX13_init.2.1 705 = .ok (.newarray .int, 2) := dk D_X13_init 357 rfl
  refine V_newa21 (n := 8000) (pc2 := 707) hd641 ac_21 rfl (litI 8000) (Nat.le_of_ble_eq_true rfl) ?_
  obtain ⟨S642, en643⟩ : ∃ Z : Mem, Z = nw S638 21 8000 8000 := ⟨_, rfl⟩
  rw [← en643]
  have h := h S642 en643
  have hf644 : isK S642 r0 13 := by rw [en643]; exact isK_nw hf640
  have hf645 : isK S642 (tp S638) 21 := by rw [en643]; exact isK_new
  refine V_putR kc13 (pc2 := 710) 91 (dk D_X13_init 358 rfl) fl_13_262 (by decide) (Or.inr ⟨rfl, rfl, rfl⟩) (Or.inr ⟨_, rfl⟩) rfl hf644 ?_
  obtain ⟨S646, en647⟩ : ∃ Z : Mem, Z = uR S642 r0 91 (tp S638) := ⟨_, rfl⟩
  rw [← en647]
  have h := h S646 en647
  have hf648 : isK S646 r0 13 := by rw [en647]; exact hf644
  refine V_aload_n (pc2 := 711) (dk D_X13_init 359 rfl) rfl (V_lg 0 rfl) rfl ?_
  refine V_sipush (x := 8000) (pc2 := 714) (dk D_X13_init 360 rfl) (by decide) rfl ?_
  have hd649 : decode MX13_init.2.1 714 = .ok (.newarray .int, 2) := dk D_X13_init 361 rfl
  refine V_newa21 (n := 8000) (pc2 := 716) hd649 ac_21 rfl (litI 8000) (Nat.le_of_ble_eq_true rfl) ?_
  obtain ⟨S650, en651⟩ : ∃ Z : Mem, Z = nw S646 21 8000 8000 := ⟨_, rfl⟩
  rw [← en651]
  have h := h S650 en651
  have hf652 : isK S650 r0 13 := by rw [en651]; exact isK_nw hf648
  have hf653 : isK S650 (tp S646) 21 := by rw [en651]; exact isK_new
  refine V_putR kc13 (pc2 := 719) 92 (dk D_X13_init 362 rfl) fl_13_265 (by decide) (Or.inr ⟨rfl, rfl, rfl⟩) (Or.inr ⟨_, rfl⟩) rfl hf652 ?_
  obtain ⟨S654, en655⟩ : ∃ Z : Mem, Z = uR S650 r0 92 (tp S646) := ⟨_, rfl⟩
  rw [← en655]
  have h := h S654 en655
  have hf656 : isK S654 r0 13 := by rw [en655]; exact hf652
  refine V_aload_n (pc2 := 720) (dk D_X13_init 363 rfl) rfl (V_lg 0 rfl) rfl ?_
  refine V_sipush (x := 8000) (pc2 := 723) (dk D_X13_init 364 rfl) (by decide) rfl ?_
  have hd657 : decode MX13_init.2.1 723 = .ok (.newarray .int, 2) := dk D_X13_init 365 rfl
  refine V_newa21 (n := 8000) (pc2 := 725) hd657 ac_21 rfl (litI 8000) (Nat.le_of_ble_eq_true rfl) ?_
  obtain ⟨S658, en659⟩ : ∃ Z : Mem, Z = nw S654 21 8000 8000 := ⟨_, rfl⟩
  rw [← en659]
  have h := h S658 en659
  have hf660 : isK S658 r0 13 := by rw [en659]; exact isK_nw hf656
  have hf661 : isK S658 (tp S654) 21 := by rw [en659]; exact isK_new
  refine V_putR kc13 (pc2 := 728) 93 (dk D_X13_init 366 rfl) fl_13_268 (by decide) (Or.inr ⟨rfl, rfl, rfl⟩) (Or.inr ⟨_, rfl⟩) rfl hf660 ?_
  obtain ⟨S662, en663⟩ : ∃ Z : Mem, Z = uR S658 r0 93 (tp S654) := ⟨_, rfl⟩
  rw [← en663]
  have h := h S662 en663
  have hf664 : isK S662 r0 13 := by rw [en663]; exact hf660
  refine V_aload_n (pc2 := 729) (dk D_X13_init 367 rfl) rfl (V_lg 0 rfl) rfl ?_
  refine V_sipush (x := 8000) (pc2 := 732) (dk D_X13_init 368 rfl) (by decide) rfl ?_
  have hd665 : decode MX13_init.2.1 732 = .ok (.newarray .int, 2) := dk D_X13_init 369 rfl
  refine V_newa21 (n := 8000) (pc2 := 734) hd665 ac_21 rfl (litI 8000) (Nat.le_of_ble_eq_true rfl) ?_
  obtain ⟨S666, en667⟩ : ∃ Z : Mem, Z = nw S662 21 8000 8000 := ⟨_, rfl⟩
  rw [← en667]
  have h := h S666 en667
  have hf668 : isK S666 r0 13 := by rw [en667]; exact isK_nw hf664
  have hf669 : isK S666 (tp S662) 21 := by rw [en667]; exact isK_new
  refine V_putR kc13 (pc2 := 737) 94 (dk D_X13_init 370 rfl) fl_13_271 (by decide) (Or.inr ⟨rfl, rfl, rfl⟩) (Or.inr ⟨_, rfl⟩) rfl hf668 ?_
  obtain ⟨S670, en671⟩ : ∃ Z : Mem, Z = uR S666 r0 94 (tp S662) := ⟨_, rfl⟩
  rw [← en671]
  have h := h S670 en671
  have hf672 : isK S670 r0 13 := by rw [en671]; exact hf668
  refine V_aload_n (pc2 := 738) (dk D_X13_init 371 rfl) rfl (V_lg 0 rfl) rfl ?_
  refine V_sipush (x := 8000) (pc2 := 741) (dk D_X13_init 372 rfl) (by decide) rfl ?_
  have hd673 : decode MX13_init.2.1 741 = .ok (.newarray .int, 2) := dk D_X13_init 373 rfl
  refine V_newa21 (n := 8000) (pc2 := 743) hd673 ac_21 rfl (litI 8000) (Nat.le_of_ble_eq_true rfl) ?_
  obtain ⟨S674, en675⟩ : ∃ Z : Mem, Z = nw S670 21 8000 8000 := ⟨_, rfl⟩
  rw [← en675]
  have h := h S674 en675
  have hf676 : isK S674 r0 13 := by rw [en675]; exact isK_nw hf672
  have hf677 : isK S674 (tp S670) 21 := by rw [en675]; exact isK_new
  refine V_putR kc13 (pc2 := 746) 95 (dk D_X13_init 374 rfl) fl_13_274 (by decide) (Or.inr ⟨rfl, rfl, rfl⟩) (Or.inr ⟨_, rfl⟩) rfl hf676 ?_
  obtain ⟨S678, en679⟩ : ∃ Z : Mem, Z = uR S674 r0 95 (tp S670) := ⟨_, rfl⟩
  rw [← en679]
  have h := h S678 en679
  have hf680 : isK S678 r0 13 := by rw [en679]; exact hf676
  refine V_aload_n (pc2 := 747) (dk D_X13_init 375 rfl) rfl (V_lg 0 rfl) rfl ?_
  refine V_sipush (x := 8000) (pc2 := 750) (dk D_X13_init 376 rfl) (by decide) rfl ?_
  have hd681 : decode MX13_init.2.1 750 = .ok (.newarray .int, 2) := dk D_X13_init 377 rfl
  refine V_newa21 (n := 8000) (pc2 := 752) hd681 ac_21 rfl (litI 8000) (Nat.le_of_ble_eq_true rfl) ?_
  obtain ⟨S682, en683⟩ : ∃ Z : Mem, Z = nw S678 21 8000 8000 := ⟨_, rfl⟩
  rw [← en683]
  have h := h S682 en683
  have hf684 : isK S682 r0 13 := by rw [en683]; exact isK_nw hf680
  have hf685 : isK S682 (tp S678) 21 := by rw [en683]; exact isK_new
  refine V_putR kc13 (pc2 := 755) 96 (dk D_X13_init 378 rfl) fl_13_277 (by decide) (Or.inr ⟨rfl, rfl, rfl⟩) (Or.inr ⟨_, rfl⟩) rfl hf684 ?_
  obtain ⟨S686, en687⟩ : ∃ Z : Mem, Z = uR S682 r0 96 (tp S678) := ⟨_, rfl⟩
  rw [← en687]
  have h := h S686 en687
  have hf688 : isK S686 r0 13 := by rw [en687]; exact hf684
  refine V_aload_n (pc2 := 756) (dk D_X13_init 379 rfl) rfl (V_lg 0 rfl) rfl ?_
  refine V_bipush (x := 61) (pc2 := 758) (dk D_X13_init 380 rfl) (by decide) rfl ?_
  have hd689 : decode MX13_init.2.1 758 = .ok (.newarray .boolean, 2) := dk D_X13_init 381 rfl
  refine V_newa23 (n := 61) (pc2 := 760) hd689 ac_23 rfl (litI 61) (Nat.le_of_ble_eq_true rfl) ?_
  obtain ⟨S690, en691⟩ : ∃ Z : Mem, Z = nw S686 23 61 61 := ⟨_, rfl⟩
  rw [← en691]
  have h := h S690 en691
  have hf692 : isK S690 r0 13 := by rw [en691]; exact isK_nw hf688
  have hf693 : isK S690 (tp S686) 23 := by rw [en691]; exact isK_new
  refine V_putR kc13 (pc2 := 763) 98 (dk D_X13_init 382 rfl) fl_13_280 (by decide) (Or.inr ⟨rfl, rfl, rfl⟩) (Or.inr ⟨_, rfl⟩) rfl hf692 ?_
  obtain ⟨S694, en695⟩ : ∃ Z : Mem, Z = uR S690 r0 98 (tp S686) := ⟨_, rfl⟩
  rw [← en695]
  have h := h S694 en695
  have hf696 : isK S694 r0 13 := by rw [en695]; exact hf692
  refine V_aload_n (pc2 := 764) (dk D_X13_init 383 rfl) rfl (V_lg 0 rfl) rfl ?_
  refine V_bipush (x := 40) (pc2 := 766) (dk D_X13_init 384 rfl) (by decide) rfl ?_
  have hd697 : decode MX13_init.2.1 766 = .ok (.newarray .int, 2) := dk D_X13_init 385 rfl
  refine V_newa21 (n := 40) (pc2 := 768) hd697 ac_21 rfl (litI 40) (Nat.le_of_ble_eq_true rfl) ?_
  obtain ⟨S698, en699⟩ : ∃ Z : Mem, Z = nw S694 21 40 40 := ⟨_, rfl⟩
  rw [← en699]
  have h := h S698 en699
  have hf700 : isK S698 r0 13 := by rw [en699]; exact isK_nw hf696
  have hf701 : isK S698 (tp S694) 21 := by rw [en699]; exact isK_new
  refine V_putR kc13 (pc2 := 771) 99 (dk D_X13_init 386 rfl) fl_13_283 (by decide) (Or.inr ⟨rfl, rfl, rfl⟩) (Or.inr ⟨_, rfl⟩) rfl hf700 ?_
  obtain ⟨S702, en703⟩ : ∃ Z : Mem, Z = uR S698 r0 99 (tp S694) := ⟨_, rfl⟩
  rw [← en703]
  have h := h S702 en703
  have hf704 : isK S702 r0 13 := by rw [en703]; exact hf700
  refine V_aload_n (pc2 := 772) (dk D_X13_init 387 rfl) rfl (V_lg 0 rfl) rfl ?_
  refine V_bipush (x := 40) (pc2 := 774) (dk D_X13_init 388 rfl) (by decide) rfl ?_
  have hd705 : decode MX13_init.2.1 774 = .ok (.newarray .int, 2) := dk D_X13_init 389 rfl
  refine V_newa21 (n := 40) (pc2 := 776) hd705 ac_21 rfl (litI 40) (Nat.le_of_ble_eq_true rfl) ?_
  obtain ⟨S706, en707⟩ : ∃ Z : Mem, Z = nw S702 21 40 40 := ⟨_, rfl⟩
  rw [← en707]
  have h := h S706 en707
  have hf708 : isK S706 r0 13 := by rw [en707]; exact isK_nw hf704
  have hf709 : isK S706 (tp S702) 21 := by rw [en707]; exact isK_new
  refine V_putR kc13 (pc2 := 779) 100 (dk D_X13_init 390 rfl) fl_13_286 (by decide) (Or.inr ⟨rfl, rfl, rfl⟩) (Or.inr ⟨_, rfl⟩) rfl hf708 ?_
  obtain ⟨S710, en711⟩ : ∃ Z : Mem, Z = uR S706 r0 100 (tp S702) := ⟨_, rfl⟩
  rw [← en711]
  have h := h S710 en711
  have hf712 : isK S710 r0 13 := by rw [en711]; exact hf708
  refine V_aload_n (pc2 := 780) (dk D_X13_init 391 rfl) rfl (V_lg 0 rfl) rfl ?_
  refine V_bipush (x := 40) (pc2 := 782) (dk D_X13_init 392 rfl) (by decide) rfl ?_
  have hd713 : decode MX13_init.2.1 782 = .ok (.newarray .int, 2) := dk D_X13_init 393 rfl
  refine V_newa21 (n := 40) (pc2 := 784) hd713 ac_21 rfl (litI 40) (Nat.le_of_ble_eq_true rfl) ?_
  obtain ⟨S714, en715⟩ : ∃ Z : Mem, Z = nw S710 21 40 40 := ⟨_, rfl⟩
  rw [← en715]
  have h := h S714 en715
  have hf716 : isK S714 r0 13 := by rw [en715]; exact isK_nw hf712
  have hf717 : isK S714 (tp S710) 21 := by rw [en715]; exact isK_new
  refine V_putR kc13 (pc2 := 787) 101 (dk D_X13_init 394 rfl) fl_13_289 (by decide) (Or.inr ⟨rfl, rfl, rfl⟩) (Or.inr ⟨_, rfl⟩) rfl hf716 ?_
  obtain ⟨S718, en719⟩ : ∃ Z : Mem, Z = uR S714 r0 101 (tp S710) := ⟨_, rfl⟩
  rw [← en719]
  have h := h S718 en719
  have hf720 : isK S718 r0 13 := by rw [en719]; exact hf716
  exact V_return (dk D_X13_init 395 rfl) rfl h

