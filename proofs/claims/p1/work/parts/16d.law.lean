/-! compile and the law: their walks -/
def TVC (X : Cx) (d : Nat) (M : MI) (lv : Lv) (Q : Res → Mem → Prop) (F : Mem → Prop) : Res → Mem → Prop := fun r S => (r = .inl none ∧ F S) ∨ ∃ y : Nat, r = .inr y ∧ isK S y 12 ∧ V X d M 123 lv [vR y] S Q
theorem TVC.k {X : Cx} {d : Nat} {M : MI} {pc2 : Nat} {lv : Lv} {st : List AV} {Q : Res → Mem → Prop} {F : Mem → Prop} (h : ∀ S1, F S1 → V X d M pc2 lv st S1 Q) : ∀ r S1, TVC X d M lv Q F r S1 → (∃ v, r = .inl v ∧ V X d M pc2 lv (v.toList ++ st) S1 Q) ∨ ∃ x, r = .inr x ∧ isK S1 x 12 ∧ V X d M 123 lv [vR x] S1 Q := by
  rintro r S1 (⟨e, hf⟩ | hx)
  · exact Or.inl ⟨none, e, h S1 hf⟩
  · exact Or.inr hx
def L_X13_compile : List (Nat × Instr × Nat) := [(0, .aload_n 0, 1), (1, .aload_n 0, 1), (2, .getfield 296, 3), (5, .putfield 314, 3), (8, .iconst 0, 1), (9, .istore_n 1, 1), (10, .iload_n 1, 1), (11, .aload_n 0, 1), (12, .getfield 296, 3), (15, .if_icmp .ge 21, 3), (18, .aload_n 0, 1), (19, .getfield 20, 3), (22, .iload_n 1, 1), (23, .aload_n 0, 1), (24, .getfield 16, 3), (27, .iload_n 1, 1), (28, .baload, 1), (29, .bastore, 1), (30, .iinc 1 1, 3), (33, .goto (-23), 3), (36, .aload_n 0, 1), (37, .iconst 0, 1), (38, .putfield 296, 3), (41, .aload_n 0, 1), (42, .iconst 0, 1), (43, .putfield 448, 3), (46, .aload_n 0, 1), (47, .invokevirtual 452, 3), (50, .aload_n 0, 1), (51, .iconst 0, 1), (52, .putfield 331, 3), (55, .aload_n 0, 1), (56, .iconst 0, 1), (57, .putfield 345, 3), (60, .aload_n 0, 1), (61, .iconst 0, 1), (62, .putfield 351, 3), (65, .aload_n 0, 1), (66, .iconst 0, 1), (67, .putfield 445, 3), (70, .aload_n 0, 1), (71, .iconst 0, 1), (72, .putfield 413, 3), (75, .aload_n 0, 1), (76, .iconst 0, 1), (77, .putfield 416, 3), (80, .aload_n 0, 1), (81, .iconst 0, 1), (82, .putfield 442, 3), (85, .aload_n 0, 1), (86, .bipush (-9), 2), (88, .putfield 354, 3), (91, .aload_n 0, 1), (92, .invokevirtual 455, 3), (95, .aload_n 0, 1), (96, .invokevirtual 458, 3), (99, .aload_n 0, 1), (100, .getfield 23, 3), (103, .aload_n 0, 1), (104, .getfield 331, 3), (107, .iaload, 1), (108, .bipush 6, 2), (110, .if_icmp .eq 10, 3), (113, .aload_n 0, 1), (114, .invokevirtual 458, 3), (117, .goto (-18), 3), (120, .goto 17, 3), (123, .astore_n 1, 1), (124, .aload_n 0, 1), (125, .iconst 0, 1), (126, .putfield 445, 3), (129, .bipush (-10), 2), (131, .aload_n 1, 1), (132, .getfield 328, 3), (135, .isub, 1), (136, .ireturn, 1), (137, .iconst 0, 1), (138, .istore_n 1, 1), (139, .iload_n 1, 1), (140, .aload_n 0, 1), (141, .getfield 442, 3), (144, .if_icmp .ge 136, 3), (147, .bipush (-9), 2), (149, .istore_n 2, 1), (150, .iconst 0, 1), (151, .istore_n 3, 1), (152, .iload_n 3, 1), (153, .aload_n 0, 1), (154, .getfield 445, 3), (157, .if_icmp .ge 42, 3), (160, .iload_n 2, 1), (161, .bipush (-9), 2), (163, .if_icmp .ne 28, 3), (166, .aload_n 0, 1), (167, .getfield 122, 3), (170, .iload_n 3, 1), (171, .laload, 1), (172, .aload_n 0, 1), (173, .getfield 36, 3), (176, .aload_n 0, 1), (177, .getfield 146, 3), (180, .iload_n 1, 1), (181, .iaload, 1), (182, .laload, 1), (183, .lcmp, 1), (184, .ifCond .ne 7, 3), (187, .iload_n 3, 1), (188, .goto 4, 3), (191, .iload_n 2, 1), (192, .istore_n 2, 1), (193, .iinc 3 1, 3), (196, .goto (-44), 3), (199, .aload_n 0, 1), (200, .getfield 92, 3), (203, .aload_n 0, 1), (204, .getfield 143, 3), (207, .iload_n 1, 1), (208, .iaload, 1), (209, .iaload, 1), (210, .bipush 16, 2), (212, .if_icmp .ne 7, 3), (215, .iconst 1, 1), (216, .goto 4, 3), (219, .iconst 0, 1), (220, .istore_n 3, 1), (221, .iload_n 2, 1), (222, .bipush (-9), 2), (224, .if_icmp .eq 28, 3), (227, .aload_n 0, 1), (228, .getfield 104, 3), (231, .iload_n 2, 1), (232, .iaload, 1), (233, .iload_n 3, 1), (234, .if_icmp .ne 18, 3), (237, .aload_n 0, 1), (238, .getfield 107, 3), (241, .iload_n 2, 1), (242, .iaload, 1), (243, .aload_n 0, 1), (244, .getfield 149, 3), (247, .iload_n 1, 1), (248, .iaload, 1), (249, .if_icmp .eq 13, 3), (252, .aload_n 0, 1), (253, .aload_n 0, 1), (254, .getfield 146, 3), (257, .iload_n 1, 1), (258, .iaload, 1), (259, .invokevirtual 360, 3), (262, .aload_n 0, 1), (263, .getfield 95, 3), (266, .aload_n 0, 1), (267, .getfield 143, 3), (270, .iload_n 1, 1), (271, .iaload, 1), (272, .iload_n 2, 1), (273, .iastore, 1), (274, .iinc 1 1, 3), (277, .goto (-138), 3), (280, .aload_n 0, 1), (281, .getfield 354, 3), (284, .ifCond .lt 16, 3), (287, .aload_n 0, 1), (288, .iconst 0, 1), (289, .putfield 445, 3), (292, .bipush (-10), 2), (294, .aload_n 0, 1), (295, .getfield 354, 3), (298, .isub, 1), (299, .ireturn, 1), (300, .aload_n 0, 1), (301, .iconst 1, 1), (302, .putfield 448, 3), (305, .aload_n 0, 1), (306, .getfield 445, 3), (309, .ireturn, 1)]
theorem D_X13_compile : dOk cX13_compile L_X13_compile = true := by decide +kernel
def L_L_law : List (Nat × Instr × Nat) := [(0, .new 7, 3), (3, .dup, 1), (4, .invokespecial 9, 3), (7, .astore_n 1, 1), (8, .new 10, 3), (11, .dup, 1), (12, .invokespecial 12, 3), (15, .astore_n 2, 1), (16, .iconst 0, 1), (17, .istore_n 3, 1), (18, .iload_n 3, 1), (19, .aload_n 0, 1), (20, .arraylength, 1), (21, .iconst 4, 1), (22, .isub, 1), (23, .if_icmp .gt 669, 3), (26, .aload_n 0, 1), (27, .iload_n 3, 1), (28, .iaload, 1), (29, .bipush 31, 2), (31, .iand, 1), (32, .tableswitch 654 0 20 #[100, 163, 176, 189, 222, 255, 288, 331, 354, 367, 380, 413, 456, 469, 502, 515, 548, 561, 594, 617, 640], 100), (132, .aload_n 1, 1), (133, .aload_n 0, 1), (134, .iload_n 3, 1), (135, .iconst 1, 1), (136, .iadd, 1), (137, .iaload, 1), (138, .i2l, 1), (139, .bipush 32, 2), (141, .lshl, 1), (142, .aload_n 0, 1), (143, .iload_n 3, 1), (144, .iconst 2, 1), (145, .iadd, 1), (146, .iaload, 1), (147, .i2l, 1), (148, .ldc2_w 13, 3), (151, .land, 1), (152, .lor, 1), (153, .aload_n 0, 1), (154, .iload_n 3, 1), (155, .iconst 3, 1), (156, .iadd, 1), (157, .iaload, 1), (158, .invokevirtual 15, 3), (161, .aload_n 2, 1), (162, .aload_n 0, 1), (163, .iload_n 3, 1), (164, .iconst 1, 1), (165, .iadd, 1), (166, .iaload, 1), (167, .i2l, 1), (168, .bipush 32, 2), (170, .lshl, 1), (171, .aload_n 0, 1), (172, .iload_n 3, 1), (173, .iconst 2, 1), (174, .iadd, 1), (175, .iaload, 1), (176, .i2l, 1), (177, .ldc2_w 13, 3), (180, .land, 1), (181, .lor, 1), (182, .aload_n 0, 1), (183, .iload_n 3, 1), (184, .iconst 3, 1), (185, .iadd, 1), (186, .iaload, 1), (187, .invokevirtual 19, 3), (190, .if_icmp .eq 496, 3), (193, .iconst 0, 1), (194, .ireturn, 1), (195, .aload_n 1, 1), (196, .invokevirtual 20, 3), (199, .aload_n 2, 1), (200, .invokevirtual 24, 3), (203, .if_icmp .eq 483, 3), (206, .iconst 0, 1), (207, .ireturn, 1), (208, .aload_n 1, 1), (209, .invokevirtual 25, 3), (212, .aload_n 2, 1), (213, .invokevirtual 28, 3), (216, .if_icmp .eq 470, 3), (219, .iconst 0, 1), (220, .ireturn, 1), (221, .aload_n 1, 1), (222, .aload_n 0, 1), (223, .iload_n 3, 1), (224, .iconst 1, 1), (225, .iadd, 1), (226, .iaload, 1), (227, .aload_n 0, 1), (228, .iload_n 3, 1), (229, .iconst 2, 1), (230, .iadd, 1), (231, .iaload, 1), (232, .invokevirtual 29, 3), (235, .aload_n 2, 1), (236, .aload_n 0, 1), (237, .iload_n 3, 1), (238, .iconst 1, 1), (239, .iadd, 1), (240, .iaload, 1), (241, .aload_n 0, 1), (242, .iload_n 3, 1), (243, .iconst 2, 1), (244, .iadd, 1), (245, .iaload, 1), (246, .invokevirtual 33, 3), (249, .if_icmp .eq 437, 3), (252, .iconst 0, 1), (253, .ireturn, 1), (254, .aload_n 1, 1), (255, .aload_n 0, 1), (256, .iload_n 3, 1), (257, .iconst 1, 1), (258, .iadd, 1), (259, .iaload, 1), (260, .aload_n 0, 1), (261, .iload_n 3, 1), (262, .iconst 2, 1), (263, .iadd, 1), (264, .iaload, 1), (265, .invokevirtual 34, 3), (268, .aload_n 2, 1), (269, .aload_n 0, 1), (270, .iload_n 3, 1), (271, .iconst 1, 1), (272, .iadd, 1), (273, .iaload, 1), (274, .aload_n 0, 1), (275, .iload_n 3, 1), (276, .iconst 2, 1), (277, .iadd, 1), (278, .iaload, 1), (279, .invokevirtual 37, 3), (282, .if_icmp .eq 404, 3), (285, .iconst 0, 1), (286, .ireturn, 1), (287, .aload_n 1, 1), (288, .aload_n 0, 1), (289, .iload_n 3, 1), (290, .iconst 1, 1), (291, .iadd, 1), (292, .iaload, 1), (293, .aload_n 0, 1), (294, .iload_n 3, 1), (295, .iconst 2, 1), (296, .iadd, 1), (297, .iaload, 1), (298, .invokevirtual 38, 3), (301, .aload_n 2, 1), (302, .aload_n 0, 1), (303, .iload_n 3, 1), (304, .iconst 1, 1), (305, .iadd, 1), (306, .iaload, 1), (307, .aload_n 0, 1), (308, .iload_n 3, 1), (309, .iconst 2, 1), (310, .iadd, 1), (311, .iaload, 1), (312, .invokevirtual 41, 3), (315, .if_icmp .eq 371, 3), (318, .iconst 0, 1), (319, .ireturn, 1), (320, .aload_n 1, 1), (321, .aload_n 0, 1), (322, .iload_n 3, 1), (323, .iconst 1, 1), (324, .iadd, 1), (325, .iaload, 1), (326, .aload_n 0, 1), (327, .iload_n 3, 1), (328, .iconst 2, 1), (329, .iadd, 1), (330, .iaload, 1), (331, .aload_n 0, 1), (332, .iload_n 3, 1), (333, .iconst 3, 1), (334, .iadd, 1), (335, .iaload, 1), (336, .invokevirtual 42, 3), (339, .aload_n 2, 1), (340, .aload_n 0, 1), (341, .iload_n 3, 1), (342, .iconst 1, 1), (343, .iadd, 1), (344, .iaload, 1), (345, .aload_n 0, 1), (346, .iload_n 3, 1), (347, .iconst 2, 1), (348, .iadd, 1), (349, .iaload, 1), (350, .aload_n 0, 1), (351, .iload_n 3, 1), (352, .iconst 3, 1), (353, .iadd, 1), (354, .iaload, 1), (355, .invokevirtual 46, 3), (358, .if_icmp .eq 328, 3), (361, .iconst 0, 1), (362, .ireturn, 1), (363, .aload_n 1, 1), (364, .aload_n 0, 1), (365, .iload_n 3, 1), (366, .iconst 1, 1), (367, .iadd, 1), (368, .iaload, 1), (369, .invokevirtual 47, 3), (372, .aload_n 2, 1), (373, .aload_n 0, 1), (374, .iload_n 3, 1), (375, .iconst 1, 1), (376, .iadd, 1), (377, .iaload, 1), (378, .invokevirtual 51, 3), (381, .if_icmp .eq 305, 3), (384, .iconst 0, 1), (385, .ireturn, 1), (386, .aload_n 1, 1), (387, .invokevirtual 52, 3), (390, .aload_n 2, 1), (391, .invokevirtual 55, 3), (394, .if_icmp .eq 292, 3), (397, .iconst 0, 1), (398, .ireturn, 1), (399, .aload_n 1, 1), (400, .invokevirtual 56, 3), (403, .aload_n 2, 1), (404, .invokevirtual 59, 3), (407, .if_icmp .eq 279, 3), (410, .iconst 0, 1), (411, .ireturn, 1), (412, .aload_n 1, 1), (413, .aload_n 0, 1), (414, .iload_n 3, 1), (415, .iconst 1, 1), (416, .iadd, 1), (417, .iaload, 1), (418, .aload_n 0, 1), (419, .iload_n 3, 1), (420, .iconst 2, 1), (421, .iadd, 1), (422, .iaload, 1), (423, .invokevirtual 60, 3), (426, .aload_n 2, 1), (427, .aload_n 0, 1), (428, .iload_n 3, 1), (429, .iconst 1, 1), (430, .iadd, 1), (431, .iaload, 1), (432, .aload_n 0, 1), (433, .iload_n 3, 1), (434, .iconst 2, 1), (435, .iadd, 1), (436, .iaload, 1), (437, .invokevirtual 63, 3), (440, .if_icmp .eq 246, 3), (443, .iconst 0, 1), (444, .ireturn, 1), (445, .aload_n 1, 1), (446, .aload_n 0, 1), (447, .iload_n 3, 1), (448, .iconst 1, 1), (449, .iadd, 1), (450, .iaload, 1), (451, .aload_n 0, 1), (452, .iload_n 3, 1), (453, .iconst 2, 1), (454, .iadd, 1), (455, .iaload, 1), (456, .aload_n 0, 1), (457, .iload_n 3, 1), (458, .iconst 3, 1), (459, .iadd, 1), (460, .iaload, 1), (461, .invokevirtual 64, 3), (464, .aload_n 2, 1), (465, .aload_n 0, 1), (466, .iload_n 3, 1), (467, .iconst 1, 1), (468, .iadd, 1), (469, .iaload, 1), (470, .aload_n 0, 1), (471, .iload_n 3, 1), (472, .iconst 2, 1), (473, .iadd, 1), (474, .iaload, 1), (475, .aload_n 0, 1), (476, .iload_n 3, 1), (477, .iconst 3, 1), (478, .iadd, 1), (479, .iaload, 1), (480, .invokevirtual 67, 3), (483, .if_icmp .eq 203, 3), (486, .iconst 0, 1), (487, .ireturn, 1), (488, .aload_n 1, 1), (489, .invokevirtual 68, 3), (492, .aload_n 2, 1), (493, .invokevirtual 71, 3), (496, .if_icmp .eq 190, 3), (499, .iconst 0, 1), (500, .ireturn, 1), (501, .aload_n 1, 1), (502, .aload_n 0, 1), (503, .iload_n 3, 1), (504, .iconst 1, 1), (505, .iadd, 1), (506, .iaload, 1), (507, .aload_n 0, 1), (508, .iload_n 3, 1), (509, .iconst 2, 1), (510, .iadd, 1), (511, .iaload, 1), (512, .invokevirtual 72, 3), (515, .aload_n 2, 1), (516, .aload_n 0, 1), (517, .iload_n 3, 1), (518, .iconst 1, 1), (519, .iadd, 1), (520, .iaload, 1), (521, .aload_n 0, 1), (522, .iload_n 3, 1), (523, .iconst 2, 1), (524, .iadd, 1), (525, .iaload, 1), (526, .invokevirtual 75, 3), (529, .if_icmp .eq 157, 3), (532, .iconst 0, 1), (533, .ireturn, 1), (534, .aload_n 1, 1), (535, .invokevirtual 76, 3), (538, .aload_n 2, 1), (539, .invokevirtual 79, 3), (542, .if_icmp .eq 144, 3), (545, .iconst 0, 1), (546, .ireturn, 1), (547, .aload_n 1, 1), (548, .aload_n 0, 1), (549, .iload_n 3, 1), (550, .iconst 1, 1), (551, .iadd, 1), (552, .iaload, 1), (553, .aload_n 0, 1), (554, .iload_n 3, 1), (555, .iconst 2, 1), (556, .iadd, 1), (557, .iaload, 1), (558, .invokevirtual 80, 3), (561, .aload_n 2, 1), (562, .aload_n 0, 1), (563, .iload_n 3, 1), (564, .iconst 1, 1), (565, .iadd, 1), (566, .iaload, 1), (567, .aload_n 0, 1), (568, .iload_n 3, 1), (569, .iconst 2, 1), (570, .iadd, 1), (571, .iaload, 1), (572, .invokevirtual 83, 3), (575, .if_icmp .eq 111, 3), (578, .iconst 0, 1), (579, .ireturn, 1), (580, .aload_n 1, 1), (581, .invokevirtual 84, 3), (584, .aload_n 2, 1), (585, .invokevirtual 87, 3), (588, .if_icmp .eq 98, 3), (591, .iconst 0, 1), (592, .ireturn, 1), (593, .aload_n 1, 1), (594, .aload_n 0, 1), (595, .iload_n 3, 1), (596, .iconst 1, 1), (597, .iadd, 1), (598, .iaload, 1), (599, .aload_n 0, 1), (600, .iload_n 3, 1), (601, .iconst 2, 1), (602, .iadd, 1), (603, .iaload, 1), (604, .invokevirtual 88, 3), (607, .aload_n 2, 1), (608, .aload_n 0, 1), (609, .iload_n 3, 1), (610, .iconst 1, 1), (611, .iadd, 1), (612, .iaload, 1), (613, .aload_n 0, 1), (614, .iload_n 3, 1), (615, .iconst 2, 1), (616, .iadd, 1), (617, .iaload, 1), (618, .invokevirtual 91, 3), (621, .if_icmp .eq 65, 3), (624, .iconst 0, 1), (625, .ireturn, 1), (626, .aload_n 1, 1), (627, .aload_n 0, 1), (628, .iload_n 3, 1), (629, .iconst 1, 1), (630, .iadd, 1), (631, .iaload, 1), (632, .invokevirtual 92, 3), (635, .aload_n 2, 1), (636, .aload_n 0, 1), (637, .iload_n 3, 1), (638, .iconst 1, 1), (639, .iadd, 1), (640, .iaload, 1), (641, .invokevirtual 95, 3), (644, .if_icmp .eq 42, 3), (647, .iconst 0, 1), (648, .ireturn, 1), (649, .aload_n 1, 1), (650, .aload_n 0, 1), (651, .iload_n 3, 1), (652, .iconst 1, 1), (653, .iadd, 1), (654, .iaload, 1), (655, .invokevirtual 96, 3), (658, .aload_n 2, 1), (659, .aload_n 0, 1), (660, .iload_n 3, 1), (661, .iconst 1, 1), (662, .iadd, 1), (663, .iaload, 1), (664, .invokevirtual 99, 3), (667, .if_icmp .eq 19, 3), (670, .iconst 0, 1), (671, .ireturn, 1), (672, .aload_n 1, 1), (673, .invokevirtual 100, 3), (676, .aload_n 2, 1), (677, .invokevirtual 104, 3), (680, .lcmp, 1), (681, .ifCond .eq 5, 3), (684, .iconst 0, 1), (685, .ireturn, 1), (686, .iinc 3 4, 3), (689, .goto (-671), 3), (692, .iconst 1, 1), (693, .ireturn, 1)]
theorem D_L_law : dOk cL_law L_L_law = true := by decide +kernel
theorem w_L_law_0 {X : Cx} {d : Nat} {S : Mem} {Q : Res → Mem → Prop}  (h : ∀ S1 : Mem, S1 = nw S 11 0 6 → ((tp S) ≠ 0) ∧ ∃ e2 : Nat, e2 + 1 ≤ d ∧ C X e2 MX11_init [vR (tp S)] S1 (RV fun  S5 => ∀ S7 : Mem, S7 = nw S5 13 0 103 → ((tp S5) ≠ 0) ∧ ∃ e8 : Nat, e8 + 1 ≤ d ∧ C X e8 MX13_init [vR (tp S5)] S7 (RV fun  S11 => V X d ML_law 18 [(0, vR 1), (1, vR (tp S)), (2, vR (tp S5)), (3, vI 0)] [] S11 Q))) : V X d ML_law 0 [(0, vR 1)] [] S Q := by
  refine V_newC kc11 (pc2 := 3) (dk D_L_law 0 rfl) cl_14_7 it_11 ii_11 (by decide) rfl ?_
  have h := h _ rfl
  refine V_dup (pc2 := 4) (dk D_L_law 1 rfl) rfl rfl ?_
  obtain ⟨h6, h⟩ := h
  obtain ⟨e2, he3, hc4⟩ := h
  refine V_callI (as := []) (st := [_]) (M' := MX11_init) (pc2 := 7) (dk D_L_law 2 rfl) ml_14_9 mv_X11_init rfl rfl rfl (Nat.le_of_ble_eq_true rfl) rfl he3 h6 hc4 (RV.k fun  S5 h => ?_)
  refine V_astore_n (pc2 := 8) (lv2 := [(0, _), (1, _)]) (dk D_L_law 3 rfl) rfl (by decide) rfl rfl ?_
  refine V_newC kc13 (pc2 := 11) (dk D_L_law 4 rfl) cl_14_10 it_13 ii_13 (by decide) rfl ?_
  have h := h _ rfl
  refine V_dup (pc2 := 12) (dk D_L_law 5 rfl) rfl rfl ?_
  obtain ⟨h12, h⟩ := h
  obtain ⟨e8, he9, hc10⟩ := h
  refine V_callI (as := []) (st := [_]) (M' := MX13_init) (pc2 := 15) (dk D_L_law 6 rfl) ml_14_12 mv_X13_init rfl rfl rfl (Nat.le_of_ble_eq_true rfl) rfl he9 h12 hc10 (RV.k fun  S11 h => ?_)
  refine V_astore_n (pc2 := 16) (lv2 := [(0, _), (1, _), (2, _)]) (dk D_L_law 7 rfl) rfl (by decide) rfl rfl ?_
  refine V_iconst (x := 0) (pc2 := 17) (dk D_L_law 8 rfl) (by decide) rfl ?_
  refine V_istore_n (pc2 := 18) (lv2 := [(0, _), (1, _), (2, _), (3, _)]) (dk D_L_law 9 rfl) rfl (by decide) rfl rfl ?_
  exact h
set_option maxRecDepth 100000 in
theorem w_L_law_18 {X : Cx} {d : Nat} {S : Mem} {Q : Res → Mem → Prop} (r1 : Nat) (r2 : Nat) (x3 : Int32) (h : ((((nI (gN S 1)) - 4) < x3 → Q (.inl (some (vI 1))) S) ∧ (¬ ((nI (gN S 1)) - 4) < x3 → (vp_in x3 (gN S 1)) ∧ ((((gI S 1 (x3 : Int32).toNatClampNeg) &&& 31) = 0 → (vp_in (x3 + 1) (gN S 1)) ∧ (vp_in (x3 + 2) (gN S 1)) ∧ (vp_in (x3 + 3) (gN S 1)) ∧ (isK S r1 11) ∧ ∃ e8 : Nat, e8 + 1 ≤ d ∧ C X e8 MX11_feed [vR r1, vL (((((gI S 1 ((x3 + 1) : Int32).toNatClampNeg) : Int32).toInt64) <<< ((32 : Int32).toInt64 &&& 63)) ||| ((((gI S 1 ((x3 + 2) : Int32).toNatClampNeg) : Int32).toInt64) &&& 4294967295)), vI (gI S 1 ((x3 + 3) : Int32).toNatClampNeg)] S (RI fun y11 S12 => (vp_in (x3 + 1) (gN S12 1)) ∧ (vp_in (x3 + 2) (gN S12 1)) ∧ (vp_in (x3 + 3) (gN S12 1)) ∧ (isK S12 r2 13) ∧ ∃ e17 : Nat, e17 + 1 ≤ d ∧ C X e17 MX13_feed [vR r2, vL (((((gI S12 1 ((x3 + 1) : Int32).toNatClampNeg) : Int32).toInt64) <<< ((32 : Int32).toInt64 &&& 63)) ||| ((((gI S12 1 ((x3 + 2) : Int32).toNatClampNeg) : Int32).toInt64) &&& 4294967295)), vI (gI S12 1 ((x3 + 3) : Int32).toNatClampNeg)] S12 (RI fun y20 S21 => ((y11 = y20 → V X d ML_law 686 [(0, vR 1), (1, vR r1), (2, vR r2), (3, vI x3)] [] S21 Q) ∧ (¬ y11 = y20 → Q (.inl (some (vI 0))) S21))))) ∧ (((gI S 1 (x3 : Int32).toNatClampNeg) &&& 31) = 1 → (isK S r1 11) ∧ ∃ e24 : Nat, e24 + 1 ≤ d ∧ C X e24 MX11_drop [vR r1] S (RI fun y27 S28 => (isK S28 r2 13) ∧ ∃ e30 : Nat, e30 + 1 ≤ d ∧ C X e30 MX13_drop [vR r2] S28 (RI fun y33 S34 => ((y27 = y33 → V X d ML_law 686 [(0, vR 1), (1, vR r1), (2, vR r2), (3, vI x3)] [] S34 Q) ∧ (¬ y27 = y33 → Q (.inl (some (vI 0))) S34))))) ∧ (((gI S 1 (x3 : Int32).toNatClampNeg) &&& 31) = 2 → (isK S r1 11) ∧ ∃ e37 : Nat, e37 + 1 ≤ d ∧ C X e37 MX11_compile [vR r1] S (RI fun y40 S41 => (isK S41 r2 13) ∧ ∃ e43 : Nat, e43 + 1 ≤ d ∧ Cc X e43 [vR r2] S41 (RI fun y46 S47 => ((y40 = y46 → V X d ML_law 686 [(0, vR 1), (1, vR r1), (2, vR r2), (3, vI x3)] [] S47 Q) ∧ (¬ y40 = y46 → Q (.inl (some (vI 0))) S47))))) ∧ (((gI S 1 (x3 : Int32).toNatClampNeg) &&& 31) = 3 → (vp_in (x3 + 1) (gN S 1)) ∧ (vp_in (x3 + 2) (gN S 1)) ∧ (isK S r1 11) ∧ ∃ e52 : Nat, e52 + 1 ≤ d ∧ C X e52 MX11_body [vR r1, vI (gI S 1 ((x3 + 1) : Int32).toNatClampNeg), vI (gI S 1 ((x3 + 2) : Int32).toNatClampNeg)] S (RI fun y55 S56 => (vp_in (x3 + 1) (gN S56 1)) ∧ (vp_in (x3 + 2) (gN S56 1)) ∧ (isK S56 r2 13) ∧ ∃ e60 : Nat, e60 + 1 ≤ d ∧ C X e60 MX13_body [vR r2, vI (gI S56 1 ((x3 + 1) : Int32).toNatClampNeg), vI (gI S56 1 ((x3 + 2) : Int32).toNatClampNeg)] S56 (RI fun y63 S64 => ((y55 = y63 → V X d ML_law 686 [(0, vR 1), (1, vR r1), (2, vR r2), (3, vI x3)] [] S64 Q) ∧ (¬ y55 = y63 → Q (.inl (some (vI 0))) S64))))) ∧ (((gI S 1 (x3 : Int32).toNatClampNeg) &&& 31) = 4 → (vp_in (x3 + 1) (gN S 1)) ∧ (vp_in (x3 + 2) (gN S 1)) ∧ (isK S r1 11) ∧ ∃ e69 : Nat, e69 + 1 ≤ d ∧ C X e69 MX11_voice [vR r1, vI (gI S 1 ((x3 + 1) : Int32).toNatClampNeg), vI (gI S 1 ((x3 + 2) : Int32).toNatClampNeg)] S (RI fun y72 S73 => (vp_in (x3 + 1) (gN S73 1)) ∧ (vp_in (x3 + 2) (gN S73 1)) ∧ (isK S73 r2 13) ∧ ∃ e77 : Nat, e77 + 1 ≤ d ∧ C X e77 MX13_voice [vR r2, vI (gI S73 1 ((x3 + 1) : Int32).toNatClampNeg), vI (gI S73 1 ((x3 + 2) : Int32).toNatClampNeg)] S73 (RI fun y80 S81 => ((y72 = y80 → V X d ML_law 686 [(0, vR 1), (1, vR r1), (2, vR r2), (3, vI x3)] [] S81 Q) ∧ (¬ y72 = y80 → Q (.inl (some (vI 0))) S81))))) ∧ (((gI S 1 (x3 : Int32).toNatClampNeg) &&& 31) = 5 → (vp_in (x3 + 1) (gN S 1)) ∧ (vp_in (x3 + 2) (gN S 1)) ∧ (isK S r1 11) ∧ ∃ e86 : Nat, e86 + 1 ≤ d ∧ C X e86 MX11_resume [vR r1, vI (gI S 1 ((x3 + 1) : Int32).toNatClampNeg), vI (gI S 1 ((x3 + 2) : Int32).toNatClampNeg)] S (RI fun y89 S90 => (vp_in (x3 + 1) (gN S90 1)) ∧ (vp_in (x3 + 2) (gN S90 1)) ∧ (isK S90 r2 13) ∧ ∃ e94 : Nat, e94 + 1 ≤ d ∧ C X e94 MX13_resume [vR r2, vI (gI S90 1 ((x3 + 1) : Int32).toNatClampNeg), vI (gI S90 1 ((x3 + 2) : Int32).toNatClampNeg)] S90 (RI fun y97 S98 => ((y89 = y97 → V X d ML_law 686 [(0, vR 1), (1, vR r1), (2, vR r2), (3, vI x3)] [] S98 Q) ∧ (¬ y89 = y97 → Q (.inl (some (vI 0))) S98))))) ∧ (((gI S 1 (x3 : Int32).toNatClampNeg) &&& 31) = 6 → (vp_in (x3 + 1) (gN S 1)) ∧ (vp_in (x3 + 2) (gN S 1)) ∧ (vp_in (x3 + 3) (gN S 1)) ∧ (isK S r1 11) ∧ ∃ e104 : Nat, e104 + 1 ≤ d ∧ C X e104 MX11_inject [vR r1, vI (gI S 1 ((x3 + 1) : Int32).toNatClampNeg), vI (gI S 1 ((x3 + 2) : Int32).toNatClampNeg), vI (gI S 1 ((x3 + 3) : Int32).toNatClampNeg)] S (RI fun y107 S108 => (vp_in (x3 + 1) (gN S108 1)) ∧ (vp_in (x3 + 2) (gN S108 1)) ∧ (vp_in (x3 + 3) (gN S108 1)) ∧ (isK S108 r2 13) ∧ ∃ e113 : Nat, e113 + 1 ≤ d ∧ C X e113 MX13_inject [vR r2, vI (gI S108 1 ((x3 + 1) : Int32).toNatClampNeg), vI (gI S108 1 ((x3 + 2) : Int32).toNatClampNeg), vI (gI S108 1 ((x3 + 3) : Int32).toNatClampNeg)] S108 (RI fun y116 S117 => ((y107 = y116 → V X d ML_law 686 [(0, vR 1), (1, vR r1), (2, vR r2), (3, vI x3)] [] S117 Q) ∧ (¬ y107 = y116 → Q (.inl (some (vI 0))) S117))))) ∧ (((gI S 1 (x3 : Int32).toNatClampNeg) &&& 31) = 7 → (vp_in (x3 + 1) (gN S 1)) ∧ (isK S r1 11) ∧ ∃ e121 : Nat, e121 + 1 ≤ d ∧ C X e121 MX11_close [vR r1, vI (gI S 1 ((x3 + 1) : Int32).toNatClampNeg)] S (RI fun y124 S125 => (vp_in (x3 + 1) (gN S125 1)) ∧ (isK S125 r2 13) ∧ ∃ e128 : Nat, e128 + 1 ≤ d ∧ C X e128 MX13_close [vR r2, vI (gI S125 1 ((x3 + 1) : Int32).toNatClampNeg)] S125 (RI fun y131 S132 => ((y124 = y131 → V X d ML_law 686 [(0, vR 1), (1, vR r1), (2, vR r2), (3, vI x3)] [] S132 Q) ∧ (¬ y124 = y131 → Q (.inl (some (vI 0))) S132))))) ∧ (((gI S 1 (x3 : Int32).toNatClampNeg) &&& 31) = 8 → (isK S r1 11) ∧ ∃ e135 : Nat, e135 + 1 ≤ d ∧ C X e135 MX11_sweep [vR r1] S (RI fun y138 S139 => (isK S139 r2 13) ∧ ∃ e141 : Nat, e141 + 1 ≤ d ∧ C X e141 MX13_sweep [vR r2] S139 (RI fun y144 S145 => ((y138 = y144 → V X d ML_law 686 [(0, vR 1), (1, vR r1), (2, vR r2), (3, vI x3)] [] S145 Q) ∧ (¬ y138 = y144 → Q (.inl (some (vI 0))) S145))))) ∧ (((gI S 1 (x3 : Int32).toNatClampNeg) &&& 31) = 9 → (isK S r1 11) ∧ ∃ e148 : Nat, e148 + 1 ≤ d ∧ C X e148 MX11_answer [vR r1] S (RI fun y151 S152 => (isK S152 r2 13) ∧ ∃ e154 : Nat, e154 + 1 ≤ d ∧ C X e154 MX13_answer [vR r2] S152 (RI fun y157 S158 => ((y151 = y157 → V X d ML_law 686 [(0, vR 1), (1, vR r1), (2, vR r2), (3, vI x3)] [] S158 Q) ∧ (¬ y151 = y157 → Q (.inl (some (vI 0))) S158))))) ∧ (((gI S 1 (x3 : Int32).toNatClampNeg) &&& 31) = 10 → (vp_in (x3 + 1) (gN S 1)) ∧ (vp_in (x3 + 2) (gN S 1)) ∧ (isK S r1 11) ∧ ∃ e163 : Nat, e163 + 1 ≤ d ∧ C X e163 MX11_told [vR r1, vI (gI S 1 ((x3 + 1) : Int32).toNatClampNeg), vI (gI S 1 ((x3 + 2) : Int32).toNatClampNeg)] S (RI fun y166 S167 => (vp_in (x3 + 1) (gN S167 1)) ∧ (vp_in (x3 + 2) (gN S167 1)) ∧ (isK S167 r2 13) ∧ ∃ e171 : Nat, e171 + 1 ≤ d ∧ C X e171 MX13_told [vR r2, vI (gI S167 1 ((x3 + 1) : Int32).toNatClampNeg), vI (gI S167 1 ((x3 + 2) : Int32).toNatClampNeg)] S167 (RI fun y174 S175 => ((y166 = y174 → V X d ML_law 686 [(0, vR 1), (1, vR r1), (2, vR r2), (3, vI x3)] [] S175 Q) ∧ (¬ y166 = y174 → Q (.inl (some (vI 0))) S175))))) ∧ (((gI S 1 (x3 : Int32).toNatClampNeg) &&& 31) = 11 → (vp_in (x3 + 1) (gN S 1)) ∧ (vp_in (x3 + 2) (gN S 1)) ∧ (vp_in (x3 + 3) (gN S 1)) ∧ (isK S r1 11) ∧ ∃ e181 : Nat, e181 + 1 ≤ d ∧ C X e181 MX11_local [vR r1, vI (gI S 1 ((x3 + 1) : Int32).toNatClampNeg), vI (gI S 1 ((x3 + 2) : Int32).toNatClampNeg), vI (gI S 1 ((x3 + 3) : Int32).toNatClampNeg)] S (RI fun y184 S185 => (vp_in (x3 + 1) (gN S185 1)) ∧ (vp_in (x3 + 2) (gN S185 1)) ∧ (vp_in (x3 + 3) (gN S185 1)) ∧ (isK S185 r2 13) ∧ ∃ e190 : Nat, e190 + 1 ≤ d ∧ C X e190 MX13_local [vR r2, vI (gI S185 1 ((x3 + 1) : Int32).toNatClampNeg), vI (gI S185 1 ((x3 + 2) : Int32).toNatClampNeg), vI (gI S185 1 ((x3 + 3) : Int32).toNatClampNeg)] S185 (RI fun y193 S194 => ((y184 = y193 → V X d ML_law 686 [(0, vR 1), (1, vR r1), (2, vR r2), (3, vI x3)] [] S194 Q) ∧ (¬ y184 = y193 → Q (.inl (some (vI 0))) S194))))) ∧ (((gI S 1 (x3 : Int32).toNatClampNeg) &&& 31) = 12 → (isK S r1 11) ∧ ∃ e197 : Nat, e197 + 1 ≤ d ∧ C X e197 MX11_lines [vR r1] S (RI fun y200 S201 => (isK S201 r2 13) ∧ ∃ e203 : Nat, e203 + 1 ≤ d ∧ C X e203 MX13_lines [vR r2] S201 (RI fun y206 S207 => ((y200 = y206 → V X d ML_law 686 [(0, vR 1), (1, vR r1), (2, vR r2), (3, vI x3)] [] S207 Q) ∧ (¬ y200 = y206 → Q (.inl (some (vI 0))) S207))))) ∧ (((gI S 1 (x3 : Int32).toNatClampNeg) &&& 31) = 13 → (vp_in (x3 + 1) (gN S 1)) ∧ (vp_in (x3 + 2) (gN S 1)) ∧ (isK S r1 11) ∧ ∃ e212 : Nat, e212 + 1 ≤ d ∧ C X e212 MX11_line [vR r1, vI (gI S 1 ((x3 + 1) : Int32).toNatClampNeg), vI (gI S 1 ((x3 + 2) : Int32).toNatClampNeg)] S (RI fun y215 S216 => (vp_in (x3 + 1) (gN S216 1)) ∧ (vp_in (x3 + 2) (gN S216 1)) ∧ (isK S216 r2 13) ∧ ∃ e220 : Nat, e220 + 1 ≤ d ∧ C X e220 MX13_line [vR r2, vI (gI S216 1 ((x3 + 1) : Int32).toNatClampNeg), vI (gI S216 1 ((x3 + 2) : Int32).toNatClampNeg)] S216 (RI fun y223 S224 => ((y215 = y223 → V X d ML_law 686 [(0, vR 1), (1, vR r1), (2, vR r2), (3, vI x3)] [] S224 Q) ∧ (¬ y215 = y223 → Q (.inl (some (vI 0))) S224))))) ∧ (((gI S 1 (x3 : Int32).toNatClampNeg) &&& 31) = 14 → (isK S r1 11) ∧ ∃ e227 : Nat, e227 + 1 ≤ d ∧ C X e227 MX11_handings [vR r1] S (RI fun y230 S231 => (isK S231 r2 13) ∧ ∃ e233 : Nat, e233 + 1 ≤ d ∧ C X e233 MX13_handings [vR r2] S231 (RI fun y236 S237 => ((y230 = y236 → V X d ML_law 686 [(0, vR 1), (1, vR r1), (2, vR r2), (3, vI x3)] [] S237 Q) ∧ (¬ y230 = y236 → Q (.inl (some (vI 0))) S237))))) ∧ (((gI S 1 (x3 : Int32).toNatClampNeg) &&& 31) = 15 → (vp_in (x3 + 1) (gN S 1)) ∧ (vp_in (x3 + 2) (gN S 1)) ∧ (isK S r1 11) ∧ ∃ e242 : Nat, e242 + 1 ≤ d ∧ C X e242 MX11_handing [vR r1, vI (gI S 1 ((x3 + 1) : Int32).toNatClampNeg), vI (gI S 1 ((x3 + 2) : Int32).toNatClampNeg)] S (RI fun y245 S246 => (vp_in (x3 + 1) (gN S246 1)) ∧ (vp_in (x3 + 2) (gN S246 1)) ∧ (isK S246 r2 13) ∧ ∃ e250 : Nat, e250 + 1 ≤ d ∧ C X e250 MX13_handing [vR r2, vI (gI S246 1 ((x3 + 1) : Int32).toNatClampNeg), vI (gI S246 1 ((x3 + 2) : Int32).toNatClampNeg)] S246 (RI fun y253 S254 => ((y245 = y253 → V X d ML_law 686 [(0, vR 1), (1, vR r1), (2, vR r2), (3, vI x3)] [] S254 Q) ∧ (¬ y245 = y253 → Q (.inl (some (vI 0))) S254))))) ∧ (((gI S 1 (x3 : Int32).toNatClampNeg) &&& 31) = 16 → (isK S r1 11) ∧ ∃ e257 : Nat, e257 + 1 ≤ d ∧ C X e257 MX11_failures [vR r1] S (RI fun y260 S261 => (isK S261 r2 13) ∧ ∃ e263 : Nat, e263 + 1 ≤ d ∧ C X e263 MX13_failures [vR r2] S261 (RI fun y266 S267 => ((y260 = y266 → V X d ML_law 686 [(0, vR 1), (1, vR r1), (2, vR r2), (3, vI x3)] [] S267 Q) ∧ (¬ y260 = y266 → Q (.inl (some (vI 0))) S267))))) ∧ (((gI S 1 (x3 : Int32).toNatClampNeg) &&& 31) = 17 → (vp_in (x3 + 1) (gN S 1)) ∧ (vp_in (x3 + 2) (gN S 1)) ∧ (isK S r1 11) ∧ ∃ e272 : Nat, e272 + 1 ≤ d ∧ C X e272 MX11_failure [vR r1, vI (gI S 1 ((x3 + 1) : Int32).toNatClampNeg), vI (gI S 1 ((x3 + 2) : Int32).toNatClampNeg)] S (RI fun y275 S276 => (vp_in (x3 + 1) (gN S276 1)) ∧ (vp_in (x3 + 2) (gN S276 1)) ∧ (isK S276 r2 13) ∧ ∃ e280 : Nat, e280 + 1 ≤ d ∧ C X e280 MX13_failure_ [vR r2, vI (gI S276 1 ((x3 + 1) : Int32).toNatClampNeg), vI (gI S276 1 ((x3 + 2) : Int32).toNatClampNeg)] S276 (RI fun y283 S284 => ((y275 = y283 → V X d ML_law 686 [(0, vR 1), (1, vR r1), (2, vR r2), (3, vI x3)] [] S284 Q) ∧ (¬ y275 = y283 → Q (.inl (some (vI 0))) S284))))) ∧ (((gI S 1 (x3 : Int32).toNatClampNeg) &&& 31) = 18 → (vp_in (x3 + 1) (gN S 1)) ∧ (isK S r1 11) ∧ ∃ e288 : Nat, e288 + 1 ≤ d ∧ C X e288 MX11_ring [vR r1, vI (gI S 1 ((x3 + 1) : Int32).toNatClampNeg)] S (RI fun y291 S292 => (vp_in (x3 + 1) (gN S292 1)) ∧ (isK S292 r2 13) ∧ ∃ e295 : Nat, e295 + 1 ≤ d ∧ C X e295 MX13_ring [vR r2, vI (gI S292 1 ((x3 + 1) : Int32).toNatClampNeg)] S292 (RI fun y298 S299 => ((y291 = y298 → V X d ML_law 686 [(0, vR 1), (1, vR r1), (2, vR r2), (3, vI x3)] [] S299 Q) ∧ (¬ y291 = y298 → Q (.inl (some (vI 0))) S299))))) ∧ (((gI S 1 (x3 : Int32).toNatClampNeg) &&& 31) = 19 → (vp_in (x3 + 1) (gN S 1)) ∧ (isK S r1 11) ∧ ∃ e303 : Nat, e303 + 1 ≤ d ∧ C X e303 MX11_count [vR r1, vI (gI S 1 ((x3 + 1) : Int32).toNatClampNeg)] S (RI fun y306 S307 => (vp_in (x3 + 1) (gN S307 1)) ∧ (isK S307 r2 13) ∧ ∃ e310 : Nat, e310 + 1 ≤ d ∧ C X e310 MX13_count [vR r2, vI (gI S307 1 ((x3 + 1) : Int32).toNatClampNeg)] S307 (RI fun y313 S314 => ((y306 = y313 → V X d ML_law 686 [(0, vR 1), (1, vR r1), (2, vR r2), (3, vI x3)] [] S314 Q) ∧ (¬ y306 = y313 → Q (.inl (some (vI 0))) S314))))) ∧ (((gI S 1 (x3 : Int32).toNatClampNeg) &&& 31) = 20 → (isK S r1 11) ∧ ∃ e317 : Nat, e317 + 1 ≤ d ∧ C X e317 MX11_digest [vR r1] S (RJ fun w320 S321 => (isK S321 r2 13) ∧ ∃ e323 : Nat, e323 + 1 ≤ d ∧ C X e323 MX13_digest [vR r2] S321 (RJ fun w326 S327 => (((lg_cmp w320 w326) = 0 → V X d ML_law 686 [(0, vR 1), (1, vR r1), (2, vR r2), (3, vI x3)] [] S327 Q) ∧ (¬ (lg_cmp w320 w326) = 0 → Q (.inl (some (vI 0))) S327))))) ∧ (¬ (((gI S 1 (x3 : Int32).toNatClampNeg) &&& 31) = 0 ∨ ((gI S 1 (x3 : Int32).toNatClampNeg) &&& 31) = 1 ∨ ((gI S 1 (x3 : Int32).toNatClampNeg) &&& 31) = 2 ∨ ((gI S 1 (x3 : Int32).toNatClampNeg) &&& 31) = 3 ∨ ((gI S 1 (x3 : Int32).toNatClampNeg) &&& 31) = 4 ∨ ((gI S 1 (x3 : Int32).toNatClampNeg) &&& 31) = 5 ∨ ((gI S 1 (x3 : Int32).toNatClampNeg) &&& 31) = 6 ∨ ((gI S 1 (x3 : Int32).toNatClampNeg) &&& 31) = 7 ∨ ((gI S 1 (x3 : Int32).toNatClampNeg) &&& 31) = 8 ∨ ((gI S 1 (x3 : Int32).toNatClampNeg) &&& 31) = 9 ∨ ((gI S 1 (x3 : Int32).toNatClampNeg) &&& 31) = 10 ∨ ((gI S 1 (x3 : Int32).toNatClampNeg) &&& 31) = 11 ∨ ((gI S 1 (x3 : Int32).toNatClampNeg) &&& 31) = 12 ∨ ((gI S 1 (x3 : Int32).toNatClampNeg) &&& 31) = 13 ∨ ((gI S 1 (x3 : Int32).toNatClampNeg) &&& 31) = 14 ∨ ((gI S 1 (x3 : Int32).toNatClampNeg) &&& 31) = 15 ∨ ((gI S 1 (x3 : Int32).toNatClampNeg) &&& 31) = 16 ∨ ((gI S 1 (x3 : Int32).toNatClampNeg) &&& 31) = 17 ∨ ((gI S 1 (x3 : Int32).toNatClampNeg) &&& 31) = 18 ∨ ((gI S 1 (x3 : Int32).toNatClampNeg) &&& 31) = 19 ∨ ((gI S 1 (x3 : Int32).toNatClampNeg) &&& 31) = 20) → V X d ML_law 686 [(0, vR 1), (1, vR r1), (2, vR r2), (3, vI x3)] [] S Q))))) : V X d ML_law 18 [(0, vR 1), (1, vR r1), (2, vR r2), (3, vI x3)] [] S Q := by
  refine V_iload_n (pc2 := 19) (dk D_L_law 10 rfl) rfl (V_lg 3 rfl) rfl ?_
  refine V_aload_n (pc2 := 20) (dk D_L_law 11 rfl) rfl (V_lg 0 rfl) rfl ?_
  refine V_slen (pc2 := 21) (dk D_L_law 12 rfl) rfl ?_
  refine V_iconst (x := 4) (pc2 := 22) (dk D_L_law 13 rfl) (by decide) rfl ?_
  refine V_isub (pc2 := 23) (dk D_L_law 14 rfl) rfl ?_
  refine V_cmpgt (tgt := 692) (pc2 := 26) (dk D_L_law 15 rfl) (by decide) rfl (fun q1 => ?_) (fun q1 => ?_)
  · have h := h.1 q1
    refine V_iconst (x := 1) (pc2 := 693) (dk D_L_law 446 rfl) (by decide) rfl ?_
    exact V_zreturn (dk D_L_law 447 rfl) rfl (Or.inr rfl) h
  · have h := h.2 q1
    refine V_aload_n (pc2 := 27) (dk D_L_law 16 rfl) rfl (V_lg 0 rfl) rfl ?_
    refine V_iload_n (pc2 := 28) (dk D_L_law 17 rfl) rfl (V_lg 3 rfl) rfl ?_
    obtain ⟨h2, h⟩ := h
    refine V_sld (pc2 := 29) (dk D_L_law 18 rfl) rfl h2 ?_
    refine V_bipush (x := 31) (pc2 := 31) (dk D_L_law 19 rfl) (by decide) rfl ?_
    refine V_iand (pc2 := 32) (dk D_L_law 20 rfl) rfl ?_
    refine V_table (dk D_L_law 21 rfl) [132, 195, 208, 221, 254, 287, 320, 363, 386, 399, 412, 445, 488, 501, 534, 547, 580, 593, 626, 649, 672] 686 (by decide) rfl (by decide) (fun q3 => ?_) (fun j4 hj q3 => ?_)
    · have h := h.2.2.2.2.2.2.2.2.2.2.2.2.2.2.2.2.2.2.2.2.2 (by rintro (hk | hk | hk | hk | hk | hk | hk | hk | hk | hk | hk | hk | hk | hk | hk | hk | hk | hk | hk | hk | hk) <;> (rw [hk] at q3; revert q3; decide))
      exact h
    · have hj2 : j4 = 0 ∨ j4 = 1 ∨ j4 = 2 ∨ j4 = 3 ∨ j4 = 4 ∨ j4 = 5 ∨ j4 = 6 ∨ j4 = 7 ∨ j4 = 8 ∨ j4 = 9 ∨ j4 = 10 ∨ j4 = 11 ∨ j4 = 12 ∨ j4 = 13 ∨ j4 = 14 ∨ j4 = 15 ∨ j4 = 16 ∨ j4 = 17 ∨ j4 = 18 ∨ j4 = 19 ∨ j4 = 20 := by simp at hj; omega
      clear hj
      rcases hj2 with rfl | rfl | rfl | rfl | rfl | rfl | rfl | rfl | rfl | rfl | rfl | rfl | rfl | rfl | rfl | rfl | rfl | rfl | rfl | rfl | rfl
      · have hx : ((gI S 1 (x3 : Int32).toNatClampNeg) &&& 31) = 0 := Int32.toInt_inj.mp (by rw [q3]; decide)
        have h := h.1 hx
        refine V_aload_n (pc2 := 133) (dk D_L_law 22 rfl) rfl (V_lg 1 rfl) rfl ?_
        refine V_aload_n (pc2 := 134) (dk D_L_law 23 rfl) rfl (V_lg 0 rfl) rfl ?_
        refine V_iload_n (pc2 := 135) (dk D_L_law 24 rfl) rfl (V_lg 3 rfl) rfl ?_
        refine V_iconst (x := 1) (pc2 := 136) (dk D_L_law 25 rfl) (by decide) rfl ?_
        refine V_iadd (pc2 := 137) (dk D_L_law 26 rfl) rfl ?_
        obtain ⟨h5, h⟩ := h
        refine V_sld (pc2 := 138) (dk D_L_law 27 rfl) rfl h5 ?_
        refine V_i2l (pc2 := 139) (dk D_L_law 28 rfl) rfl ?_
        refine V_bipush (x := 32) (pc2 := 141) (dk D_L_law 29 rfl) (by decide) rfl ?_
        refine V_lshl (pc2 := 142) (dk D_L_law 30 rfl) rfl ?_
        refine V_aload_n (pc2 := 143) (dk D_L_law 31 rfl) rfl (V_lg 0 rfl) rfl ?_
        refine V_iload_n (pc2 := 144) (dk D_L_law 32 rfl) rfl (V_lg 3 rfl) rfl ?_
        refine V_iconst (x := 2) (pc2 := 145) (dk D_L_law 33 rfl) (by decide) rfl ?_
        refine V_iadd (pc2 := 146) (dk D_L_law 34 rfl) rfl ?_
        obtain ⟨h6, h⟩ := h
        refine V_sld (pc2 := 147) (dk D_L_law 35 rfl) rfl h6 ?_
        refine V_i2l (pc2 := 148) (dk D_L_law 36 rfl) rfl ?_
        refine V_ldc2 (x := 4294967295) (pc2 := 151) (dk D_L_law 37 rfl) kl_14_13 rfl ?_
        refine V_land (pc2 := 152) (dk D_L_law 38 rfl) rfl ?_
        refine V_lor (pc2 := 153) (dk D_L_law 39 rfl) rfl ?_
        refine V_aload_n (pc2 := 154) (dk D_L_law 40 rfl) rfl (V_lg 0 rfl) rfl ?_
        refine V_iload_n (pc2 := 155) (dk D_L_law 41 rfl) rfl (V_lg 3 rfl) rfl ?_
        refine V_iconst (x := 3) (pc2 := 156) (dk D_L_law 42 rfl) (by decide) rfl ?_
        refine V_iadd (pc2 := 157) (dk D_L_law 43 rfl) rfl ?_
        obtain ⟨h7, h⟩ := h
        refine V_sld (pc2 := 158) (dk D_L_law 44 rfl) rfl h7 ?_
        obtain ⟨h13, h⟩ := h
        obtain ⟨e8, he9, hc10⟩ := h
        refine V_callV (as := [_, _]) (st := []) (M' := MX11_feed) (ci := 11) (pc2 := 161) (dk D_L_law 45 rfl) ml_14_15 mv_X11_feed rfl rfl (by decide) rfl (Nat.le_of_ble_eq_true rfl) rfl he9 h13 hc10 (RI.k fun y11 S12 h => ?_)
        refine V_aload_n (pc2 := 162) (dk D_L_law 46 rfl) rfl (V_lg 2 rfl) rfl ?_
        refine V_aload_n (pc2 := 163) (dk D_L_law 47 rfl) rfl (V_lg 0 rfl) rfl ?_
        refine V_iload_n (pc2 := 164) (dk D_L_law 48 rfl) rfl (V_lg 3 rfl) rfl ?_
        refine V_iconst (x := 1) (pc2 := 165) (dk D_L_law 49 rfl) (by decide) rfl ?_
        refine V_iadd (pc2 := 166) (dk D_L_law 50 rfl) rfl ?_
        obtain ⟨h14, h⟩ := h
        refine V_sld (pc2 := 167) (dk D_L_law 51 rfl) rfl h14 ?_
        refine V_i2l (pc2 := 168) (dk D_L_law 52 rfl) rfl ?_
        refine V_bipush (x := 32) (pc2 := 170) (dk D_L_law 53 rfl) (by decide) rfl ?_
        refine V_lshl (pc2 := 171) (dk D_L_law 54 rfl) rfl ?_
        refine V_aload_n (pc2 := 172) (dk D_L_law 55 rfl) rfl (V_lg 0 rfl) rfl ?_
        refine V_iload_n (pc2 := 173) (dk D_L_law 56 rfl) rfl (V_lg 3 rfl) rfl ?_
        refine V_iconst (x := 2) (pc2 := 174) (dk D_L_law 57 rfl) (by decide) rfl ?_
        refine V_iadd (pc2 := 175) (dk D_L_law 58 rfl) rfl ?_
        obtain ⟨h15, h⟩ := h
        refine V_sld (pc2 := 176) (dk D_L_law 59 rfl) rfl h15 ?_
        refine V_i2l (pc2 := 177) (dk D_L_law 60 rfl) rfl ?_
        refine V_ldc2 (x := 4294967295) (pc2 := 180) (dk D_L_law 61 rfl) kl_14_13 rfl ?_
        refine V_land (pc2 := 181) (dk D_L_law 62 rfl) rfl ?_
        refine V_lor (pc2 := 182) (dk D_L_law 63 rfl) rfl ?_
        refine V_aload_n (pc2 := 183) (dk D_L_law 64 rfl) rfl (V_lg 0 rfl) rfl ?_
        refine V_iload_n (pc2 := 184) (dk D_L_law 65 rfl) rfl (V_lg 3 rfl) rfl ?_
        refine V_iconst (x := 3) (pc2 := 185) (dk D_L_law 66 rfl) (by decide) rfl ?_
        refine V_iadd (pc2 := 186) (dk D_L_law 67 rfl) rfl ?_
        obtain ⟨h16, h⟩ := h
        refine V_sld (pc2 := 187) (dk D_L_law 68 rfl) rfl h16 ?_
        obtain ⟨h22, h⟩ := h
        obtain ⟨e17, he18, hc19⟩ := h
        refine V_callV (as := [_, _]) (st := [_]) (M' := MX13_feed) (ci := 13) (pc2 := 190) (dk D_L_law 69 rfl) ml_14_19 mv_X13_feed rfl rfl (by decide) rfl (Nat.le_of_ble_eq_true rfl) rfl he18 h22 hc19 (RI.k fun y20 S21 h => ?_)
        refine V_cmpeq (tgt := 686) (pc2 := 193) (dk D_L_law 70 rfl) (by decide) rfl (fun q23 => ?_) (fun q23 => ?_)
        · have h := h.1 q23
          exact h
        · have h := h.2 q23
          refine V_iconst (x := 0) (pc2 := 194) (dk D_L_law 71 rfl) (by decide) rfl ?_
          exact V_zreturn (dk D_L_law 72 rfl) rfl (Or.inl rfl) h
      · have hx : ((gI S 1 (x3 : Int32).toNatClampNeg) &&& 31) = 1 := Int32.toInt_inj.mp (by rw [q3]; decide)
        have h := h.2.1 hx
        refine V_aload_n (pc2 := 196) (dk D_L_law 73 rfl) rfl (V_lg 1 rfl) rfl ?_
        obtain ⟨h29, h⟩ := h
        obtain ⟨e24, he25, hc26⟩ := h
        refine V_callV (as := []) (st := []) (M' := MX11_drop) (ci := 11) (pc2 := 199) (dk D_L_law 74 rfl) ml_14_20 mv_X11_drop rfl rfl (by decide) rfl (Nat.le_of_ble_eq_true rfl) rfl he25 h29 hc26 (RI.k fun y27 S28 h => ?_)
        refine V_aload_n (pc2 := 200) (dk D_L_law 75 rfl) rfl (V_lg 2 rfl) rfl ?_
        obtain ⟨h35, h⟩ := h
        obtain ⟨e30, he31, hc32⟩ := h
        refine V_callV (as := []) (st := [_]) (M' := MX13_drop) (ci := 13) (pc2 := 203) (dk D_L_law 76 rfl) ml_14_24 mv_X13_drop rfl rfl (by decide) rfl (Nat.le_of_ble_eq_true rfl) rfl he31 h35 hc32 (RI.k fun y33 S34 h => ?_)
        refine V_cmpeq (tgt := 686) (pc2 := 206) (dk D_L_law 77 rfl) (by decide) rfl (fun q36 => ?_) (fun q36 => ?_)
        · have h := h.1 q36
          exact h
        · have h := h.2 q36
          refine V_iconst (x := 0) (pc2 := 207) (dk D_L_law 78 rfl) (by decide) rfl ?_
          exact V_zreturn (dk D_L_law 79 rfl) rfl (Or.inl rfl) h
      · have hx : ((gI S 1 (x3 : Int32).toNatClampNeg) &&& 31) = 2 := Int32.toInt_inj.mp (by rw [q3]; decide)
        have h := h.2.2.1 hx
        refine V_aload_n (pc2 := 209) (dk D_L_law 80 rfl) rfl (V_lg 1 rfl) rfl ?_
        obtain ⟨h42, h⟩ := h
        obtain ⟨e37, he38, hc39⟩ := h
        refine V_callV (as := []) (st := []) (M' := MX11_compile) (ci := 11) (pc2 := 212) (dk D_L_law 81 rfl) ml_14_25 mv_X11_compile rfl rfl (by decide) rfl (Nat.le_of_ble_eq_true rfl) rfl he38 h42 hc39 (RI.k fun y40 S41 h => ?_)
        refine V_aload_n (pc2 := 213) (dk D_L_law 82 rfl) rfl (V_lg 2 rfl) rfl ?_
        obtain ⟨h48, h⟩ := h
        obtain ⟨e43, he44, hc45⟩ := h
        refine V_callCc (st := [_]) (pc2 := 216) (dk D_L_law 83 rfl) rfl (Nat.le_of_ble_eq_true rfl) rfl he44 h48 hc45 (fun y46 S47 h => ?_)
        refine V_cmpeq (tgt := 686) (pc2 := 219) (dk D_L_law 84 rfl) (by decide) rfl (fun q49 => ?_) (fun q49 => ?_)
        · have h := h.1 q49
          exact h
        · have h := h.2 q49
          refine V_iconst (x := 0) (pc2 := 220) (dk D_L_law 85 rfl) (by decide) rfl ?_
          exact V_zreturn (dk D_L_law 86 rfl) rfl (Or.inl rfl) h
      · have hx : ((gI S 1 (x3 : Int32).toNatClampNeg) &&& 31) = 3 := Int32.toInt_inj.mp (by rw [q3]; decide)
        have h := h.2.2.2.1 hx
        refine V_aload_n (pc2 := 222) (dk D_L_law 87 rfl) rfl (V_lg 1 rfl) rfl ?_
        refine V_aload_n (pc2 := 223) (dk D_L_law 88 rfl) rfl (V_lg 0 rfl) rfl ?_
        refine V_iload_n (pc2 := 224) (dk D_L_law 89 rfl) rfl (V_lg 3 rfl) rfl ?_
        refine V_iconst (x := 1) (pc2 := 225) (dk D_L_law 90 rfl) (by decide) rfl ?_
        refine V_iadd (pc2 := 226) (dk D_L_law 91 rfl) rfl ?_
        obtain ⟨h50, h⟩ := h
        refine V_sld (pc2 := 227) (dk D_L_law 92 rfl) rfl h50 ?_
        refine V_aload_n (pc2 := 228) (dk D_L_law 93 rfl) rfl (V_lg 0 rfl) rfl ?_
        refine V_iload_n (pc2 := 229) (dk D_L_law 94 rfl) rfl (V_lg 3 rfl) rfl ?_
        refine V_iconst (x := 2) (pc2 := 230) (dk D_L_law 95 rfl) (by decide) rfl ?_
        refine V_iadd (pc2 := 231) (dk D_L_law 96 rfl) rfl ?_
        obtain ⟨h51, h⟩ := h
        refine V_sld (pc2 := 232) (dk D_L_law 97 rfl) rfl h51 ?_
        obtain ⟨h57, h⟩ := h
        obtain ⟨e52, he53, hc54⟩ := h
        refine V_callV (as := [_, _]) (st := []) (M' := MX11_body) (ci := 11) (pc2 := 235) (dk D_L_law 98 rfl) ml_14_29 mv_X11_body rfl rfl (by decide) rfl (Nat.le_of_ble_eq_true rfl) rfl he53 h57 hc54 (RI.k fun y55 S56 h => ?_)
        refine V_aload_n (pc2 := 236) (dk D_L_law 99 rfl) rfl (V_lg 2 rfl) rfl ?_
        refine V_aload_n (pc2 := 237) (dk D_L_law 100 rfl) rfl (V_lg 0 rfl) rfl ?_
        refine V_iload_n (pc2 := 238) (dk D_L_law 101 rfl) rfl (V_lg 3 rfl) rfl ?_
        refine V_iconst (x := 1) (pc2 := 239) (dk D_L_law 102 rfl) (by decide) rfl ?_
        refine V_iadd (pc2 := 240) (dk D_L_law 103 rfl) rfl ?_
        obtain ⟨h58, h⟩ := h
        refine V_sld (pc2 := 241) (dk D_L_law 104 rfl) rfl h58 ?_
        refine V_aload_n (pc2 := 242) (dk D_L_law 105 rfl) rfl (V_lg 0 rfl) rfl ?_
        refine V_iload_n (pc2 := 243) (dk D_L_law 106 rfl) rfl (V_lg 3 rfl) rfl ?_
        refine V_iconst (x := 2) (pc2 := 244) (dk D_L_law 107 rfl) (by decide) rfl ?_
        refine V_iadd (pc2 := 245) (dk D_L_law 108 rfl) rfl ?_
        obtain ⟨h59, h⟩ := h
        refine V_sld (pc2 := 246) (dk D_L_law 109 rfl) rfl h59 ?_
        obtain ⟨h65, h⟩ := h
        obtain ⟨e60, he61, hc62⟩ := h
        refine V_callV (as := [_, _]) (st := [_]) (M' := MX13_body) (ci := 13) (pc2 := 249) (dk D_L_law 110 rfl) ml_14_33 mv_X13_body rfl rfl (by decide) rfl (Nat.le_of_ble_eq_true rfl) rfl he61 h65 hc62 (RI.k fun y63 S64 h => ?_)
        refine V_cmpeq (tgt := 686) (pc2 := 252) (dk D_L_law 111 rfl) (by decide) rfl (fun q66 => ?_) (fun q66 => ?_)
        · have h := h.1 q66
          exact h
        · have h := h.2 q66
          refine V_iconst (x := 0) (pc2 := 253) (dk D_L_law 112 rfl) (by decide) rfl ?_
          exact V_zreturn (dk D_L_law 113 rfl) rfl (Or.inl rfl) h
      · have hx : ((gI S 1 (x3 : Int32).toNatClampNeg) &&& 31) = 4 := Int32.toInt_inj.mp (by rw [q3]; decide)
        have h := h.2.2.2.2.1 hx
        refine V_aload_n (pc2 := 255) (dk D_L_law 114 rfl) rfl (V_lg 1 rfl) rfl ?_
        refine V_aload_n (pc2 := 256) (dk D_L_law 115 rfl) rfl (V_lg 0 rfl) rfl ?_
        refine V_iload_n (pc2 := 257) (dk D_L_law 116 rfl) rfl (V_lg 3 rfl) rfl ?_
        refine V_iconst (x := 1) (pc2 := 258) (dk D_L_law 117 rfl) (by decide) rfl ?_
        refine V_iadd (pc2 := 259) (dk D_L_law 118 rfl) rfl ?_
        obtain ⟨h67, h⟩ := h
        refine V_sld (pc2 := 260) (dk D_L_law 119 rfl) rfl h67 ?_
        refine V_aload_n (pc2 := 261) (dk D_L_law 120 rfl) rfl (V_lg 0 rfl) rfl ?_
        refine V_iload_n (pc2 := 262) (dk D_L_law 121 rfl) rfl (V_lg 3 rfl) rfl ?_
        refine V_iconst (x := 2) (pc2 := 263) (dk D_L_law 122 rfl) (by decide) rfl ?_
        refine V_iadd (pc2 := 264) (dk D_L_law 123 rfl) rfl ?_
        obtain ⟨h68, h⟩ := h
        refine V_sld (pc2 := 265) (dk D_L_law 124 rfl) rfl h68 ?_
        obtain ⟨h74, h⟩ := h
        obtain ⟨e69, he70, hc71⟩ := h
        refine V_callV (as := [_, _]) (st := []) (M' := MX11_voice) (ci := 11) (pc2 := 268) (dk D_L_law 125 rfl) ml_14_34 mv_X11_voice rfl rfl (by decide) rfl (Nat.le_of_ble_eq_true rfl) rfl he70 h74 hc71 (RI.k fun y72 S73 h => ?_)
        refine V_aload_n (pc2 := 269) (dk D_L_law 126 rfl) rfl (V_lg 2 rfl) rfl ?_
        refine V_aload_n (pc2 := 270) (dk D_L_law 127 rfl) rfl (V_lg 0 rfl) rfl ?_
        refine V_iload_n (pc2 := 271) (dk D_L_law 128 rfl) rfl (V_lg 3 rfl) rfl ?_
        refine V_iconst (x := 1) (pc2 := 272) (dk D_L_law 129 rfl) (by decide) rfl ?_
        refine V_iadd (pc2 := 273) (dk D_L_law 130 rfl) rfl ?_
        obtain ⟨h75, h⟩ := h
        refine V_sld (pc2 := 274) (dk D_L_law 131 rfl) rfl h75 ?_
        refine V_aload_n (pc2 := 275) (dk D_L_law 132 rfl) rfl (V_lg 0 rfl) rfl ?_
        refine V_iload_n (pc2 := 276) (dk D_L_law 133 rfl) rfl (V_lg 3 rfl) rfl ?_
        refine V_iconst (x := 2) (pc2 := 277) (dk D_L_law 134 rfl) (by decide) rfl ?_
        refine V_iadd (pc2 := 278) (dk D_L_law 135 rfl) rfl ?_
        obtain ⟨h76, h⟩ := h
        refine V_sld (pc2 := 279) (dk D_L_law 136 rfl) rfl h76 ?_
        obtain ⟨h82, h⟩ := h
        obtain ⟨e77, he78, hc79⟩ := h
        refine V_callV (as := [_, _]) (st := [_]) (M' := MX13_voice) (ci := 13) (pc2 := 282) (dk D_L_law 137 rfl) ml_14_37 mv_X13_voice rfl rfl (by decide) rfl (Nat.le_of_ble_eq_true rfl) rfl he78 h82 hc79 (RI.k fun y80 S81 h => ?_)
        refine V_cmpeq (tgt := 686) (pc2 := 285) (dk D_L_law 138 rfl) (by decide) rfl (fun q83 => ?_) (fun q83 => ?_)
        · have h := h.1 q83
          exact h
        · have h := h.2 q83
          refine V_iconst (x := 0) (pc2 := 286) (dk D_L_law 139 rfl) (by decide) rfl ?_
          exact V_zreturn (dk D_L_law 140 rfl) rfl (Or.inl rfl) h
      · have hx : ((gI S 1 (x3 : Int32).toNatClampNeg) &&& 31) = 5 := Int32.toInt_inj.mp (by rw [q3]; decide)
        have h := h.2.2.2.2.2.1 hx
        refine V_aload_n (pc2 := 288) (dk D_L_law 141 rfl) rfl (V_lg 1 rfl) rfl ?_
        refine V_aload_n (pc2 := 289) (dk D_L_law 142 rfl) rfl (V_lg 0 rfl) rfl ?_
        refine V_iload_n (pc2 := 290) (dk D_L_law 143 rfl) rfl (V_lg 3 rfl) rfl ?_
        refine V_iconst (x := 1) (pc2 := 291) (dk D_L_law 144 rfl) (by decide) rfl ?_
        refine V_iadd (pc2 := 292) (dk D_L_law 145 rfl) rfl ?_
        obtain ⟨h84, h⟩ := h
        refine V_sld (pc2 := 293) (dk D_L_law 146 rfl) rfl h84 ?_
        refine V_aload_n (pc2 := 294) (dk D_L_law 147 rfl) rfl (V_lg 0 rfl) rfl ?_
        refine V_iload_n (pc2 := 295) (dk D_L_law 148 rfl) rfl (V_lg 3 rfl) rfl ?_
        refine V_iconst (x := 2) (pc2 := 296) (dk D_L_law 149 rfl) (by decide) rfl ?_
        refine V_iadd (pc2 := 297) (dk D_L_law 150 rfl) rfl ?_
        obtain ⟨h85, h⟩ := h
        refine V_sld (pc2 := 298) (dk D_L_law 151 rfl) rfl h85 ?_
        obtain ⟨h91, h⟩ := h
        obtain ⟨e86, he87, hc88⟩ := h
        refine V_callV (as := [_, _]) (st := []) (M' := MX11_resume) (ci := 11) (pc2 := 301) (dk D_L_law 152 rfl) ml_14_38 mv_X11_resume rfl rfl (by decide) rfl (Nat.le_of_ble_eq_true rfl) rfl he87 h91 hc88 (RI.k fun y89 S90 h => ?_)
        refine V_aload_n (pc2 := 302) (dk D_L_law 153 rfl) rfl (V_lg 2 rfl) rfl ?_
        refine V_aload_n (pc2 := 303) (dk D_L_law 154 rfl) rfl (V_lg 0 rfl) rfl ?_
        refine V_iload_n (pc2 := 304) (dk D_L_law 155 rfl) rfl (V_lg 3 rfl) rfl ?_
        refine V_iconst (x := 1) (pc2 := 305) (dk D_L_law 156 rfl) (by decide) rfl ?_
        refine V_iadd (pc2 := 306) (dk D_L_law 157 rfl) rfl ?_
        obtain ⟨h92, h⟩ := h
        refine V_sld (pc2 := 307) (dk D_L_law 158 rfl) rfl h92 ?_
        refine V_aload_n (pc2 := 308) (dk D_L_law 159 rfl) rfl (V_lg 0 rfl) rfl ?_
        refine V_iload_n (pc2 := 309) (dk D_L_law 160 rfl) rfl (V_lg 3 rfl) rfl ?_
        refine V_iconst (x := 2) (pc2 := 310) (dk D_L_law 161 rfl) (by decide) rfl ?_
        refine V_iadd (pc2 := 311) (dk D_L_law 162 rfl) rfl ?_
        obtain ⟨h93, h⟩ := h
        refine V_sld (pc2 := 312) (dk D_L_law 163 rfl) rfl h93 ?_
        obtain ⟨h99, h⟩ := h
        obtain ⟨e94, he95, hc96⟩ := h
        refine V_callV (as := [_, _]) (st := [_]) (M' := MX13_resume) (ci := 13) (pc2 := 315) (dk D_L_law 164 rfl) ml_14_41 mv_X13_resume rfl rfl (by decide) rfl (Nat.le_of_ble_eq_true rfl) rfl he95 h99 hc96 (RI.k fun y97 S98 h => ?_)
        refine V_cmpeq (tgt := 686) (pc2 := 318) (dk D_L_law 165 rfl) (by decide) rfl (fun q100 => ?_) (fun q100 => ?_)
        · have h := h.1 q100
          exact h
        · have h := h.2 q100
          refine V_iconst (x := 0) (pc2 := 319) (dk D_L_law 166 rfl) (by decide) rfl ?_
          exact V_zreturn (dk D_L_law 167 rfl) rfl (Or.inl rfl) h
      · have hx : ((gI S 1 (x3 : Int32).toNatClampNeg) &&& 31) = 6 := Int32.toInt_inj.mp (by rw [q3]; decide)
        have h := h.2.2.2.2.2.2.1 hx
        refine V_aload_n (pc2 := 321) (dk D_L_law 168 rfl) rfl (V_lg 1 rfl) rfl ?_
        refine V_aload_n (pc2 := 322) (dk D_L_law 169 rfl) rfl (V_lg 0 rfl) rfl ?_
        refine V_iload_n (pc2 := 323) (dk D_L_law 170 rfl) rfl (V_lg 3 rfl) rfl ?_
        refine V_iconst (x := 1) (pc2 := 324) (dk D_L_law 171 rfl) (by decide) rfl ?_
        refine V_iadd (pc2 := 325) (dk D_L_law 172 rfl) rfl ?_
        obtain ⟨h101, h⟩ := h
        refine V_sld (pc2 := 326) (dk D_L_law 173 rfl) rfl h101 ?_
        refine V_aload_n (pc2 := 327) (dk D_L_law 174 rfl) rfl (V_lg 0 rfl) rfl ?_
        refine V_iload_n (pc2 := 328) (dk D_L_law 175 rfl) rfl (V_lg 3 rfl) rfl ?_
        refine V_iconst (x := 2) (pc2 := 329) (dk D_L_law 176 rfl) (by decide) rfl ?_
        refine V_iadd (pc2 := 330) (dk D_L_law 177 rfl) rfl ?_
        obtain ⟨h102, h⟩ := h
        refine V_sld (pc2 := 331) (dk D_L_law 178 rfl) rfl h102 ?_
        refine V_aload_n (pc2 := 332) (dk D_L_law 179 rfl) rfl (V_lg 0 rfl) rfl ?_
        refine V_iload_n (pc2 := 333) (dk D_L_law 180 rfl) rfl (V_lg 3 rfl) rfl ?_
        refine V_iconst (x := 3) (pc2 := 334) (dk D_L_law 181 rfl) (by decide) rfl ?_
        refine V_iadd (pc2 := 335) (dk D_L_law 182 rfl) rfl ?_
        obtain ⟨h103, h⟩ := h
        refine V_sld (pc2 := 336) (dk D_L_law 183 rfl) rfl h103 ?_
        obtain ⟨h109, h⟩ := h
        obtain ⟨e104, he105, hc106⟩ := h
        refine V_callV (as := [_, _, _]) (st := []) (M' := MX11_inject) (ci := 11) (pc2 := 339) (dk D_L_law 184 rfl) ml_14_42 mv_X11_inject rfl rfl (by decide) rfl (Nat.le_of_ble_eq_true rfl) rfl he105 h109 hc106 (RI.k fun y107 S108 h => ?_)
        refine V_aload_n (pc2 := 340) (dk D_L_law 185 rfl) rfl (V_lg 2 rfl) rfl ?_
        refine V_aload_n (pc2 := 341) (dk D_L_law 186 rfl) rfl (V_lg 0 rfl) rfl ?_
        refine V_iload_n (pc2 := 342) (dk D_L_law 187 rfl) rfl (V_lg 3 rfl) rfl ?_
        refine V_iconst (x := 1) (pc2 := 343) (dk D_L_law 188 rfl) (by decide) rfl ?_
        refine V_iadd (pc2 := 344) (dk D_L_law 189 rfl) rfl ?_
        obtain ⟨h110, h⟩ := h
        refine V_sld (pc2 := 345) (dk D_L_law 190 rfl) rfl h110 ?_
        refine V_aload_n (pc2 := 346) (dk D_L_law 191 rfl) rfl (V_lg 0 rfl) rfl ?_
        refine V_iload_n (pc2 := 347) (dk D_L_law 192 rfl) rfl (V_lg 3 rfl) rfl ?_
        refine V_iconst (x := 2) (pc2 := 348) (dk D_L_law 193 rfl) (by decide) rfl ?_
        refine V_iadd (pc2 := 349) (dk D_L_law 194 rfl) rfl ?_
        obtain ⟨h111, h⟩ := h
        refine V_sld (pc2 := 350) (dk D_L_law 195 rfl) rfl h111 ?_
        refine V_aload_n (pc2 := 351) (dk D_L_law 196 rfl) rfl (V_lg 0 rfl) rfl ?_
        refine V_iload_n (pc2 := 352) (dk D_L_law 197 rfl) rfl (V_lg 3 rfl) rfl ?_
        refine V_iconst (x := 3) (pc2 := 353) (dk D_L_law 198 rfl) (by decide) rfl ?_
        refine V_iadd (pc2 := 354) (dk D_L_law 199 rfl) rfl ?_
        obtain ⟨h112, h⟩ := h
        refine V_sld (pc2 := 355) (dk D_L_law 200 rfl) rfl h112 ?_
        obtain ⟨h118, h⟩ := h
        obtain ⟨e113, he114, hc115⟩ := h
        refine V_callV (as := [_, _, _]) (st := [_]) (M' := MX13_inject) (ci := 13) (pc2 := 358) (dk D_L_law 201 rfl) ml_14_46 mv_X13_inject rfl rfl (by decide) rfl (Nat.le_of_ble_eq_true rfl) rfl he114 h118 hc115 (RI.k fun y116 S117 h => ?_)
        refine V_cmpeq (tgt := 686) (pc2 := 361) (dk D_L_law 202 rfl) (by decide) rfl (fun q119 => ?_) (fun q119 => ?_)
        · have h := h.1 q119
          exact h
        · have h := h.2 q119
          refine V_iconst (x := 0) (pc2 := 362) (dk D_L_law 203 rfl) (by decide) rfl ?_
          exact V_zreturn (dk D_L_law 204 rfl) rfl (Or.inl rfl) h
      · have hx : ((gI S 1 (x3 : Int32).toNatClampNeg) &&& 31) = 7 := Int32.toInt_inj.mp (by rw [q3]; decide)
        have h := h.2.2.2.2.2.2.2.1 hx
        refine V_aload_n (pc2 := 364) (dk D_L_law 205 rfl) rfl (V_lg 1 rfl) rfl ?_
        refine V_aload_n (pc2 := 365) (dk D_L_law 206 rfl) rfl (V_lg 0 rfl) rfl ?_
        refine V_iload_n (pc2 := 366) (dk D_L_law 207 rfl) rfl (V_lg 3 rfl) rfl ?_
        refine V_iconst (x := 1) (pc2 := 367) (dk D_L_law 208 rfl) (by decide) rfl ?_
        refine V_iadd (pc2 := 368) (dk D_L_law 209 rfl) rfl ?_
        obtain ⟨h120, h⟩ := h
        refine V_sld (pc2 := 369) (dk D_L_law 210 rfl) rfl h120 ?_
        obtain ⟨h126, h⟩ := h
        obtain ⟨e121, he122, hc123⟩ := h
        refine V_callV (as := [_]) (st := []) (M' := MX11_close) (ci := 11) (pc2 := 372) (dk D_L_law 211 rfl) ml_14_47 mv_X11_close rfl rfl (by decide) rfl (Nat.le_of_ble_eq_true rfl) rfl he122 h126 hc123 (RI.k fun y124 S125 h => ?_)
        refine V_aload_n (pc2 := 373) (dk D_L_law 212 rfl) rfl (V_lg 2 rfl) rfl ?_
        refine V_aload_n (pc2 := 374) (dk D_L_law 213 rfl) rfl (V_lg 0 rfl) rfl ?_
        refine V_iload_n (pc2 := 375) (dk D_L_law 214 rfl) rfl (V_lg 3 rfl) rfl ?_
        refine V_iconst (x := 1) (pc2 := 376) (dk D_L_law 215 rfl) (by decide) rfl ?_
        refine V_iadd (pc2 := 377) (dk D_L_law 216 rfl) rfl ?_
        obtain ⟨h127, h⟩ := h
        refine V_sld (pc2 := 378) (dk D_L_law 217 rfl) rfl h127 ?_
        obtain ⟨h133, h⟩ := h
        obtain ⟨e128, he129, hc130⟩ := h
        refine V_callV (as := [_]) (st := [_]) (M' := MX13_close) (ci := 13) (pc2 := 381) (dk D_L_law 218 rfl) ml_14_51 mv_X13_close rfl rfl (by decide) rfl (Nat.le_of_ble_eq_true rfl) rfl he129 h133 hc130 (RI.k fun y131 S132 h => ?_)
        refine V_cmpeq (tgt := 686) (pc2 := 384) (dk D_L_law 219 rfl) (by decide) rfl (fun q134 => ?_) (fun q134 => ?_)
        · have h := h.1 q134
          exact h
        · have h := h.2 q134
          refine V_iconst (x := 0) (pc2 := 385) (dk D_L_law 220 rfl) (by decide) rfl ?_
          exact V_zreturn (dk D_L_law 221 rfl) rfl (Or.inl rfl) h
      · have hx : ((gI S 1 (x3 : Int32).toNatClampNeg) &&& 31) = 8 := Int32.toInt_inj.mp (by rw [q3]; decide)
        have h := h.2.2.2.2.2.2.2.2.1 hx
        refine V_aload_n (pc2 := 387) (dk D_L_law 222 rfl) rfl (V_lg 1 rfl) rfl ?_
        obtain ⟨h140, h⟩ := h
        obtain ⟨e135, he136, hc137⟩ := h
        refine V_callV (as := []) (st := []) (M' := MX11_sweep) (ci := 11) (pc2 := 390) (dk D_L_law 223 rfl) ml_14_52 mv_X11_sweep rfl rfl (by decide) rfl (Nat.le_of_ble_eq_true rfl) rfl he136 h140 hc137 (RI.k fun y138 S139 h => ?_)
        refine V_aload_n (pc2 := 391) (dk D_L_law 224 rfl) rfl (V_lg 2 rfl) rfl ?_
        obtain ⟨h146, h⟩ := h
        obtain ⟨e141, he142, hc143⟩ := h
        refine V_callV (as := []) (st := [_]) (M' := MX13_sweep) (ci := 13) (pc2 := 394) (dk D_L_law 225 rfl) ml_14_55 mv_X13_sweep rfl rfl (by decide) rfl (Nat.le_of_ble_eq_true rfl) rfl he142 h146 hc143 (RI.k fun y144 S145 h => ?_)
        refine V_cmpeq (tgt := 686) (pc2 := 397) (dk D_L_law 226 rfl) (by decide) rfl (fun q147 => ?_) (fun q147 => ?_)
        · have h := h.1 q147
          exact h
        · have h := h.2 q147
          refine V_iconst (x := 0) (pc2 := 398) (dk D_L_law 227 rfl) (by decide) rfl ?_
          exact V_zreturn (dk D_L_law 228 rfl) rfl (Or.inl rfl) h
      · have hx : ((gI S 1 (x3 : Int32).toNatClampNeg) &&& 31) = 9 := Int32.toInt_inj.mp (by rw [q3]; decide)
        have h := h.2.2.2.2.2.2.2.2.2.1 hx
        refine V_aload_n (pc2 := 400) (dk D_L_law 229 rfl) rfl (V_lg 1 rfl) rfl ?_
        obtain ⟨h153, h⟩ := h
        obtain ⟨e148, he149, hc150⟩ := h
        refine V_callV (as := []) (st := []) (M' := MX11_answer) (ci := 11) (pc2 := 403) (dk D_L_law 230 rfl) ml_14_56 mv_X11_answer rfl rfl (by decide) rfl (Nat.le_of_ble_eq_true rfl) rfl he149 h153 hc150 (RI.k fun y151 S152 h => ?_)
        refine V_aload_n (pc2 := 404) (dk D_L_law 231 rfl) rfl (V_lg 2 rfl) rfl ?_
        obtain ⟨h159, h⟩ := h
        obtain ⟨e154, he155, hc156⟩ := h
        refine V_callV (as := []) (st := [_]) (M' := MX13_answer) (ci := 13) (pc2 := 407) (dk D_L_law 232 rfl) ml_14_59 mv_X13_answer rfl rfl (by decide) rfl (Nat.le_of_ble_eq_true rfl) rfl he155 h159 hc156 (RI.k fun y157 S158 h => ?_)
        refine V_cmpeq (tgt := 686) (pc2 := 410) (dk D_L_law 233 rfl) (by decide) rfl (fun q160 => ?_) (fun q160 => ?_)
        · have h := h.1 q160
          exact h
        · have h := h.2 q160
          refine V_iconst (x := 0) (pc2 := 411) (dk D_L_law 234 rfl) (by decide) rfl ?_
          exact V_zreturn (dk D_L_law 235 rfl) rfl (Or.inl rfl) h
      · have hx : ((gI S 1 (x3 : Int32).toNatClampNeg) &&& 31) = 10 := Int32.toInt_inj.mp (by rw [q3]; decide)
        have h := h.2.2.2.2.2.2.2.2.2.2.1 hx
        refine V_aload_n (pc2 := 413) (dk D_L_law 236 rfl) rfl (V_lg 1 rfl) rfl ?_
        refine V_aload_n (pc2 := 414) (dk D_L_law 237 rfl) rfl (V_lg 0 rfl) rfl ?_
        refine V_iload_n (pc2 := 415) (dk D_L_law 238 rfl) rfl (V_lg 3 rfl) rfl ?_
        refine V_iconst (x := 1) (pc2 := 416) (dk D_L_law 239 rfl) (by decide) rfl ?_
        refine V_iadd (pc2 := 417) (dk D_L_law 240 rfl) rfl ?_
        obtain ⟨h161, h⟩ := h
        refine V_sld (pc2 := 418) (dk D_L_law 241 rfl) rfl h161 ?_
        refine V_aload_n (pc2 := 419) (dk D_L_law 242 rfl) rfl (V_lg 0 rfl) rfl ?_
        refine V_iload_n (pc2 := 420) (dk D_L_law 243 rfl) rfl (V_lg 3 rfl) rfl ?_
        refine V_iconst (x := 2) (pc2 := 421) (dk D_L_law 244 rfl) (by decide) rfl ?_
        refine V_iadd (pc2 := 422) (dk D_L_law 245 rfl) rfl ?_
        obtain ⟨h162, h⟩ := h
        refine V_sld (pc2 := 423) (dk D_L_law 246 rfl) rfl h162 ?_
        obtain ⟨h168, h⟩ := h
        obtain ⟨e163, he164, hc165⟩ := h
        refine V_callV (as := [_, _]) (st := []) (M' := MX11_told) (ci := 11) (pc2 := 426) (dk D_L_law 247 rfl) ml_14_60 mv_X11_told rfl rfl (by decide) rfl (Nat.le_of_ble_eq_true rfl) rfl he164 h168 hc165 (RI.k fun y166 S167 h => ?_)
        refine V_aload_n (pc2 := 427) (dk D_L_law 248 rfl) rfl (V_lg 2 rfl) rfl ?_
        refine V_aload_n (pc2 := 428) (dk D_L_law 249 rfl) rfl (V_lg 0 rfl) rfl ?_
        refine V_iload_n (pc2 := 429) (dk D_L_law 250 rfl) rfl (V_lg 3 rfl) rfl ?_
        refine V_iconst (x := 1) (pc2 := 430) (dk D_L_law 251 rfl) (by decide) rfl ?_
        refine V_iadd (pc2 := 431) (dk D_L_law 252 rfl) rfl ?_
        obtain ⟨h169, h⟩ := h
        refine V_sld (pc2 := 432) (dk D_L_law 253 rfl) rfl h169 ?_
        refine V_aload_n (pc2 := 433) (dk D_L_law 254 rfl) rfl (V_lg 0 rfl) rfl ?_
        refine V_iload_n (pc2 := 434) (dk D_L_law 255 rfl) rfl (V_lg 3 rfl) rfl ?_
        refine V_iconst (x := 2) (pc2 := 435) (dk D_L_law 256 rfl) (by decide) rfl ?_
        refine V_iadd (pc2 := 436) (dk D_L_law 257 rfl) rfl ?_
        obtain ⟨h170, h⟩ := h
        refine V_sld (pc2 := 437) (dk D_L_law 258 rfl) rfl h170 ?_
        obtain ⟨h176, h⟩ := h
        obtain ⟨e171, he172, hc173⟩ := h
        refine V_callV (as := [_, _]) (st := [_]) (M' := MX13_told) (ci := 13) (pc2 := 440) (dk D_L_law 259 rfl) ml_14_63 mv_X13_told rfl rfl (by decide) rfl (Nat.le_of_ble_eq_true rfl) rfl he172 h176 hc173 (RI.k fun y174 S175 h => ?_)
        refine V_cmpeq (tgt := 686) (pc2 := 443) (dk D_L_law 260 rfl) (by decide) rfl (fun q177 => ?_) (fun q177 => ?_)
        · have h := h.1 q177
          exact h
        · have h := h.2 q177
          refine V_iconst (x := 0) (pc2 := 444) (dk D_L_law 261 rfl) (by decide) rfl ?_
          exact V_zreturn (dk D_L_law 262 rfl) rfl (Or.inl rfl) h
      · have hx : ((gI S 1 (x3 : Int32).toNatClampNeg) &&& 31) = 11 := Int32.toInt_inj.mp (by rw [q3]; decide)
        have h := h.2.2.2.2.2.2.2.2.2.2.2.1 hx
        refine V_aload_n (pc2 := 446) (dk D_L_law 263 rfl) rfl (V_lg 1 rfl) rfl ?_
        refine V_aload_n (pc2 := 447) (dk D_L_law 264 rfl) rfl (V_lg 0 rfl) rfl ?_
        refine V_iload_n (pc2 := 448) (dk D_L_law 265 rfl) rfl (V_lg 3 rfl) rfl ?_
        refine V_iconst (x := 1) (pc2 := 449) (dk D_L_law 266 rfl) (by decide) rfl ?_
        refine V_iadd (pc2 := 450) (dk D_L_law 267 rfl) rfl ?_
        obtain ⟨h178, h⟩ := h
        refine V_sld (pc2 := 451) (dk D_L_law 268 rfl) rfl h178 ?_
        refine V_aload_n (pc2 := 452) (dk D_L_law 269 rfl) rfl (V_lg 0 rfl) rfl ?_
        refine V_iload_n (pc2 := 453) (dk D_L_law 270 rfl) rfl (V_lg 3 rfl) rfl ?_
        refine V_iconst (x := 2) (pc2 := 454) (dk D_L_law 271 rfl) (by decide) rfl ?_
        refine V_iadd (pc2 := 455) (dk D_L_law 272 rfl) rfl ?_
        obtain ⟨h179, h⟩ := h
        refine V_sld (pc2 := 456) (dk D_L_law 273 rfl) rfl h179 ?_
        refine V_aload_n (pc2 := 457) (dk D_L_law 274 rfl) rfl (V_lg 0 rfl) rfl ?_
        refine V_iload_n (pc2 := 458) (dk D_L_law 275 rfl) rfl (V_lg 3 rfl) rfl ?_
        refine V_iconst (x := 3) (pc2 := 459) (dk D_L_law 276 rfl) (by decide) rfl ?_
        refine V_iadd (pc2 := 460) (dk D_L_law 277 rfl) rfl ?_
        obtain ⟨h180, h⟩ := h
        refine V_sld (pc2 := 461) (dk D_L_law 278 rfl) rfl h180 ?_
        obtain ⟨h186, h⟩ := h
        obtain ⟨e181, he182, hc183⟩ := h
        refine V_callV (as := [_, _, _]) (st := []) (M' := MX11_local) (ci := 11) (pc2 := 464) (dk D_L_law 279 rfl) ml_14_64 mv_X11_local rfl rfl (by decide) rfl (Nat.le_of_ble_eq_true rfl) rfl he182 h186 hc183 (RI.k fun y184 S185 h => ?_)
        refine V_aload_n (pc2 := 465) (dk D_L_law 280 rfl) rfl (V_lg 2 rfl) rfl ?_
        refine V_aload_n (pc2 := 466) (dk D_L_law 281 rfl) rfl (V_lg 0 rfl) rfl ?_
        refine V_iload_n (pc2 := 467) (dk D_L_law 282 rfl) rfl (V_lg 3 rfl) rfl ?_
        refine V_iconst (x := 1) (pc2 := 468) (dk D_L_law 283 rfl) (by decide) rfl ?_
        refine V_iadd (pc2 := 469) (dk D_L_law 284 rfl) rfl ?_
        obtain ⟨h187, h⟩ := h
        refine V_sld (pc2 := 470) (dk D_L_law 285 rfl) rfl h187 ?_
        refine V_aload_n (pc2 := 471) (dk D_L_law 286 rfl) rfl (V_lg 0 rfl) rfl ?_
        refine V_iload_n (pc2 := 472) (dk D_L_law 287 rfl) rfl (V_lg 3 rfl) rfl ?_
        refine V_iconst (x := 2) (pc2 := 473) (dk D_L_law 288 rfl) (by decide) rfl ?_
        refine V_iadd (pc2 := 474) (dk D_L_law 289 rfl) rfl ?_
        obtain ⟨h188, h⟩ := h
        refine V_sld (pc2 := 475) (dk D_L_law 290 rfl) rfl h188 ?_
        refine V_aload_n (pc2 := 476) (dk D_L_law 291 rfl) rfl (V_lg 0 rfl) rfl ?_
        refine V_iload_n (pc2 := 477) (dk D_L_law 292 rfl) rfl (V_lg 3 rfl) rfl ?_
        refine V_iconst (x := 3) (pc2 := 478) (dk D_L_law 293 rfl) (by decide) rfl ?_
        refine V_iadd (pc2 := 479) (dk D_L_law 294 rfl) rfl ?_
        obtain ⟨h189, h⟩ := h
        refine V_sld (pc2 := 480) (dk D_L_law 295 rfl) rfl h189 ?_
        obtain ⟨h195, h⟩ := h
        obtain ⟨e190, he191, hc192⟩ := h
        refine V_callV (as := [_, _, _]) (st := [_]) (M' := MX13_local) (ci := 13) (pc2 := 483) (dk D_L_law 296 rfl) ml_14_67 mv_X13_local rfl rfl (by decide) rfl (Nat.le_of_ble_eq_true rfl) rfl he191 h195 hc192 (RI.k fun y193 S194 h => ?_)
        refine V_cmpeq (tgt := 686) (pc2 := 486) (dk D_L_law 297 rfl) (by decide) rfl (fun q196 => ?_) (fun q196 => ?_)
        · have h := h.1 q196
          exact h
        · have h := h.2 q196
          refine V_iconst (x := 0) (pc2 := 487) (dk D_L_law 298 rfl) (by decide) rfl ?_
          exact V_zreturn (dk D_L_law 299 rfl) rfl (Or.inl rfl) h
      · have hx : ((gI S 1 (x3 : Int32).toNatClampNeg) &&& 31) = 12 := Int32.toInt_inj.mp (by rw [q3]; decide)
        have h := h.2.2.2.2.2.2.2.2.2.2.2.2.1 hx
        refine V_aload_n (pc2 := 489) (dk D_L_law 300 rfl) rfl (V_lg 1 rfl) rfl ?_
        obtain ⟨h202, h⟩ := h
        obtain ⟨e197, he198, hc199⟩ := h
        refine V_callV (as := []) (st := []) (M' := MX11_lines) (ci := 11) (pc2 := 492) (dk D_L_law 301 rfl) ml_14_68 mv_X11_lines rfl rfl (by decide) rfl (Nat.le_of_ble_eq_true rfl) rfl he198 h202 hc199 (RI.k fun y200 S201 h => ?_)
        refine V_aload_n (pc2 := 493) (dk D_L_law 302 rfl) rfl (V_lg 2 rfl) rfl ?_
        obtain ⟨h208, h⟩ := h
        obtain ⟨e203, he204, hc205⟩ := h
        refine V_callV (as := []) (st := [_]) (M' := MX13_lines) (ci := 13) (pc2 := 496) (dk D_L_law 303 rfl) ml_14_71 mv_X13_lines rfl rfl (by decide) rfl (Nat.le_of_ble_eq_true rfl) rfl he204 h208 hc205 (RI.k fun y206 S207 h => ?_)
        refine V_cmpeq (tgt := 686) (pc2 := 499) (dk D_L_law 304 rfl) (by decide) rfl (fun q209 => ?_) (fun q209 => ?_)
        · have h := h.1 q209
          exact h
        · have h := h.2 q209
          refine V_iconst (x := 0) (pc2 := 500) (dk D_L_law 305 rfl) (by decide) rfl ?_
          exact V_zreturn (dk D_L_law 306 rfl) rfl (Or.inl rfl) h
      · have hx : ((gI S 1 (x3 : Int32).toNatClampNeg) &&& 31) = 13 := Int32.toInt_inj.mp (by rw [q3]; decide)
        have h := h.2.2.2.2.2.2.2.2.2.2.2.2.2.1 hx
        refine V_aload_n (pc2 := 502) (dk D_L_law 307 rfl) rfl (V_lg 1 rfl) rfl ?_
        refine V_aload_n (pc2 := 503) (dk D_L_law 308 rfl) rfl (V_lg 0 rfl) rfl ?_
        refine V_iload_n (pc2 := 504) (dk D_L_law 309 rfl) rfl (V_lg 3 rfl) rfl ?_
        refine V_iconst (x := 1) (pc2 := 505) (dk D_L_law 310 rfl) (by decide) rfl ?_
        refine V_iadd (pc2 := 506) (dk D_L_law 311 rfl) rfl ?_
        obtain ⟨h210, h⟩ := h
        refine V_sld (pc2 := 507) (dk D_L_law 312 rfl) rfl h210 ?_
        refine V_aload_n (pc2 := 508) (dk D_L_law 313 rfl) rfl (V_lg 0 rfl) rfl ?_
        refine V_iload_n (pc2 := 509) (dk D_L_law 314 rfl) rfl (V_lg 3 rfl) rfl ?_
        refine V_iconst (x := 2) (pc2 := 510) (dk D_L_law 315 rfl) (by decide) rfl ?_
        refine V_iadd (pc2 := 511) (dk D_L_law 316 rfl) rfl ?_
        obtain ⟨h211, h⟩ := h
        refine V_sld (pc2 := 512) (dk D_L_law 317 rfl) rfl h211 ?_
        obtain ⟨h217, h⟩ := h
        obtain ⟨e212, he213, hc214⟩ := h
        refine V_callV (as := [_, _]) (st := []) (M' := MX11_line) (ci := 11) (pc2 := 515) (dk D_L_law 318 rfl) ml_14_72 mv_X11_line rfl rfl (by decide) rfl (Nat.le_of_ble_eq_true rfl) rfl he213 h217 hc214 (RI.k fun y215 S216 h => ?_)
        refine V_aload_n (pc2 := 516) (dk D_L_law 319 rfl) rfl (V_lg 2 rfl) rfl ?_
        refine V_aload_n (pc2 := 517) (dk D_L_law 320 rfl) rfl (V_lg 0 rfl) rfl ?_
        refine V_iload_n (pc2 := 518) (dk D_L_law 321 rfl) rfl (V_lg 3 rfl) rfl ?_
        refine V_iconst (x := 1) (pc2 := 519) (dk D_L_law 322 rfl) (by decide) rfl ?_
        refine V_iadd (pc2 := 520) (dk D_L_law 323 rfl) rfl ?_
        obtain ⟨h218, h⟩ := h
        refine V_sld (pc2 := 521) (dk D_L_law 324 rfl) rfl h218 ?_
        refine V_aload_n (pc2 := 522) (dk D_L_law 325 rfl) rfl (V_lg 0 rfl) rfl ?_
        refine V_iload_n (pc2 := 523) (dk D_L_law 326 rfl) rfl (V_lg 3 rfl) rfl ?_
        refine V_iconst (x := 2) (pc2 := 524) (dk D_L_law 327 rfl) (by decide) rfl ?_
        refine V_iadd (pc2 := 525) (dk D_L_law 328 rfl) rfl ?_
        obtain ⟨h219, h⟩ := h
        refine V_sld (pc2 := 526) (dk D_L_law 329 rfl) rfl h219 ?_
        obtain ⟨h225, h⟩ := h
        obtain ⟨e220, he221, hc222⟩ := h
        refine V_callV (as := [_, _]) (st := [_]) (M' := MX13_line) (ci := 13) (pc2 := 529) (dk D_L_law 330 rfl) ml_14_75 mv_X13_line rfl rfl (by decide) rfl (Nat.le_of_ble_eq_true rfl) rfl he221 h225 hc222 (RI.k fun y223 S224 h => ?_)
        refine V_cmpeq (tgt := 686) (pc2 := 532) (dk D_L_law 331 rfl) (by decide) rfl (fun q226 => ?_) (fun q226 => ?_)
        · have h := h.1 q226
          exact h
        · have h := h.2 q226
          refine V_iconst (x := 0) (pc2 := 533) (dk D_L_law 332 rfl) (by decide) rfl ?_
          exact V_zreturn (dk D_L_law 333 rfl) rfl (Or.inl rfl) h
      · have hx : ((gI S 1 (x3 : Int32).toNatClampNeg) &&& 31) = 14 := Int32.toInt_inj.mp (by rw [q3]; decide)
        have h := h.2.2.2.2.2.2.2.2.2.2.2.2.2.2.1 hx
        refine V_aload_n (pc2 := 535) (dk D_L_law 334 rfl) rfl (V_lg 1 rfl) rfl ?_
        obtain ⟨h232, h⟩ := h
        obtain ⟨e227, he228, hc229⟩ := h
        refine V_callV (as := []) (st := []) (M' := MX11_handings) (ci := 11) (pc2 := 538) (dk D_L_law 335 rfl) ml_14_76 mv_X11_handings rfl rfl (by decide) rfl (Nat.le_of_ble_eq_true rfl) rfl he228 h232 hc229 (RI.k fun y230 S231 h => ?_)
        refine V_aload_n (pc2 := 539) (dk D_L_law 336 rfl) rfl (V_lg 2 rfl) rfl ?_
        obtain ⟨h238, h⟩ := h
        obtain ⟨e233, he234, hc235⟩ := h
        refine V_callV (as := []) (st := [_]) (M' := MX13_handings) (ci := 13) (pc2 := 542) (dk D_L_law 337 rfl) ml_14_79 mv_X13_handings rfl rfl (by decide) rfl (Nat.le_of_ble_eq_true rfl) rfl he234 h238 hc235 (RI.k fun y236 S237 h => ?_)
        refine V_cmpeq (tgt := 686) (pc2 := 545) (dk D_L_law 338 rfl) (by decide) rfl (fun q239 => ?_) (fun q239 => ?_)
        · have h := h.1 q239
          exact h
        · have h := h.2 q239
          refine V_iconst (x := 0) (pc2 := 546) (dk D_L_law 339 rfl) (by decide) rfl ?_
          exact V_zreturn (dk D_L_law 340 rfl) rfl (Or.inl rfl) h
      · have hx : ((gI S 1 (x3 : Int32).toNatClampNeg) &&& 31) = 15 := Int32.toInt_inj.mp (by rw [q3]; decide)
        have h := h.2.2.2.2.2.2.2.2.2.2.2.2.2.2.2.1 hx
        refine V_aload_n (pc2 := 548) (dk D_L_law 341 rfl) rfl (V_lg 1 rfl) rfl ?_
        refine V_aload_n (pc2 := 549) (dk D_L_law 342 rfl) rfl (V_lg 0 rfl) rfl ?_
        refine V_iload_n (pc2 := 550) (dk D_L_law 343 rfl) rfl (V_lg 3 rfl) rfl ?_
        refine V_iconst (x := 1) (pc2 := 551) (dk D_L_law 344 rfl) (by decide) rfl ?_
        refine V_iadd (pc2 := 552) (dk D_L_law 345 rfl) rfl ?_
        obtain ⟨h240, h⟩ := h
        refine V_sld (pc2 := 553) (dk D_L_law 346 rfl) rfl h240 ?_
        refine V_aload_n (pc2 := 554) (dk D_L_law 347 rfl) rfl (V_lg 0 rfl) rfl ?_
        refine V_iload_n (pc2 := 555) (dk D_L_law 348 rfl) rfl (V_lg 3 rfl) rfl ?_
        refine V_iconst (x := 2) (pc2 := 556) (dk D_L_law 349 rfl) (by decide) rfl ?_
        refine V_iadd (pc2 := 557) (dk D_L_law 350 rfl) rfl ?_
        obtain ⟨h241, h⟩ := h
        refine V_sld (pc2 := 558) (dk D_L_law 351 rfl) rfl h241 ?_
        obtain ⟨h247, h⟩ := h
        obtain ⟨e242, he243, hc244⟩ := h
        refine V_callV (as := [_, _]) (st := []) (M' := MX11_handing) (ci := 11) (pc2 := 561) (dk D_L_law 352 rfl) ml_14_80 mv_X11_handing rfl rfl (by decide) rfl (Nat.le_of_ble_eq_true rfl) rfl he243 h247 hc244 (RI.k fun y245 S246 h => ?_)
        refine V_aload_n (pc2 := 562) (dk D_L_law 353 rfl) rfl (V_lg 2 rfl) rfl ?_
        refine V_aload_n (pc2 := 563) (dk D_L_law 354 rfl) rfl (V_lg 0 rfl) rfl ?_
        refine V_iload_n (pc2 := 564) (dk D_L_law 355 rfl) rfl (V_lg 3 rfl) rfl ?_
        refine V_iconst (x := 1) (pc2 := 565) (dk D_L_law 356 rfl) (by decide) rfl ?_
        refine V_iadd (pc2 := 566) (dk D_L_law 357 rfl) rfl ?_
        obtain ⟨h248, h⟩ := h
        refine V_sld (pc2 := 567) (dk D_L_law 358 rfl) rfl h248 ?_
        refine V_aload_n (pc2 := 568) (dk D_L_law 359 rfl) rfl (V_lg 0 rfl) rfl ?_
        refine V_iload_n (pc2 := 569) (dk D_L_law 360 rfl) rfl (V_lg 3 rfl) rfl ?_
        refine V_iconst (x := 2) (pc2 := 570) (dk D_L_law 361 rfl) (by decide) rfl ?_
        refine V_iadd (pc2 := 571) (dk D_L_law 362 rfl) rfl ?_
        obtain ⟨h249, h⟩ := h
        refine V_sld (pc2 := 572) (dk D_L_law 363 rfl) rfl h249 ?_
        obtain ⟨h255, h⟩ := h
        obtain ⟨e250, he251, hc252⟩ := h
        refine V_callV (as := [_, _]) (st := [_]) (M' := MX13_handing) (ci := 13) (pc2 := 575) (dk D_L_law 364 rfl) ml_14_83 mv_X13_handing rfl rfl (by decide) rfl (Nat.le_of_ble_eq_true rfl) rfl he251 h255 hc252 (RI.k fun y253 S254 h => ?_)
        refine V_cmpeq (tgt := 686) (pc2 := 578) (dk D_L_law 365 rfl) (by decide) rfl (fun q256 => ?_) (fun q256 => ?_)
        · have h := h.1 q256
          exact h
        · have h := h.2 q256
          refine V_iconst (x := 0) (pc2 := 579) (dk D_L_law 366 rfl) (by decide) rfl ?_
          exact V_zreturn (dk D_L_law 367 rfl) rfl (Or.inl rfl) h
      · have hx : ((gI S 1 (x3 : Int32).toNatClampNeg) &&& 31) = 16 := Int32.toInt_inj.mp (by rw [q3]; decide)
        have h := h.2.2.2.2.2.2.2.2.2.2.2.2.2.2.2.2.1 hx
        refine V_aload_n (pc2 := 581) (dk D_L_law 368 rfl) rfl (V_lg 1 rfl) rfl ?_
        obtain ⟨h262, h⟩ := h
        obtain ⟨e257, he258, hc259⟩ := h
        refine V_callV (as := []) (st := []) (M' := MX11_failures) (ci := 11) (pc2 := 584) (dk D_L_law 369 rfl) ml_14_84 mv_X11_failures rfl rfl (by decide) rfl (Nat.le_of_ble_eq_true rfl) rfl he258 h262 hc259 (RI.k fun y260 S261 h => ?_)
        refine V_aload_n (pc2 := 585) (dk D_L_law 370 rfl) rfl (V_lg 2 rfl) rfl ?_
        obtain ⟨h268, h⟩ := h
        obtain ⟨e263, he264, hc265⟩ := h
        refine V_callV (as := []) (st := [_]) (M' := MX13_failures) (ci := 13) (pc2 := 588) (dk D_L_law 371 rfl) ml_14_87 mv_X13_failures rfl rfl (by decide) rfl (Nat.le_of_ble_eq_true rfl) rfl he264 h268 hc265 (RI.k fun y266 S267 h => ?_)
        refine V_cmpeq (tgt := 686) (pc2 := 591) (dk D_L_law 372 rfl) (by decide) rfl (fun q269 => ?_) (fun q269 => ?_)
        · have h := h.1 q269
          exact h
        · have h := h.2 q269
          refine V_iconst (x := 0) (pc2 := 592) (dk D_L_law 373 rfl) (by decide) rfl ?_
          exact V_zreturn (dk D_L_law 374 rfl) rfl (Or.inl rfl) h
      · have hx : ((gI S 1 (x3 : Int32).toNatClampNeg) &&& 31) = 17 := Int32.toInt_inj.mp (by rw [q3]; decide)
        have h := h.2.2.2.2.2.2.2.2.2.2.2.2.2.2.2.2.2.1 hx
        refine V_aload_n (pc2 := 594) (dk D_L_law 375 rfl) rfl (V_lg 1 rfl) rfl ?_
        refine V_aload_n (pc2 := 595) (dk D_L_law 376 rfl) rfl (V_lg 0 rfl) rfl ?_
        refine V_iload_n (pc2 := 596) (dk D_L_law 377 rfl) rfl (V_lg 3 rfl) rfl ?_
        refine V_iconst (x := 1) (pc2 := 597) (dk D_L_law 378 rfl) (by decide) rfl ?_
        refine V_iadd (pc2 := 598) (dk D_L_law 379 rfl) rfl ?_
        obtain ⟨h270, h⟩ := h
        refine V_sld (pc2 := 599) (dk D_L_law 380 rfl) rfl h270 ?_
        refine V_aload_n (pc2 := 600) (dk D_L_law 381 rfl) rfl (V_lg 0 rfl) rfl ?_
        refine V_iload_n (pc2 := 601) (dk D_L_law 382 rfl) rfl (V_lg 3 rfl) rfl ?_
        refine V_iconst (x := 2) (pc2 := 602) (dk D_L_law 383 rfl) (by decide) rfl ?_
        refine V_iadd (pc2 := 603) (dk D_L_law 384 rfl) rfl ?_
        obtain ⟨h271, h⟩ := h
        refine V_sld (pc2 := 604) (dk D_L_law 385 rfl) rfl h271 ?_
        obtain ⟨h277, h⟩ := h
        obtain ⟨e272, he273, hc274⟩ := h
        refine V_callV (as := [_, _]) (st := []) (M' := MX11_failure) (ci := 11) (pc2 := 607) (dk D_L_law 386 rfl) ml_14_88 mv_X11_failure rfl rfl (by decide) rfl (Nat.le_of_ble_eq_true rfl) rfl he273 h277 hc274 (RI.k fun y275 S276 h => ?_)
        refine V_aload_n (pc2 := 608) (dk D_L_law 387 rfl) rfl (V_lg 2 rfl) rfl ?_
        refine V_aload_n (pc2 := 609) (dk D_L_law 388 rfl) rfl (V_lg 0 rfl) rfl ?_
        refine V_iload_n (pc2 := 610) (dk D_L_law 389 rfl) rfl (V_lg 3 rfl) rfl ?_
        refine V_iconst (x := 1) (pc2 := 611) (dk D_L_law 390 rfl) (by decide) rfl ?_
        refine V_iadd (pc2 := 612) (dk D_L_law 391 rfl) rfl ?_
        obtain ⟨h278, h⟩ := h
        refine V_sld (pc2 := 613) (dk D_L_law 392 rfl) rfl h278 ?_
        refine V_aload_n (pc2 := 614) (dk D_L_law 393 rfl) rfl (V_lg 0 rfl) rfl ?_
        refine V_iload_n (pc2 := 615) (dk D_L_law 394 rfl) rfl (V_lg 3 rfl) rfl ?_
        refine V_iconst (x := 2) (pc2 := 616) (dk D_L_law 395 rfl) (by decide) rfl ?_
        refine V_iadd (pc2 := 617) (dk D_L_law 396 rfl) rfl ?_
        obtain ⟨h279, h⟩ := h
        refine V_sld (pc2 := 618) (dk D_L_law 397 rfl) rfl h279 ?_
        obtain ⟨h285, h⟩ := h
        obtain ⟨e280, he281, hc282⟩ := h
        refine V_callV (as := [_, _]) (st := [_]) (M' := MX13_failure_) (ci := 13) (pc2 := 621) (dk D_L_law 398 rfl) ml_14_91 mv_X13_failure_ rfl rfl (by decide) rfl (Nat.le_of_ble_eq_true rfl) rfl he281 h285 hc282 (RI.k fun y283 S284 h => ?_)
        refine V_cmpeq (tgt := 686) (pc2 := 624) (dk D_L_law 399 rfl) (by decide) rfl (fun q286 => ?_) (fun q286 => ?_)
        · have h := h.1 q286
          exact h
        · have h := h.2 q286
          refine V_iconst (x := 0) (pc2 := 625) (dk D_L_law 400 rfl) (by decide) rfl ?_
          exact V_zreturn (dk D_L_law 401 rfl) rfl (Or.inl rfl) h
      · have hx : ((gI S 1 (x3 : Int32).toNatClampNeg) &&& 31) = 18 := Int32.toInt_inj.mp (by rw [q3]; decide)
        have h := h.2.2.2.2.2.2.2.2.2.2.2.2.2.2.2.2.2.2.1 hx
        refine V_aload_n (pc2 := 627) (dk D_L_law 402 rfl) rfl (V_lg 1 rfl) rfl ?_
        refine V_aload_n (pc2 := 628) (dk D_L_law 403 rfl) rfl (V_lg 0 rfl) rfl ?_
        refine V_iload_n (pc2 := 629) (dk D_L_law 404 rfl) rfl (V_lg 3 rfl) rfl ?_
        refine V_iconst (x := 1) (pc2 := 630) (dk D_L_law 405 rfl) (by decide) rfl ?_
        refine V_iadd (pc2 := 631) (dk D_L_law 406 rfl) rfl ?_
        obtain ⟨h287, h⟩ := h
        refine V_sld (pc2 := 632) (dk D_L_law 407 rfl) rfl h287 ?_
        obtain ⟨h293, h⟩ := h
        obtain ⟨e288, he289, hc290⟩ := h
        refine V_callV (as := [_]) (st := []) (M' := MX11_ring) (ci := 11) (pc2 := 635) (dk D_L_law 408 rfl) ml_14_92 mv_X11_ring rfl rfl (by decide) rfl (Nat.le_of_ble_eq_true rfl) rfl he289 h293 hc290 (RI.k fun y291 S292 h => ?_)
        refine V_aload_n (pc2 := 636) (dk D_L_law 409 rfl) rfl (V_lg 2 rfl) rfl ?_
        refine V_aload_n (pc2 := 637) (dk D_L_law 410 rfl) rfl (V_lg 0 rfl) rfl ?_
        refine V_iload_n (pc2 := 638) (dk D_L_law 411 rfl) rfl (V_lg 3 rfl) rfl ?_
        refine V_iconst (x := 1) (pc2 := 639) (dk D_L_law 412 rfl) (by decide) rfl ?_
        refine V_iadd (pc2 := 640) (dk D_L_law 413 rfl) rfl ?_
        obtain ⟨h294, h⟩ := h
        refine V_sld (pc2 := 641) (dk D_L_law 414 rfl) rfl h294 ?_
        obtain ⟨h300, h⟩ := h
        obtain ⟨e295, he296, hc297⟩ := h
        refine V_callV (as := [_]) (st := [_]) (M' := MX13_ring) (ci := 13) (pc2 := 644) (dk D_L_law 415 rfl) ml_14_95 mv_X13_ring rfl rfl (by decide) rfl (Nat.le_of_ble_eq_true rfl) rfl he296 h300 hc297 (RI.k fun y298 S299 h => ?_)
        refine V_cmpeq (tgt := 686) (pc2 := 647) (dk D_L_law 416 rfl) (by decide) rfl (fun q301 => ?_) (fun q301 => ?_)
        · have h := h.1 q301
          exact h
        · have h := h.2 q301
          refine V_iconst (x := 0) (pc2 := 648) (dk D_L_law 417 rfl) (by decide) rfl ?_
          exact V_zreturn (dk D_L_law 418 rfl) rfl (Or.inl rfl) h
      · have hx : ((gI S 1 (x3 : Int32).toNatClampNeg) &&& 31) = 19 := Int32.toInt_inj.mp (by rw [q3]; decide)
        have h := h.2.2.2.2.2.2.2.2.2.2.2.2.2.2.2.2.2.2.2.1 hx
        refine V_aload_n (pc2 := 650) (dk D_L_law 419 rfl) rfl (V_lg 1 rfl) rfl ?_
        refine V_aload_n (pc2 := 651) (dk D_L_law 420 rfl) rfl (V_lg 0 rfl) rfl ?_
        refine V_iload_n (pc2 := 652) (dk D_L_law 421 rfl) rfl (V_lg 3 rfl) rfl ?_
        refine V_iconst (x := 1) (pc2 := 653) (dk D_L_law 422 rfl) (by decide) rfl ?_
        refine V_iadd (pc2 := 654) (dk D_L_law 423 rfl) rfl ?_
        obtain ⟨h302, h⟩ := h
        refine V_sld (pc2 := 655) (dk D_L_law 424 rfl) rfl h302 ?_
        obtain ⟨h308, h⟩ := h
        obtain ⟨e303, he304, hc305⟩ := h
        refine V_callV (as := [_]) (st := []) (M' := MX11_count) (ci := 11) (pc2 := 658) (dk D_L_law 425 rfl) ml_14_96 mv_X11_count rfl rfl (by decide) rfl (Nat.le_of_ble_eq_true rfl) rfl he304 h308 hc305 (RI.k fun y306 S307 h => ?_)
        refine V_aload_n (pc2 := 659) (dk D_L_law 426 rfl) rfl (V_lg 2 rfl) rfl ?_
        refine V_aload_n (pc2 := 660) (dk D_L_law 427 rfl) rfl (V_lg 0 rfl) rfl ?_
        refine V_iload_n (pc2 := 661) (dk D_L_law 428 rfl) rfl (V_lg 3 rfl) rfl ?_
        refine V_iconst (x := 1) (pc2 := 662) (dk D_L_law 429 rfl) (by decide) rfl ?_
        refine V_iadd (pc2 := 663) (dk D_L_law 430 rfl) rfl ?_
        obtain ⟨h309, h⟩ := h
        refine V_sld (pc2 := 664) (dk D_L_law 431 rfl) rfl h309 ?_
        obtain ⟨h315, h⟩ := h
        obtain ⟨e310, he311, hc312⟩ := h
        refine V_callV (as := [_]) (st := [_]) (M' := MX13_count) (ci := 13) (pc2 := 667) (dk D_L_law 432 rfl) ml_14_99 mv_X13_count rfl rfl (by decide) rfl (Nat.le_of_ble_eq_true rfl) rfl he311 h315 hc312 (RI.k fun y313 S314 h => ?_)
        refine V_cmpeq (tgt := 686) (pc2 := 670) (dk D_L_law 433 rfl) (by decide) rfl (fun q316 => ?_) (fun q316 => ?_)
        · have h := h.1 q316
          exact h
        · have h := h.2 q316
          refine V_iconst (x := 0) (pc2 := 671) (dk D_L_law 434 rfl) (by decide) rfl ?_
          exact V_zreturn (dk D_L_law 435 rfl) rfl (Or.inl rfl) h
      · have hx : ((gI S 1 (x3 : Int32).toNatClampNeg) &&& 31) = 20 := Int32.toInt_inj.mp (by rw [q3]; decide)
        have h := h.2.2.2.2.2.2.2.2.2.2.2.2.2.2.2.2.2.2.2.2.1 hx
        refine V_aload_n (pc2 := 673) (dk D_L_law 436 rfl) rfl (V_lg 1 rfl) rfl ?_
        obtain ⟨h322, h⟩ := h
        obtain ⟨e317, he318, hc319⟩ := h
        refine V_callV (as := []) (st := []) (M' := MX11_digest) (ci := 11) (pc2 := 676) (dk D_L_law 437 rfl) ml_14_100 mv_X11_digest rfl rfl (by decide) rfl (Nat.le_of_ble_eq_true rfl) rfl he318 h322 hc319 (RJ.k fun w320 S321 h => ?_)
        refine V_aload_n (pc2 := 677) (dk D_L_law 438 rfl) rfl (V_lg 2 rfl) rfl ?_
        obtain ⟨h328, h⟩ := h
        obtain ⟨e323, he324, hc325⟩ := h
        refine V_callV (as := []) (st := [_]) (M' := MX13_digest) (ci := 13) (pc2 := 680) (dk D_L_law 439 rfl) ml_14_104 mv_X13_digest rfl rfl (by decide) rfl (Nat.le_of_ble_eq_true rfl) rfl he324 h328 hc325 (RJ.k fun w326 S327 h => ?_)
        refine V_lcmp (pc2 := 681) (dk D_L_law 440 rfl) rfl ?_
        refine V_ifeq (tgt := 686) (pc2 := 684) (dk D_L_law 441 rfl) (by decide) rfl (fun q329 => ?_) (fun q329 => ?_)
        · have h := h.1 q329
          exact h
        · have h := h.2 q329
          refine V_iconst (x := 0) (pc2 := 685) (dk D_L_law 442 rfl) (by decide) rfl ?_
          exact V_zreturn (dk D_L_law 443 rfl) rfl (Or.inl rfl) h
theorem w_L_law_686 {X : Cx} {d : Nat} {S : Mem} {Q : Res → Mem → Prop} (r1 : Nat) (r2 : Nat) (x3 : Int32) (h : V X d ML_law 18 [(0, vR 1), (1, vR r1), (2, vR r2), (3, vI (x3 + 4))] [] S Q) : V X d ML_law 686 [(0, vR 1), (1, vR r1), (2, vR r2), (3, vI x3)] [] S Q := by
  refine V_iinc (y := _ + 4) (pc2 := 689) (lv2 := [(0, _), (1, _), (2, _), (3, _)]) (dk D_L_law 444 rfl) (V_lg 3 rfl) rfl (by decide) rfl rfl ?_
  refine V_goto (tgt := 18) (dk D_L_law 445 rfl) (by decide) ?_
  exact h

