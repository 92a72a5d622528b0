def tL_0 : List (Nat × Instr) := [(0, .new 7), (3, .dup), (4, .invokespecial 9), (7, .astore_n 1), (8, .new 10), (11, .dup), (12, .invokespecial 12), (15, .astore_n 2), (16, .iconst 0), (17, .istore_n 3), (18, .iload_n 3), (19, .aload_n 0)]
theorem tL_0_ok : tblOK code tL_0 = true := by decide +kernel
def tL_1 : List (Nat × Instr) := [(20, .arraylength), (21, .bipush 6), (23, .isub), (24, .if_icmp .gt 918), (27, .aload_n 0), (28, .iload_n 3), (29, .iaload), (30, .bipush 31), (32, .iand), (33, .tableswitch 903 0 25 #[119, 182, 205, 218, 241, 274, 307, 340, 363, 386, 399, 412, 435, 478, 501, 534, 567, 590, 653, 712, 735, 758, 791, 834, 857, 880]), (152, .aload_n 1), (153, .aload_n 0)]
theorem tL_1_ok : tblOK code tL_1 = true := by decide +kernel
def tL_2 : List (Nat × Instr) := [(154, .iload_n 3), (155, .iconst 1), (156, .iadd), (157, .iaload), (158, .aload_n 0), (159, .iload_n 3), (160, .iconst 2), (161, .iadd), (162, .iaload), (163, .aload_n 0), (164, .iload_n 3), (165, .iconst 3)]
theorem tL_2_ok : tblOK code tL_2 = true := by decide +kernel
def tL_3 : List (Nat × Instr) := [(166, .iadd), (167, .iaload), (168, .aload_n 0), (169, .iload_n 3), (170, .iconst 4), (171, .iadd), (172, .iaload), (173, .aload_n 0), (174, .iload_n 3), (175, .iconst 5), (176, .iadd), (177, .iaload)]
theorem tL_3_ok : tblOK code tL_3 = true := by decide +kernel
def tL_4 : List (Nat × Instr) := [(178, .invokevirtual 13), (181, .pop), (182, .aload_n 2), (183, .aload_n 0), (184, .iload_n 3), (185, .iconst 1), (186, .iadd), (187, .iaload), (188, .aload_n 0), (189, .iload_n 3), (190, .iconst 2), (191, .iadd)]
theorem tL_4_ok : tblOK code tL_4 = true := by decide +kernel
def tL_5 : List (Nat × Instr) := [(192, .iaload), (193, .aload_n 0), (194, .iload_n 3), (195, .iconst 3), (196, .iadd), (197, .iaload), (198, .aload_n 0), (199, .iload_n 3), (200, .iconst 4), (201, .iadd), (202, .iaload), (203, .aload_n 0)]
theorem tL_5_ok : tblOK code tL_5 = true := by decide +kernel
def tL_6 : List (Nat × Instr) := [(204, .iload_n 3), (205, .iconst 5), (206, .iadd), (207, .iaload), (208, .invokevirtual 17), (211, .pop), (212, .goto 724), (215, .aload_n 1), (216, .aload_n 0), (217, .iload_n 3), (218, .iconst 1), (219, .iadd)]
theorem tL_6_ok : tblOK code tL_6 = true := by decide +kernel
def tL_7 : List (Nat × Instr) := [(220, .iaload), (221, .invokevirtual 18), (224, .pop), (225, .aload_n 2), (226, .aload_n 0), (227, .iload_n 3), (228, .iconst 1), (229, .iadd), (230, .iaload), (231, .invokevirtual 22), (234, .pop), (235, .goto 701)]
theorem tL_7_ok : tblOK code tL_7 = true := by decide +kernel
def tL_8 : List (Nat × Instr) := [(238, .aload_n 1), (239, .invokevirtual 23), (242, .pop), (243, .aload_n 2), (244, .invokevirtual 27), (247, .pop), (248, .goto 688), (251, .aload_n 1), (252, .aload_n 0), (253, .iload_n 3), (254, .iconst 1), (255, .iadd)]
theorem tL_8_ok : tblOK code tL_8 = true := by decide +kernel
def tL_9 : List (Nat × Instr) := [(256, .iaload), (257, .invokevirtual 28), (260, .pop), (261, .aload_n 2), (262, .aload_n 0), (263, .iload_n 3), (264, .iconst 1), (265, .iadd), (266, .iaload), (267, .invokevirtual 31), (270, .pop), (271, .goto 665)]
theorem tL_9_ok : tblOK code tL_9 = true := by decide +kernel
def tL_10 : List (Nat × Instr) := [(274, .aload_n 1), (275, .aload_n 0), (276, .iload_n 3), (277, .iconst 1), (278, .iadd), (279, .iaload), (280, .aload_n 0), (281, .iload_n 3), (282, .iconst 2), (283, .iadd), (284, .iaload), (285, .invokevirtual 32)]
theorem tL_10_ok : tblOK code tL_10 = true := by decide +kernel
def tL_11 : List (Nat × Instr) := [(288, .pop), (289, .aload_n 2), (290, .aload_n 0), (291, .iload_n 3), (292, .iconst 1), (293, .iadd), (294, .iaload), (295, .aload_n 0), (296, .iload_n 3), (297, .iconst 2), (298, .iadd), (299, .iaload)]
theorem tL_11_ok : tblOK code tL_11 = true := by decide +kernel
def tL_12 : List (Nat × Instr) := [(300, .invokevirtual 36), (303, .pop), (304, .goto 632), (307, .aload_n 1), (308, .aload_n 0), (309, .iload_n 3), (310, .iconst 1), (311, .iadd), (312, .iaload), (313, .aload_n 0), (314, .iload_n 3), (315, .iconst 2)]
theorem tL_12_ok : tblOK code tL_12 = true := by decide +kernel
def tL_13 : List (Nat × Instr) := [(316, .iadd), (317, .iaload), (318, .invokevirtual 37), (321, .pop), (322, .aload_n 2), (323, .aload_n 0), (324, .iload_n 3), (325, .iconst 1), (326, .iadd), (327, .iaload), (328, .aload_n 0), (329, .iload_n 3)]
theorem tL_13_ok : tblOK code tL_13 = true := by decide +kernel
def tL_14 : List (Nat × Instr) := [(330, .iconst 2), (331, .iadd), (332, .iaload), (333, .invokevirtual 40), (336, .pop), (337, .goto 599), (340, .aload_n 1), (341, .aload_n 0), (342, .iload_n 3), (343, .iconst 1), (344, .iadd), (345, .iaload)]
theorem tL_14_ok : tblOK code tL_14 = true := by decide +kernel
def tL_15 : List (Nat × Instr) := [(346, .aload_n 0), (347, .iload_n 3), (348, .iconst 2), (349, .iadd), (350, .iaload), (351, .invokevirtual 41), (354, .pop), (355, .aload_n 2), (356, .aload_n 0), (357, .iload_n 3), (358, .iconst 1), (359, .iadd)]
theorem tL_15_ok : tblOK code tL_15 = true := by decide +kernel
def tL_16 : List (Nat × Instr) := [(360, .iaload), (361, .aload_n 0), (362, .iload_n 3), (363, .iconst 2), (364, .iadd), (365, .iaload), (366, .invokevirtual 44), (369, .pop), (370, .goto 566), (373, .aload_n 1), (374, .aload_n 0), (375, .iload_n 3)]
theorem tL_16_ok : tblOK code tL_16 = true := by decide +kernel
def tL_17 : List (Nat × Instr) := [(376, .iconst 1), (377, .iadd), (378, .iaload), (379, .invokevirtual 45), (382, .pop), (383, .aload_n 2), (384, .aload_n 0), (385, .iload_n 3), (386, .iconst 1), (387, .iadd), (388, .iaload), (389, .invokevirtual 48)]
theorem tL_17_ok : tblOK code tL_17 = true := by decide +kernel
def tL_18 : List (Nat × Instr) := [(392, .pop), (393, .goto 543), (396, .aload_n 1), (397, .aload_n 0), (398, .iload_n 3), (399, .iconst 1), (400, .iadd), (401, .iaload), (402, .invokevirtual 49), (405, .pop), (406, .aload_n 2), (407, .aload_n 0)]
theorem tL_18_ok : tblOK code tL_18 = true := by decide +kernel
def tL_19 : List (Nat × Instr) := [(408, .iload_n 3), (409, .iconst 1), (410, .iadd), (411, .iaload), (412, .invokevirtual 52), (415, .pop), (416, .goto 520), (419, .aload_n 1), (420, .invokevirtual 53), (423, .pop), (424, .aload_n 2), (425, .invokevirtual 57)]
theorem tL_19_ok : tblOK code tL_19 = true := by decide +kernel
def tL_20 : List (Nat × Instr) := [(428, .pop), (429, .goto 507), (432, .aload_n 1), (433, .invokevirtual 58), (436, .pop), (437, .aload_n 2), (438, .invokevirtual 61), (441, .pop), (442, .goto 494), (445, .aload_n 1), (446, .aload_n 0), (447, .iload_n 3)]
theorem tL_20_ok : tblOK code tL_20 = true := by decide +kernel
def tL_21 : List (Nat × Instr) := [(448, .iconst 1), (449, .iadd), (450, .iaload), (451, .invokevirtual 62), (454, .pop), (455, .aload_n 2), (456, .aload_n 0), (457, .iload_n 3), (458, .iconst 1), (459, .iadd), (460, .iaload), (461, .invokevirtual 65)]
theorem tL_21_ok : tblOK code tL_21 = true := by decide +kernel
def tL_22 : List (Nat × Instr) := [(464, .pop), (465, .goto 471), (468, .aload_n 1), (469, .aload_n 0), (470, .iload_n 3), (471, .iconst 1), (472, .iadd), (473, .iaload), (474, .aload_n 0), (475, .iload_n 3), (476, .iconst 2), (477, .iadd)]
theorem tL_22_ok : tblOK code tL_22 = true := by decide +kernel
def tL_23 : List (Nat × Instr) := [(478, .iaload), (479, .aload_n 0), (480, .iload_n 3), (481, .iconst 3), (482, .iadd), (483, .iaload), (484, .invokevirtual 66), (487, .pop), (488, .aload_n 2), (489, .aload_n 0), (490, .iload_n 3), (491, .iconst 1)]
theorem tL_23_ok : tblOK code tL_23 = true := by decide +kernel
def tL_24 : List (Nat × Instr) := [(492, .iadd), (493, .iaload), (494, .aload_n 0), (495, .iload_n 3), (496, .iconst 2), (497, .iadd), (498, .iaload), (499, .aload_n 0), (500, .iload_n 3), (501, .iconst 3), (502, .iadd), (503, .iaload)]
theorem tL_24_ok : tblOK code tL_24 = true := by decide +kernel
def tL_25 : List (Nat × Instr) := [(504, .invokevirtual 70), (507, .pop), (508, .goto 428), (511, .aload_n 1), (512, .aload_n 0), (513, .iload_n 3), (514, .iconst 1), (515, .iadd), (516, .iaload), (517, .invokevirtual 71), (520, .pop), (521, .aload_n 2)]
theorem tL_25_ok : tblOK code tL_25 = true := by decide +kernel
def tL_26 : List (Nat × Instr) := [(522, .aload_n 0), (523, .iload_n 3), (524, .iconst 1), (525, .iadd), (526, .iaload), (527, .invokevirtual 74), (530, .pop), (531, .goto 405), (534, .aload_n 1), (535, .aload_n 0), (536, .iload_n 3), (537, .iconst 1)]
theorem tL_26_ok : tblOK code tL_26 = true := by decide +kernel
def tL_27 : List (Nat × Instr) := [(538, .iadd), (539, .iaload), (540, .aload_n 0), (541, .iload_n 3), (542, .iconst 2), (543, .iadd), (544, .iaload), (545, .invokevirtual 75), (548, .pop), (549, .aload_n 2), (550, .aload_n 0), (551, .iload_n 3)]
theorem tL_27_ok : tblOK code tL_27 = true := by decide +kernel
def tL_28 : List (Nat × Instr) := [(552, .iconst 1), (553, .iadd), (554, .iaload), (555, .aload_n 0), (556, .iload_n 3), (557, .iconst 2), (558, .iadd), (559, .iaload), (560, .invokevirtual 78), (563, .pop), (564, .goto 372), (567, .aload_n 1)]
theorem tL_28_ok : tblOK code tL_28 = true := by decide +kernel
def tL_29 : List (Nat × Instr) := [(568, .aload_n 0), (569, .iload_n 3), (570, .iconst 1), (571, .iadd), (572, .iaload), (573, .aload_n 0), (574, .iload_n 3), (575, .iconst 2), (576, .iadd), (577, .iaload), (578, .invokevirtual 79), (581, .pop)]
theorem tL_29_ok : tblOK code tL_29 = true := by decide +kernel
def tL_30 : List (Nat × Instr) := [(582, .aload_n 2), (583, .aload_n 0), (584, .iload_n 3), (585, .iconst 1), (586, .iadd), (587, .iaload), (588, .aload_n 0), (589, .iload_n 3), (590, .iconst 2), (591, .iadd), (592, .iaload), (593, .invokevirtual 82)]
theorem tL_30_ok : tblOK code tL_30 = true := by decide +kernel
def tL_31 : List (Nat × Instr) := [(596, .pop), (597, .goto 339), (600, .aload_n 1), (601, .aload_n 0), (602, .iload_n 3), (603, .iconst 1), (604, .iadd), (605, .iaload), (606, .invokevirtual 83), (609, .pop), (610, .aload_n 2), (611, .aload_n 0)]
theorem tL_31_ok : tblOK code tL_31 = true := by decide +kernel
def tL_32 : List (Nat × Instr) := [(612, .iload_n 3), (613, .iconst 1), (614, .iadd), (615, .iaload), (616, .invokevirtual 86), (619, .pop), (620, .goto 316), (623, .aload_n 1), (624, .aload_n 0), (625, .iload_n 3), (626, .iconst 1), (627, .iadd)]
theorem tL_32_ok : tblOK code tL_32 = true := by decide +kernel
def tL_33 : List (Nat × Instr) := [(628, .iaload), (629, .aload_n 0), (630, .iload_n 3), (631, .iconst 2), (632, .iadd), (633, .iaload), (634, .aload_n 0), (635, .iload_n 3), (636, .iconst 3), (637, .iadd), (638, .iaload), (639, .aload_n 0)]
theorem tL_33_ok : tblOK code tL_33 = true := by decide +kernel
def tL_34 : List (Nat × Instr) := [(640, .iload_n 3), (641, .iconst 4), (642, .iadd), (643, .iaload), (644, .aload_n 0), (645, .iload_n 3), (646, .iconst 5), (647, .iadd), (648, .iaload), (649, .invokevirtual 87), (652, .pop), (653, .aload_n 2)]
theorem tL_34_ok : tblOK code tL_34 = true := by decide +kernel
def tL_35 : List (Nat × Instr) := [(654, .aload_n 0), (655, .iload_n 3), (656, .iconst 1), (657, .iadd), (658, .iaload), (659, .aload_n 0), (660, .iload_n 3), (661, .iconst 2), (662, .iadd), (663, .iaload), (664, .aload_n 0), (665, .iload_n 3)]
theorem tL_35_ok : tblOK code tL_35 = true := by decide +kernel
def tL_36 : List (Nat × Instr) := [(666, .iconst 3), (667, .iadd), (668, .iaload), (669, .aload_n 0), (670, .iload_n 3), (671, .iconst 4), (672, .iadd), (673, .iaload), (674, .aload_n 0), (675, .iload_n 3), (676, .iconst 5), (677, .iadd)]
theorem tL_36_ok : tblOK code tL_36 = true := by decide +kernel
def tL_37 : List (Nat × Instr) := [(678, .iaload), (679, .invokevirtual 90), (682, .pop), (683, .goto 253), (686, .aload_n 1), (687, .aload_n 0), (688, .iload_n 3), (689, .iconst 1), (690, .iadd), (691, .iaload), (692, .aload_n 0), (693, .iload_n 3)]
theorem tL_37_ok : tblOK code tL_37 = true := by decide +kernel
def tL_38 : List (Nat × Instr) := [(694, .iconst 2), (695, .iadd), (696, .iaload), (697, .aload_n 0), (698, .iload_n 3), (699, .iconst 3), (700, .iadd), (701, .iaload), (702, .ifCond .eq 7), (705, .iconst 1), (706, .goto 4), (709, .iconst 0)]
theorem tL_38_ok : tblOK code tL_38 = true := by decide +kernel
def tL_39 : List (Nat × Instr) := [(710, .invokevirtual 91), (713, .pop), (714, .aload_n 2), (715, .aload_n 0), (716, .iload_n 3), (717, .iconst 1), (718, .iadd), (719, .iaload), (720, .aload_n 0), (721, .iload_n 3), (722, .iconst 2), (723, .iadd)]
theorem tL_39_ok : tblOK code tL_39 = true := by decide +kernel
def tL_40 : List (Nat × Instr) := [(724, .iaload), (725, .aload_n 0), (726, .iload_n 3), (727, .iconst 3), (728, .iadd), (729, .iaload), (730, .ifCond .eq 7), (733, .iconst 1), (734, .goto 4), (737, .iconst 0), (738, .invokevirtual 95), (741, .pop)]
theorem tL_40_ok : tblOK code tL_40 = true := by decide +kernel
def tL_41 : List (Nat × Instr) := [(742, .goto 194), (745, .aload_n 1), (746, .aload_n 0), (747, .iload_n 3), (748, .iconst 1), (749, .iadd), (750, .iaload), (751, .invokevirtual 96), (754, .pop), (755, .aload_n 2), (756, .aload_n 0), (757, .iload_n 3)]
theorem tL_41_ok : tblOK code tL_41 = true := by decide +kernel
def tL_42 : List (Nat × Instr) := [(758, .iconst 1), (759, .iadd), (760, .iaload), (761, .invokevirtual 100), (764, .pop), (765, .goto 171), (768, .aload_n 1), (769, .aload_n 0), (770, .iload_n 3), (771, .iconst 1), (772, .iadd), (773, .iaload)]
theorem tL_42_ok : tblOK code tL_42 = true := by decide +kernel
def tL_43 : List (Nat × Instr) := [(774, .invokevirtual 101), (777, .aload_n 2), (778, .aload_n 0), (779, .iload_n 3), (780, .iconst 1), (781, .iadd), (782, .iaload), (783, .invokevirtual 104), (786, .if_icmp .eq 150), (789, .iconst 0), (790, .ireturn), (791, .aload_n 1)]
theorem tL_43_ok : tblOK code tL_43 = true := by decide +kernel
def tL_44 : List (Nat × Instr) := [(792, .aload_n 0), (793, .iload_n 3), (794, .iconst 1), (795, .iadd), (796, .iaload), (797, .aload_n 0), (798, .iload_n 3), (799, .iconst 2), (800, .iadd), (801, .iaload), (802, .invokevirtual 105), (805, .pop)]
theorem tL_44_ok : tblOK code tL_44 = true := by decide +kernel
def tL_45 : List (Nat × Instr) := [(806, .aload_n 2), (807, .aload_n 0), (808, .iload_n 3), (809, .iconst 1), (810, .iadd), (811, .iaload), (812, .aload_n 0), (813, .iload_n 3), (814, .iconst 2), (815, .iadd), (816, .iaload), (817, .invokevirtual 108)]
theorem tL_45_ok : tblOK code tL_45 = true := by decide +kernel
def tL_46 : List (Nat × Instr) := [(820, .pop), (821, .goto 115), (824, .aload_n 1), (825, .aload_n 0), (826, .iload_n 3), (827, .iconst 1), (828, .iadd), (829, .iaload), (830, .aload_n 0), (831, .iload_n 3), (832, .iconst 2), (833, .iadd)]
theorem tL_46_ok : tblOK code tL_46 = true := by decide +kernel
def tL_47 : List (Nat × Instr) := [(834, .iaload), (835, .aload_n 0), (836, .iload_n 3), (837, .iconst 3), (838, .iadd), (839, .iaload), (840, .invokevirtual 109), (843, .pop), (844, .aload_n 2), (845, .aload_n 0), (846, .iload_n 3), (847, .iconst 1)]
theorem tL_47_ok : tblOK code tL_47 = true := by decide +kernel
def tL_48 : List (Nat × Instr) := [(848, .iadd), (849, .iaload), (850, .aload_n 0), (851, .iload_n 3), (852, .iconst 2), (853, .iadd), (854, .iaload), (855, .aload_n 0), (856, .iload_n 3), (857, .iconst 3), (858, .iadd), (859, .iaload)]
theorem tL_48_ok : tblOK code tL_48 = true := by decide +kernel
def tL_49 : List (Nat × Instr) := [(860, .invokevirtual 112), (863, .pop), (864, .goto 72), (867, .aload_n 1), (868, .aload_n 0), (869, .iload_n 3), (870, .iconst 1), (871, .iadd), (872, .iaload), (873, .invokevirtual 113), (876, .pop), (877, .aload_n 2)]
theorem tL_49_ok : tblOK code tL_49 = true := by decide +kernel
def tL_50 : List (Nat × Instr) := [(878, .aload_n 0), (879, .iload_n 3), (880, .iconst 1), (881, .iadd), (882, .iaload), (883, .invokevirtual 116), (886, .pop), (887, .goto 49), (890, .aload_n 1), (891, .aload_n 0), (892, .iload_n 3), (893, .iconst 1)]
theorem tL_50_ok : tblOK code tL_50 = true := by decide +kernel
def tL_51 : List (Nat × Instr) := [(894, .iadd), (895, .iaload), (896, .invokevirtual 117), (899, .pop), (900, .aload_n 2), (901, .aload_n 0), (902, .iload_n 3), (903, .iconst 1), (904, .iadd), (905, .iaload), (906, .invokevirtual 120), (909, .pop)]
theorem tL_51_ok : tblOK code tL_51 = true := by decide +kernel
def tL_52 : List (Nat × Instr) := [(910, .goto 26), (913, .aload_n 1), (914, .aload_n 0), (915, .iload_n 3), (916, .iconst 1), (917, .iadd), (918, .iaload), (919, .invokevirtual 121), (922, .pop), (923, .aload_n 2), (924, .aload_n 0), (925, .iload_n 3)]
theorem tL_52_ok : tblOK code tL_52 = true := by decide +kernel
def tL_53 : List (Nat × Instr) := [(926, .iconst 1), (927, .iadd), (928, .iaload), (929, .invokevirtual 124), (932, .pop), (933, .goto 3), (936, .iinc 3 6), (939, .goto (-921)), (942, .iconst 1), (943, .ireturn)]
theorem tL_53_ok : tblOK code tL_53 = true := by decide +kernel
def mL_law : pM := (12, yL_law, code, 4, some .boolean, tL_0 ++ tL_1 ++ tL_2 ++ tL_3 ++ tL_4 ++ tL_5 ++ tL_6 ++ tL_7 ++ tL_8 ++ tL_9 ++ tL_10 ++ tL_11 ++ tL_12 ++ tL_13 ++ tL_14 ++ tL_15 ++ tL_16 ++ tL_17 ++ tL_18 ++ tL_19 ++ tL_20 ++ tL_21 ++ tL_22 ++ tL_23 ++ tL_24 ++ tL_25 ++ tL_26 ++ tL_27 ++ tL_28 ++ tL_29 ++ tL_30 ++ tL_31 ++ tL_32 ++ tL_33 ++ tL_34 ++ tL_35 ++ tL_36 ++ tL_37 ++ tL_38 ++ tL_39 ++ tL_40 ++ tL_41 ++ tL_42 ++ tL_43 ++ tL_44 ++ tL_45 ++ tL_46 ++ tL_47 ++ tL_48 ++ tL_49 ++ tL_50 ++ tL_51 ++ tL_52 ++ tL_53)
theorem tbl_app {cc : ByteArray} {a b : List (Nat × Instr)} (h : tblOK cc a = true) (k : tblOK cc b = true) : tblOK cc (a ++ b) = true := by
  unfold tblOK at h k ⊢
  rw [List.all_append, h, k]
  rfl
theorem dec_L_law : ∀ pc ins, instrAt mL_law pc = some ins → DecAt mL_law.2.2.1 pc ins := tbl_ok (M := mL_law) (tbl_app (tbl_app (tbl_app (tbl_app (tbl_app (tbl_app (tbl_app (tbl_app (tbl_app (tbl_app (tbl_app (tbl_app (tbl_app (tbl_app (tbl_app (tbl_app (tbl_app (tbl_app (tbl_app (tbl_app (tbl_app (tbl_app (tbl_app (tbl_app (tbl_app (tbl_app (tbl_app (tbl_app (tbl_app (tbl_app (tbl_app (tbl_app (tbl_app (tbl_app (tbl_app (tbl_app (tbl_app (tbl_app (tbl_app (tbl_app (tbl_app (tbl_app (tbl_app (tbl_app (tbl_app (tbl_app (tbl_app (tbl_app (tbl_app (tbl_app (tbl_app (tbl_app (tbl_app tL_0_ok tL_1_ok) tL_2_ok) tL_3_ok) tL_4_ok) tL_5_ok) tL_6_ok) tL_7_ok) tL_8_ok) tL_9_ok) tL_10_ok) tL_11_ok) tL_12_ok) tL_13_ok) tL_14_ok) tL_15_ok) tL_16_ok) tL_17_ok) tL_18_ok) tL_19_ok) tL_20_ok) tL_21_ok) tL_22_ok) tL_23_ok) tL_24_ok) tL_25_ok) tL_26_ok) tL_27_ok) tL_28_ok) tL_29_ok) tL_30_ok) tL_31_ok) tL_32_ok) tL_33_ok) tL_34_ok) tL_35_ok) tL_36_ok) tL_37_ok) tL_38_ok) tL_39_ok) tL_40_ok) tL_41_ok) tL_42_ok) tL_43_ok) tL_44_ok) tL_45_ok) tL_46_ok) tL_47_ok) tL_48_ok) tL_49_ok) tL_50_ok) tL_51_ok) tL_52_ok) tL_53_ok)
