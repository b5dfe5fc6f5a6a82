/-! the methods, as the runner has them -/
-- 0: HexTemplatesLaw.law([I)Z
def xc_0 : xrC := [(0, .new 8, 3), (3, .dup, 1), (4, .invokespecial 104, 3), (7, .astore_n 1, 1), (8, .new 9, 3), (11, .dup, 1), (12, .invokespecial 143, 3), (15, .astore_n 2, 1),
  (16, .iconst 1, 1), (17, .newarray .long, 2), (19, .astore_n 3, 1), (20, .iconst 0, 1), (21, .istore 4, 2), (23, .iload 4, 2), (25, .aload_n 0, 1), (26, .arraylength, 1),
  (27, .iconst 4, 1), (28, .isub, 1), (29, .if_icmp .gt 1503, 3), (32, .aload_n 0, 1), (33, .iload 4, 2), (35, .iaload, 1), (36, .bipush 31, 2), (38, .iand, 1),
  (39, .tableswitch 1487 0 24 #[113, 213, 257, 313, 326, 382, 395, 451, 507, 520, 604, 617, 685, 698, 711, 767, 823, 903, 983, 1051, 1131, 1199, 1295, 1339, 1419], 113), (152, .aload_n 1, 1), (153, .aload_n 0, 1), (154, .iload 4, 2), (156, .iconst 1, 1), (157, .iadd, 1), (158, .iaload, 1), (159, .i2l, 1),
  (160, .bipush 32, 2), (162, .lshl, 1), (163, .aload_n 0, 1), (164, .iload 4, 2), (166, .iconst 2, 1), (167, .iadd, 1), (168, .iaload, 1), (169, .i2l, 1),
  (170, .goto_w 4294967295, 3), (173, .land, 1), (174, .lor, 1), (175, .aload_n 0, 1), (176, .iload 4, 2), (178, .iconst 3, 1), (179, .iadd, 1), (180, .iaload, 1),
  (181, .aload_n 3, 1), (182, .invokestatic 231, 3), (185, .istore 5, 2), (187, .aload_n 2, 1), (188, .aload_n 0, 1), (189, .iload 4, 2), (191, .iconst 1, 1), (192, .iadd, 1),
  (193, .iaload, 1), (194, .i2l, 1), (195, .bipush 32, 2), (197, .lshl, 1), (198, .aload_n 0, 1), (199, .iload 4, 2), (201, .iconst 2, 1), (202, .iadd, 1),
  (203, .iaload, 1), (204, .i2l, 1), (205, .goto_w 4294967295, 3), (208, .land, 1), (209, .lor, 1), (210, .aload_n 0, 1), (211, .iload 4, 2), (213, .iconst 3, 1),
  (214, .iadd, 1), (215, .iaload, 1), (216, .invokevirtual 147, 3), (219, .istore 6, 2), (221, .aload_n 2, 1), (222, .invokevirtual 144, 3), (225, .iload 5, 2), (227, .if_icmp .eq 5, 3),
  (230, .iconst 0, 1), (231, .ireturn, 1), (232, .iload 5, 2), (234, .ifCond .ne 15, 3), (237, .aload_n 3, 1), (238, .iconst 0, 1), (239, .laload, 1), (240, .iload 6, 2),
  (242, .i2l, 1), (243, .lcmp, 1), (244, .ifCond .eq 5, 3), (247, .iconst 0, 1), (248, .ireturn, 1), (249, .goto 1277, 3), (252, .aload_n 1, 1), (253, .aload_n 3, 1),
  (254, .invokestatic 232, 3), (257, .istore 5, 2), (259, .aload_n 2, 1), (260, .invokevirtual 149, 3), (263, .istore 6, 2), (265, .aload_n 2, 1), (266, .invokevirtual 144, 3), (269, .iload 5, 2),
  (271, .if_icmp .eq 5, 3), (274, .iconst 0, 1), (275, .ireturn, 1), (276, .iload 5, 2), (278, .ifCond .ne 15, 3), (281, .aload_n 3, 1), (282, .iconst 0, 1), (283, .laload, 1),
  (284, .iload 6, 2), (286, .i2l, 1), (287, .lcmp, 1), (288, .ifCond .eq 5, 3), (291, .iconst 0, 1), (292, .ireturn, 1), (293, .goto 1233, 3), (296, .aload_n 1, 1),
  (297, .aload_n 0, 1), (298, .iload 4, 2), (300, .iconst 1, 1), (301, .iadd, 1), (302, .iaload, 1), (303, .aload_n 3, 1), (304, .invokestatic 233, 3), (307, .istore 5, 2),
  (309, .aload_n 2, 1), (310, .aload_n 0, 1), (311, .iload 4, 2), (313, .iconst 1, 1), (314, .iadd, 1), (315, .iaload, 1), (316, .invokevirtual 171, 3), (319, .istore 6, 2),
  (321, .aload_n 2, 1), (322, .invokevirtual 144, 3), (325, .iload 5, 2), (327, .if_icmp .eq 5, 3), (330, .iconst 0, 1), (331, .ireturn, 1), (332, .iload 5, 2), (334, .ifCond .ne 15, 3),
  (337, .aload_n 3, 1), (338, .iconst 0, 1), (339, .laload, 1), (340, .iload 6, 2), (342, .i2l, 1), (343, .lcmp, 1), (344, .ifCond .eq 5, 3), (347, .iconst 0, 1),
  (348, .ireturn, 1), (349, .goto 1177, 3), (352, .aload_n 1, 1), (353, .invokevirtual 108, 3), (356, .aload_n 2, 1), (357, .invokevirtual 150, 3), (360, .if_icmp .eq 1166, 3), (363, .iconst 0, 1),
  (364, .ireturn, 1), (365, .aload_n 1, 1), (366, .aload_n 0, 1), (367, .iload 4, 2), (369, .iconst 1, 1), (370, .iadd, 1), (371, .iaload, 1), (372, .aload_n 3, 1),
  (373, .invokestatic 234, 3), (376, .istore 5, 2), (378, .aload_n 2, 1), (379, .aload_n 0, 1), (380, .iload 4, 2), (382, .iconst 1, 1), (383, .iadd, 1), (384, .iaload, 1),
  (385, .invokevirtual 151, 3), (388, .istore 6, 2), (390, .aload_n 2, 1), (391, .invokevirtual 144, 3), (394, .iload 5, 2), (396, .if_icmp .eq 5, 3), (399, .iconst 0, 1), (400, .ireturn, 1),
  (401, .iload 5, 2), (403, .ifCond .ne 15, 3), (406, .aload_n 3, 1), (407, .iconst 0, 1), (408, .laload, 1), (409, .iload 6, 2), (411, .i2l, 1), (412, .lcmp, 1),
  (413, .ifCond .eq 5, 3), (416, .iconst 0, 1), (417, .ireturn, 1), (418, .goto 1108, 3), (421, .aload_n 1, 1), (422, .invokevirtual 110, 3), (425, .aload_n 2, 1), (426, .invokevirtual 152, 3),
  (429, .if_icmp .eq 1097, 3), (432, .iconst 0, 1), (433, .ireturn, 1), (434, .aload_n 1, 1), (435, .aload_n 0, 1), (436, .iload 4, 2), (438, .iconst 1, 1), (439, .iadd, 1),
  (440, .iaload, 1), (441, .aload_n 3, 1), (442, .invokestatic 235, 3), (445, .istore 5, 2), (447, .aload_n 2, 1), (448, .aload_n 0, 1), (449, .iload 4, 2), (451, .iconst 1, 1),
  (452, .iadd, 1), (453, .iaload, 1), (454, .invokevirtual 154, 3), (457, .istore 6, 2), (459, .aload_n 2, 1), (460, .invokevirtual 144, 3), (463, .iload 5, 2), (465, .if_icmp .eq 5, 3),
  (468, .iconst 0, 1), (469, .ireturn, 1), (470, .iload 5, 2), (472, .ifCond .ne 15, 3), (475, .aload_n 3, 1), (476, .iconst 0, 1), (477, .laload, 1), (478, .iload 6, 2),
  (480, .i2l, 1), (481, .lcmp, 1), (482, .ifCond .eq 5, 3), (485, .iconst 0, 1), (486, .ireturn, 1), (487, .goto 1039, 3), (490, .aload_n 1, 1), (491, .aload_n 0, 1),
  (492, .iload 4, 2), (494, .iconst 1, 1), (495, .iadd, 1), (496, .iaload, 1), (497, .aload_n 3, 1), (498, .invokestatic 236, 3), (501, .istore 5, 2), (503, .aload_n 2, 1),
  (504, .aload_n 0, 1), (505, .iload 4, 2), (507, .iconst 1, 1), (508, .iadd, 1), (509, .iaload, 1), (510, .invokevirtual 155, 3), (513, .istore 6, 2), (515, .aload_n 2, 1),
  (516, .invokevirtual 144, 3), (519, .iload 5, 2), (521, .if_icmp .eq 5, 3), (524, .iconst 0, 1), (525, .ireturn, 1), (526, .iload 5, 2), (528, .ifCond .ne 15, 3), (531, .aload_n 3, 1),
  (532, .iconst 0, 1), (533, .laload, 1), (534, .iload 6, 2), (536, .i2l, 1), (537, .lcmp, 1), (538, .ifCond .eq 5, 3), (541, .iconst 0, 1), (542, .ireturn, 1),
  (543, .goto 983, 3), (546, .aload_n 1, 1), (547, .invokevirtual 113, 3), (550, .aload_n 2, 1), (551, .invokevirtual 188, 3), (554, .if_icmp .eq 972, 3), (557, .iconst 0, 1), (558, .ireturn, 1),
  (559, .aload_n 1, 1), (560, .aload_n 0, 1), (561, .iload 4, 2), (563, .iconst 1, 1), (564, .iadd, 1), (565, .iaload, 1), (566, .aload_n 0, 1), (567, .iload 4, 2),
  (569, .iconst 2, 1), (570, .iadd, 1), (571, .iaload, 1), (572, .ifCond .eq 7, 3), (575, .iconst 1, 1), (576, .goto 4, 3), (579, .iconst 0, 1), (580, .aload_n 3, 1),
  (581, .invokestatic 237, 3), (584, .istore 5, 2), (586, .aload_n 2, 1), (587, .aload_n 0, 1), (588, .iload 4, 2), (590, .iconst 1, 1), (591, .iadd, 1), (592, .iaload, 1),
  (593, .aload_n 0, 1), (594, .iload 4, 2), (596, .iconst 2, 1), (597, .iadd, 1), (598, .iaload, 1), (599, .ifCond .eq 7, 3), (602, .iconst 1, 1), (603, .goto 4, 3),
  (606, .iconst 0, 1), (607, .invokevirtual 189, 3), (610, .istore 6, 2), (612, .aload_n 2, 1), (613, .invokevirtual 144, 3), (616, .iload 5, 2), (618, .if_icmp .eq 5, 3), (621, .iconst 0, 1),
  (622, .ireturn, 1), (623, .iload 5, 2), (625, .ifCond .ne 15, 3), (628, .aload_n 3, 1), (629, .iconst 0, 1), (630, .laload, 1), (631, .iload 6, 2), (633, .i2l, 1),
  (634, .lcmp, 1), (635, .ifCond .eq 5, 3), (638, .iconst 0, 1), (639, .ireturn, 1), (640, .goto 886, 3), (643, .aload_n 1, 1), (644, .invokevirtual 115, 3), (647, .aload_n 2, 1),
  (648, .invokevirtual 190, 3), (651, .if_icmp .eq 875, 3), (654, .iconst 0, 1), (655, .ireturn, 1), (656, .aload_n 1, 1), (657, .aload_n 0, 1), (658, .iload 4, 2), (660, .iconst 1, 1),
  (661, .iadd, 1), (662, .iaload, 1), (663, .aload_n 0, 1), (664, .iload 4, 2), (666, .iconst 2, 1), (667, .iadd, 1), (668, .iaload, 1), (669, .aload_n 3, 1),
  (670, .invokestatic 238, 3), (673, .istore 5, 2), (675, .aload_n 2, 1), (676, .aload_n 0, 1), (677, .iload 4, 2), (679, .iconst 1, 1), (680, .iadd, 1), (681, .iaload, 1),
  (682, .aload_n 0, 1), (683, .iload 4, 2), (685, .iconst 2, 1), (686, .iadd, 1), (687, .iaload, 1), (688, .invokevirtual 196, 3), (691, .istore 6, 2), (693, .aload_n 2, 1),
  (694, .invokevirtual 144, 3), (697, .iload 5, 2), (699, .if_icmp .eq 5, 3), (702, .iconst 0, 1), (703, .ireturn, 1), (704, .iload 5, 2), (706, .ifCond .ne 15, 3), (709, .aload_n 3, 1),
  (710, .iconst 0, 1), (711, .laload, 1), (712, .iload 6, 2), (714, .i2l, 1), (715, .lcmp, 1), (716, .ifCond .eq 5, 3), (719, .iconst 0, 1), (720, .ireturn, 1),
  (721, .goto 805, 3), (724, .aload_n 1, 1), (725, .invokevirtual 117, 3), (728, .aload_n 2, 1), (729, .invokevirtual 197, 3), (732, .if_icmp .eq 794, 3), (735, .iconst 0, 1), (736, .ireturn, 1),
  (737, .aload_n 1, 1), (738, .invokevirtual 118, 3), (741, .aload_n 2, 1), (742, .invokevirtual 198, 3), (745, .if_icmp .eq 781, 3), (748, .iconst 0, 1), (749, .ireturn, 1), (750, .aload_n 1, 1),
  (751, .aload_n 0, 1), (752, .iload 4, 2), (754, .iconst 1, 1), (755, .iadd, 1), (756, .iaload, 1), (757, .aload_n 3, 1), (758, .invokestatic 239, 3), (761, .istore 5, 2),
  (763, .aload_n 2, 1), (764, .aload_n 0, 1), (765, .iload 4, 2), (767, .iconst 1, 1), (768, .iadd, 1), (769, .iaload, 1), (770, .invokevirtual 199, 3), (773, .istore 6, 2),
  (775, .aload_n 2, 1), (776, .invokevirtual 144, 3), (779, .iload 5, 2), (781, .if_icmp .eq 5, 3), (784, .iconst 0, 1), (785, .ireturn, 1), (786, .iload 5, 2), (788, .ifCond .ne 15, 3),
  (791, .aload_n 3, 1), (792, .iconst 0, 1), (793, .laload, 1), (794, .iload 6, 2), (796, .i2l, 1), (797, .lcmp, 1), (798, .ifCond .eq 5, 3), (801, .iconst 0, 1),
  (802, .ireturn, 1), (803, .goto 723, 3), (806, .aload_n 1, 1), (807, .aload_n 0, 1), (808, .iload 4, 2), (810, .iconst 1, 1), (811, .iadd, 1), (812, .iaload, 1),
  (813, .aload_n 3, 1), (814, .invokestatic 240, 3), (817, .istore 5, 2), (819, .aload_n 2, 1), (820, .aload_n 0, 1), (821, .iload 4, 2), (823, .iconst 1, 1), (824, .iadd, 1),
  (825, .iaload, 1), (826, .invokevirtual 200, 3), (829, .istore 6, 2), (831, .aload_n 2, 1), (832, .invokevirtual 144, 3), (835, .iload 5, 2), (837, .if_icmp .eq 5, 3), (840, .iconst 0, 1),
  (841, .ireturn, 1), (842, .iload 5, 2), (844, .ifCond .ne 15, 3), (847, .aload_n 3, 1), (848, .iconst 0, 1), (849, .laload, 1), (850, .iload 6, 2), (852, .i2l, 1),
  (853, .lcmp, 1), (854, .ifCond .eq 5, 3), (857, .iconst 0, 1), (858, .ireturn, 1), (859, .goto 667, 3), (862, .aload_n 1, 1), (863, .aload_n 0, 1), (864, .iload 4, 2),
  (866, .iconst 1, 1), (867, .iadd, 1), (868, .iaload, 1), (869, .aload_n 0, 1), (870, .iload 4, 2), (872, .iconst 2, 1), (873, .iadd, 1), (874, .iaload, 1),
  (875, .aload_n 0, 1), (876, .iload 4, 2), (878, .iconst 3, 1), (879, .iadd, 1), (880, .iaload, 1), (881, .aload_n 3, 1), (882, .invokestatic 241, 3), (885, .istore 5, 2),
  (887, .aload_n 2, 1), (888, .aload_n 0, 1), (889, .iload 4, 2), (891, .iconst 1, 1), (892, .iadd, 1), (893, .iaload, 1), (894, .aload_n 0, 1), (895, .iload 4, 2),
  (897, .iconst 2, 1), (898, .iadd, 1), (899, .iaload, 1), (900, .aload_n 0, 1), (901, .iload 4, 2), (903, .iconst 3, 1), (904, .iadd, 1), (905, .iaload, 1),
  (906, .invokevirtual 201, 3), (909, .istore 6, 2), (911, .aload_n 2, 1), (912, .invokevirtual 144, 3), (915, .iload 5, 2), (917, .if_icmp .eq 5, 3), (920, .iconst 0, 1), (921, .ireturn, 1),
  (922, .iload 5, 2), (924, .ifCond .ne 15, 3), (927, .aload_n 3, 1), (928, .iconst 0, 1), (929, .laload, 1), (930, .iload 6, 2), (932, .i2l, 1), (933, .lcmp, 1),
  (934, .ifCond .eq 5, 3), (937, .iconst 0, 1), (938, .ireturn, 1), (939, .goto 587, 3), (942, .aload_n 1, 1), (943, .aload_n 0, 1), (944, .iload 4, 2), (946, .iconst 1, 1),
  (947, .iadd, 1), (948, .iaload, 1), (949, .aload_n 0, 1), (950, .iload 4, 2), (952, .iconst 2, 1), (953, .iadd, 1), (954, .iaload, 1), (955, .aload_n 0, 1),
  (956, .iload 4, 2), (958, .iconst 3, 1), (959, .iadd, 1), (960, .iaload, 1), (961, .aload_n 3, 1), (962, .invokestatic 242, 3), (965, .istore 5, 2), (967, .aload_n 2, 1),
  (968, .aload_n 0, 1), (969, .iload 4, 2), (971, .iconst 1, 1), (972, .iadd, 1), (973, .iaload, 1), (974, .aload_n 0, 1), (975, .iload 4, 2), (977, .iconst 2, 1),
  (978, .iadd, 1), (979, .iaload, 1), (980, .aload_n 0, 1), (981, .iload 4, 2), (983, .iconst 3, 1), (984, .iadd, 1), (985, .iaload, 1), (986, .invokevirtual 202, 3),
  (989, .istore 6, 2), (991, .aload_n 2, 1), (992, .invokevirtual 144, 3), (995, .iload 5, 2), (997, .if_icmp .eq 5, 3), (1000, .iconst 0, 1), (1001, .ireturn, 1), (1002, .iload 5, 2),
  (1004, .ifCond .ne 15, 3), (1007, .aload_n 3, 1), (1008, .iconst 0, 1), (1009, .laload, 1), (1010, .iload 6, 2), (1012, .i2l, 1), (1013, .lcmp, 1), (1014, .ifCond .eq 5, 3),
  (1017, .iconst 0, 1), (1018, .ireturn, 1), (1019, .goto 507, 3), (1022, .aload_n 1, 1), (1023, .aload_n 0, 1), (1024, .iload 4, 2), (1026, .iconst 1, 1), (1027, .iadd, 1),
  (1028, .iaload, 1), (1029, .aload_n 0, 1), (1030, .iload 4, 2), (1032, .iconst 2, 1), (1033, .iadd, 1), (1034, .iaload, 1), (1035, .aload_n 3, 1), (1036, .invokestatic 243, 3),
  (1039, .istore 5, 2), (1041, .aload_n 2, 1), (1042, .aload_n 0, 1), (1043, .iload 4, 2), (1045, .iconst 1, 1), (1046, .iadd, 1), (1047, .iaload, 1), (1048, .aload_n 0, 1),
  (1049, .iload 4, 2), (1051, .iconst 2, 1), (1052, .iadd, 1), (1053, .iaload, 1), (1054, .invokevirtual 214, 3), (1057, .istore 6, 2), (1059, .aload_n 2, 1), (1060, .invokevirtual 144, 3),
  (1063, .iload 5, 2), (1065, .if_icmp .eq 5, 3), (1068, .iconst 0, 1), (1069, .ireturn, 1), (1070, .iload 5, 2), (1072, .ifCond .ne 15, 3), (1075, .aload_n 3, 1), (1076, .iconst 0, 1),
  (1077, .laload, 1), (1078, .iload 6, 2), (1080, .i2l, 1), (1081, .lcmp, 1), (1082, .ifCond .eq 5, 3), (1085, .iconst 0, 1), (1086, .ireturn, 1), (1087, .goto 439, 3),
  (1090, .aload_n 1, 1), (1091, .aload_n 0, 1), (1092, .iload 4, 2), (1094, .iconst 1, 1), (1095, .iadd, 1), (1096, .iaload, 1), (1097, .aload_n 0, 1), (1098, .iload 4, 2),
  (1100, .iconst 2, 1), (1101, .iadd, 1), (1102, .iaload, 1), (1103, .aload_n 0, 1), (1104, .iload 4, 2), (1106, .iconst 3, 1), (1107, .iadd, 1), (1108, .iaload, 1),
  (1109, .aload_n 3, 1), (1110, .invokestatic 244, 3), (1113, .istore 5, 2), (1115, .aload_n 2, 1), (1116, .aload_n 0, 1), (1117, .iload 4, 2), (1119, .iconst 1, 1), (1120, .iadd, 1),
  (1121, .iaload, 1), (1122, .aload_n 0, 1), (1123, .iload 4, 2), (1125, .iconst 2, 1), (1126, .iadd, 1), (1127, .iaload, 1), (1128, .aload_n 0, 1), (1129, .iload 4, 2),
  (1131, .iconst 3, 1), (1132, .iadd, 1), (1133, .iaload, 1), (1134, .invokevirtual 216, 3), (1137, .istore 6, 2), (1139, .aload_n 2, 1), (1140, .invokevirtual 144, 3), (1143, .iload 5, 2),
  (1145, .if_icmp .eq 5, 3), (1148, .iconst 0, 1), (1149, .ireturn, 1), (1150, .iload 5, 2), (1152, .ifCond .ne 15, 3), (1155, .aload_n 3, 1), (1156, .iconst 0, 1), (1157, .laload, 1),
  (1158, .iload 6, 2), (1160, .i2l, 1), (1161, .lcmp, 1), (1162, .ifCond .eq 5, 3), (1165, .iconst 0, 1), (1166, .ireturn, 1), (1167, .goto 359, 3), (1170, .aload_n 1, 1),
  (1171, .aload_n 0, 1), (1172, .iload 4, 2), (1174, .iconst 1, 1), (1175, .iadd, 1), (1176, .iaload, 1), (1177, .aload_n 0, 1), (1178, .iload 4, 2), (1180, .iconst 2, 1),
  (1181, .iadd, 1), (1182, .iaload, 1), (1183, .aload_n 3, 1), (1184, .invokestatic 245, 3), (1187, .istore 5, 2), (1189, .aload_n 2, 1), (1190, .aload_n 0, 1), (1191, .iload 4, 2),
  (1193, .iconst 1, 1), (1194, .iadd, 1), (1195, .iaload, 1), (1196, .aload_n 0, 1), (1197, .iload 4, 2), (1199, .iconst 2, 1), (1200, .iadd, 1), (1201, .iaload, 1),
  (1202, .invokevirtual 217, 3), (1205, .istore 6, 2), (1207, .aload_n 2, 1), (1208, .invokevirtual 144, 3), (1211, .iload 5, 2), (1213, .if_icmp .eq 5, 3), (1216, .iconst 0, 1), (1217, .ireturn, 1),
  (1218, .iload 5, 2), (1220, .ifCond .ne 15, 3), (1223, .aload_n 3, 1), (1224, .iconst 0, 1), (1225, .laload, 1), (1226, .iload 6, 2), (1228, .i2l, 1), (1229, .lcmp, 1),
  (1230, .ifCond .eq 5, 3), (1233, .iconst 0, 1), (1234, .ireturn, 1), (1235, .goto 291, 3), (1238, .aload_n 1, 1), (1239, .aload_n 0, 1), (1240, .iload 4, 2), (1242, .iconst 1, 1),
  (1243, .iadd, 1), (1244, .iaload, 1), (1245, .aload_n 0, 1), (1246, .iload 4, 2), (1248, .iconst 2, 1), (1249, .iadd, 1), (1250, .iaload, 1), (1251, .aload_n 0, 1),
  (1252, .iload 4, 2), (1254, .iconst 3, 1), (1255, .iadd, 1), (1256, .iaload, 1), (1257, .ifCond .eq 7, 3), (1260, .iconst 1, 1), (1261, .goto 4, 3), (1264, .iconst 0, 1),
  (1265, .aload_n 3, 1), (1266, .invokestatic 246, 3), (1269, .istore 5, 2), (1271, .aload_n 2, 1), (1272, .aload_n 0, 1), (1273, .iload 4, 2), (1275, .iconst 1, 1), (1276, .iadd, 1),
  (1277, .iaload, 1), (1278, .aload_n 0, 1), (1279, .iload 4, 2), (1281, .iconst 2, 1), (1282, .iadd, 1), (1283, .iaload, 1), (1284, .aload_n 0, 1), (1285, .iload 4, 2),
  (1287, .iconst 3, 1), (1288, .iadd, 1), (1289, .iaload, 1), (1290, .ifCond .eq 7, 3), (1293, .iconst 1, 1), (1294, .goto 4, 3), (1297, .iconst 0, 1), (1298, .invokevirtual 219, 3),
  (1301, .istore 6, 2), (1303, .aload_n 2, 1), (1304, .invokevirtual 144, 3), (1307, .iload 5, 2), (1309, .if_icmp .eq 5, 3), (1312, .iconst 0, 1), (1313, .ireturn, 1), (1314, .iload 5, 2),
  (1316, .ifCond .ne 15, 3), (1319, .aload_n 3, 1), (1320, .iconst 0, 1), (1321, .laload, 1), (1322, .iload 6, 2), (1324, .i2l, 1), (1325, .lcmp, 1), (1326, .ifCond .eq 5, 3),
  (1329, .iconst 0, 1), (1330, .ireturn, 1), (1331, .goto 195, 3), (1334, .aload_n 1, 1), (1335, .aload_n 3, 1), (1336, .invokestatic 247, 3), (1339, .istore 5, 2), (1341, .aload_n 2, 1),
  (1342, .invokevirtual 220, 3), (1345, .istore 6, 2), (1347, .aload_n 2, 1), (1348, .invokevirtual 144, 3), (1351, .iload 5, 2), (1353, .if_icmp .eq 5, 3), (1356, .iconst 0, 1), (1357, .ireturn, 1),
  (1358, .iload 5, 2), (1360, .ifCond .ne 15, 3), (1363, .aload_n 3, 1), (1364, .iconst 0, 1), (1365, .laload, 1), (1366, .iload 6, 2), (1368, .i2l, 1), (1369, .lcmp, 1),
  (1370, .ifCond .eq 5, 3), (1373, .iconst 0, 1), (1374, .ireturn, 1), (1375, .goto 151, 3), (1378, .aload_n 1, 1), (1379, .aload_n 0, 1), (1380, .iload 4, 2), (1382, .iconst 1, 1),
  (1383, .iadd, 1), (1384, .iaload, 1), (1385, .aload_n 0, 1), (1386, .iload 4, 2), (1388, .iconst 2, 1), (1389, .iadd, 1), (1390, .iaload, 1), (1391, .aload_n 0, 1),
  (1392, .iload 4, 2), (1394, .iconst 3, 1), (1395, .iadd, 1), (1396, .iaload, 1), (1397, .aload_n 3, 1), (1398, .invokestatic 248, 3), (1401, .istore 5, 2), (1403, .aload_n 2, 1),
  (1404, .aload_n 0, 1), (1405, .iload 4, 2), (1407, .iconst 1, 1), (1408, .iadd, 1), (1409, .iaload, 1), (1410, .aload_n 0, 1), (1411, .iload 4, 2), (1413, .iconst 2, 1),
  (1414, .iadd, 1), (1415, .iaload, 1), (1416, .aload_n 0, 1), (1417, .iload 4, 2), (1419, .iconst 3, 1), (1420, .iadd, 1), (1421, .iaload, 1), (1422, .invokevirtual 224, 3),
  (1425, .istore 6, 2), (1427, .aload_n 2, 1), (1428, .invokevirtual 144, 3), (1431, .iload 5, 2), (1433, .if_icmp .eq 5, 3), (1436, .iconst 0, 1), (1437, .ireturn, 1), (1438, .iload 5, 2),
  (1440, .ifCond .ne 15, 3), (1443, .aload_n 3, 1), (1444, .iconst 0, 1), (1445, .laload, 1), (1446, .iload 6, 2), (1448, .i2l, 1), (1449, .lcmp, 1), (1450, .ifCond .eq 5, 3),
  (1453, .iconst 0, 1), (1454, .ireturn, 1), (1455, .goto 71, 3), (1458, .aload_n 1, 1), (1459, .aload_n 0, 1), (1460, .iload 4, 2), (1462, .iconst 1, 1), (1463, .iadd, 1),
  (1464, .iaload, 1), (1465, .aload_n 0, 1), (1466, .iload 4, 2), (1468, .iconst 2, 1), (1469, .iadd, 1), (1470, .iaload, 1), (1471, .aload_n 3, 1), (1472, .invokestatic 249, 3),
  (1475, .istore 5, 2), (1477, .aload_n 2, 1), (1478, .aload_n 0, 1), (1479, .iload 4, 2), (1481, .iconst 1, 1), (1482, .iadd, 1), (1483, .iaload, 1), (1484, .aload_n 0, 1),
  (1485, .iload 4, 2), (1487, .iconst 2, 1), (1488, .iadd, 1), (1489, .iaload, 1), (1490, .invokevirtual 226, 3), (1493, .istore 6, 2), (1495, .aload_n 2, 1), (1496, .invokevirtual 144, 3),
  (1499, .iload 5, 2), (1501, .if_icmp .eq 5, 3), (1504, .iconst 0, 1), (1505, .ireturn, 1), (1506, .iload 5, 2), (1508, .ifCond .ne 15, 3), (1511, .aload_n 3, 1), (1512, .iconst 0, 1),
  (1513, .laload, 1), (1514, .iload 6, 2), (1516, .i2l, 1), (1517, .lcmp, 1), (1518, .ifCond .eq 5, 3), (1521, .iconst 0, 1), (1522, .ireturn, 1), (1523, .goto 3, 3),
  (1526, .iinc 4 4, 3), (1529, .goto (-1506), 3), (1532, .iconst 1, 1), (1533, .ireturn, 1)]
def xm_0 : xrM := ((99, 1, ⟨"HexTemplatesLaw", "law", "([I)Z"⟩), (code, 7, (some .boolean)), [], xc_0)
-- 1: HexTemplates$Bytes.<init>(I)V
def xc_1 : xrC := [(0, .aload_n 0, 1), (1, .monitorexit, 3), (4, .aload_n 0, 1), (5, .iconst 0, 1), (6, .putfield 1, 3), (9, .aload_n 0, 1), (10, .iload_n 1, 1), (11, .ifCond .ge 7, 3),
  (14, .iconst 0, 1), (15, .goto 4, 3), (18, .iload_n 1, 1), (19, .newarray .int, 2), (21, .invokedynamic 0, 3), (24, .return_, 1)]
def xm_1 : xrM := ((0, 1, ⟨"HexTemplates$Bytes", "<init>", "(I)V"⟩), (prog_2_method_1_code, 2, (none)), [], xc_1)
-- 2: HexTemplates$Bytes.get(I)I
def xc_2 : xrC := [(0, .iload_n 1, 1), (1, .ifCond .lt 20, 3), (4, .iload_n 1, 1), (5, .aload_n 0, 1), (6, .getfield 1, 3), (9, .if_icmp .ge 12, 3), (12, .aload_n 0, 1), (13, .getfield 0, 3),
  (16, .iload_n 1, 1), (17, .iaload, 1), (18, .goto 4, 3), (21, .iconst 0, 1), (22, .ireturn, 1)]
def xm_2 : xrM := ((0, 1, ⟨"HexTemplates$Bytes", "get", "(I)I"⟩), (prog_2_method_2_code, 2, (some FieldType.int)), [], xc_2)
-- 3: HexTemplates$Bytes.put(II)V
def xc_3 : xrC := [(0, .iload_n 1, 1), (1, .ifCond .lt 18, 3), (4, .iload_n 1, 1), (5, .aload_n 0, 1), (6, .getfield 1, 3), (9, .if_icmp .ge 10, 3), (12, .aload_n 0, 1), (13, .getfield 0, 3),
  (16, .iload_n 1, 1), (17, .iload_n 2, 1), (18, .iastore, 1), (19, .return_, 1)]
def xm_3 : xrM := ((0, 2, ⟨"HexTemplates$Bytes", "put", "(II)V"⟩), (prog_2_method_3_code, 3, (none)), [], xc_3)
-- 4: HexTemplates$Bytes.append(I)V
def xc_4 : xrC := [(0, .aload_n 0, 1), (1, .getfield 1, 3), (4, .aload_n 0, 1), (5, .getfield 0, 3), (8, .arraylength, 1), (9, .if_icmp .ge 23, 3), (12, .aload_n 0, 1), (13, .getfield 0, 3),
  (16, .aload_n 0, 1), (17, .getfield 1, 3), (20, .iload_n 1, 1), (21, .iastore, 1), (22, .aload_n 0, 1), (23, .dup, 1), (24, .getfield 1, 3), (27, .iconst 1, 1),
  (28, .iadd, 1), (29, .putfield 1, 3), (32, .return_, 1)]
def xm_4 : xrM := ((0, 1, ⟨"HexTemplates$Bytes", "append", "(I)V"⟩), (prog_2_method_4_code, 2, (none)), [], xc_4)
-- 5: HexTemplates$Bytes.copy(LHexTemplates$Bytes;)V
def xc_5 : xrC := [(0, .aload_n 0, 1), (1, .aload_n 1, 1), (2, .getfield 1, 3), (5, .aload_n 0, 1), (6, .getfield 0, 3), (9, .arraylength, 1), (10, .invokestatic 229, 3), (13, .putfield 1, 3),
  (16, .iconst 0, 1), (17, .istore_n 2, 1), (18, .iload_n 2, 1), (19, .aload_n 0, 1), (20, .getfield 1, 3), (23, .if_icmp .ge 21, 3), (26, .aload_n 0, 1), (27, .getfield 0, 3),
  (30, .iload_n 2, 1), (31, .aload_n 1, 1), (32, .getfield 0, 3), (35, .iload_n 2, 1), (36, .iaload, 1), (37, .iastore, 1), (38, .iinc 2 1, 3), (41, .goto (-23), 3),
  (44, .return_, 1)]
def xm_5 : xrM := ((0, 1, ⟨"HexTemplates$Bytes", "copy", "(LHexTemplates$Bytes;)V"⟩), (prog_2_method_5_code, 3, (none)), [], xc_5)
-- 6: HexTemplates$Bytes.open(II)Z
def xc_6 : xrC := [(0, .iload_n 1, 1), (1, .ifCond .lt 29, 3), (4, .iload_n 1, 1), (5, .aload_n 0, 1), (6, .getfield 1, 3), (9, .if_icmp .gt 21, 3), (12, .iload_n 2, 1), (13, .ifCond .lt 17, 3),
  (16, .iload_n 2, 1), (17, .aload_n 0, 1), (18, .getfield 0, 3), (21, .arraylength, 1), (22, .aload_n 0, 1), (23, .getfield 1, 3), (26, .isub, 1), (27, .if_icmp .le 5, 3),
  (30, .iconst 0, 1), (31, .ireturn, 1), (32, .aload_n 0, 1), (33, .getfield 1, 3), (36, .iconst 1, 1), (37, .isub, 1), (38, .istore_n 3, 1), (39, .iload_n 3, 1),
  (40, .iload_n 1, 1), (41, .if_icmp .lt 23, 3), (44, .aload_n 0, 1), (45, .getfield 0, 3), (48, .iload_n 3, 1), (49, .iload_n 2, 1), (50, .iadd, 1), (51, .aload_n 0, 1),
  (52, .getfield 0, 3), (55, .iload_n 3, 1), (56, .iaload, 1), (57, .iastore, 1), (58, .iinc 3 (-1), 3), (61, .goto (-22), 3), (64, .aload_n 0, 1), (65, .dup, 1),
  (66, .getfield 1, 3), (69, .iload_n 2, 1), (70, .iadd, 1), (71, .putfield 1, 3), (74, .iconst 1, 1), (75, .ireturn, 1)]
def xm_6 : xrM := ((0, 2, ⟨"HexTemplates$Bytes", "open", "(II)Z"⟩), (prog_2_method_6_code, 4, (some FieldType.boolean)), [], xc_6)
-- 7: HexTemplates$Bytes.close(II)V
def xc_7 : xrC := [(0, .iload_n 1, 1), (1, .ifCond .lt 17, 3), (4, .iload_n 2, 1), (5, .ifCond .lt 13, 3), (8, .iload_n 2, 1), (9, .aload_n 0, 1), (10, .getfield 1, 3), (13, .iload_n 1, 1),
  (14, .isub, 1), (15, .if_icmp .le 4, 3), (18, .return_, 1), (19, .iload_n 1, 1), (20, .iload_n 2, 1), (21, .iadd, 1), (22, .istore_n 3, 1), (23, .iload_n 3, 1),
  (24, .aload_n 0, 1), (25, .getfield 1, 3), (28, .if_icmp .ge 23, 3), (31, .aload_n 0, 1), (32, .getfield 0, 3), (35, .iload_n 3, 1), (36, .iload_n 2, 1), (37, .isub, 1),
  (38, .aload_n 0, 1), (39, .getfield 0, 3), (42, .iload_n 3, 1), (43, .iaload, 1), (44, .iastore, 1), (45, .iinc 3 1, 3), (48, .goto (-25), 3), (51, .aload_n 0, 1),
  (52, .dup, 1), (53, .getfield 1, 3), (56, .iload_n 2, 1), (57, .isub, 1), (58, .putfield 1, 3), (61, .return_, 1)]
def xm_7 : xrM := ((0, 2, ⟨"HexTemplates$Bytes", "close", "(II)V"⟩), (prog_2_method_7_code, 4, (none)), [], xc_7)
-- 8: HexTemplates$Bytes.repeat(II)V
def xc_8 : xrC := [(0, .iload_n 1, 1), (1, .istore_n 3, 1), (2, .iload_n 3, 1), (3, .iload_n 1, 1), (4, .iload_n 2, 1), (5, .iadd, 1), (6, .if_icmp .ge 21, 3), (9, .aload_n 0, 1),
  (10, .iload_n 3, 1), (11, .iload_n 2, 1), (12, .iadd, 1), (13, .aload_n 0, 1), (14, .iload_n 3, 1), (15, .invokevirtual 2, 3), (18, .invokevirtual 3, 3), (21, .iinc 3 1, 3),
  (24, .goto (-22), 3), (27, .return_, 1)]
def xm_8 : xrM := ((0, 2, ⟨"HexTemplates$Bytes", "repeat", "(II)V"⟩), (prog_2_method_8_code, 4, (none)), [], xc_8)
-- 9: HexTemplates$Editor.<init>()V
def xc_9 : xrC := [(0, .aload_n 0, 1), (1, .monitorexit, 3), (4, .aload_n 0, 1), (5, .new 0, 3), (8, .dup, 1), (9, .sipush 160, 3), (12, .invokespecial 1, 3), (15, .invokedynamic 64, 3),
  (18, .aload_n 0, 1), (19, .sipush 200, 3), (22, .newarray .boolean, 2), (24, .invokedynamic 65, 3), (27, .return_, 1)]
def xm_9 : xrM := ((1, 0, ⟨"HexTemplates$Editor", "<init>", "()V"⟩), (prog_3_method_1_code, 1, (none)), [], xc_9)
-- 10: HexTemplates$Editor.begin(LHexTemplates$Bytes;)V
def xc_10 : xrC := [(0, .aload_n 0, 1), (1, .getfield 64, 3), (4, .aload_n 1, 1), (5, .invokevirtual 5, 3), (8, .return_, 1)]
def xm_10 : xrM := ((1, 1, ⟨"HexTemplates$Editor", "begin", "(LHexTemplates$Bytes;)V"⟩), (prog_3_method_2_code, 2, (none)), [], xc_10)
-- 11: HexTemplates$Editor.write(LHexTemplates$Reader;II)V
def xc_11 : xrC := [(0, .aload_n 1, 1), (1, .getfield 320, 3), (4, .getfield 194, 3), (7, .iload_n 2, 1), (8, .iaload, 1), (9, .istore 4, 2), (11, .aload_n 1, 1), (12, .iload_n 2, 1),
  (13, .invokevirtual 81, 3), (16, .lookupswitch 148 #[(87, 68), (110, 100), (119, 36)], 36), (52, .aload_n 0, 1), (53, .getfield 64, 3), (56, .iload 4, 2), (58, .iload_n 3, 1), (59, .sipush 255, 3), (62, .iand, 1),
  (63, .invokevirtual 3, 3), (66, .aload_n 0, 1), (67, .getfield 64, 3), (70, .iload 4, 2), (72, .iconst 1, 1), (73, .iadd, 1), (74, .iload_n 3, 1), (75, .bipush 8, 2),
  (77, .ishr, 1), (78, .invokevirtual 3, 3), (81, .goto 93, 3), (84, .aload_n 0, 1), (85, .getfield 64, 3), (88, .iload 4, 2), (90, .iload_n 3, 1), (91, .bipush 8, 2),
  (93, .ishr, 1), (94, .invokevirtual 3, 3), (97, .aload_n 0, 1), (98, .getfield 64, 3), (101, .iload 4, 2), (103, .iconst 1, 1), (104, .iadd, 1), (105, .iload_n 3, 1),
  (106, .sipush 255, 3), (109, .iand, 1), (110, .invokevirtual 3, 3), (113, .goto 61, 3), (116, .aload_n 1, 1), (117, .iload_n 2, 1), (118, .invokevirtual 84, 3), (121, .istore 5, 2),
  (123, .aload_n 0, 1), (124, .getfield 64, 3), (127, .iload 4, 2), (129, .invokevirtual 2, 3), (132, .aload_n 1, 1), (133, .iload_n 2, 1), (134, .invokevirtual 83, 3), (137, .iload 5, 2),
  (139, .ishl, 1), (140, .iconst (-1), 1), (141, .ixor, 1), (142, .iand, 1), (143, .istore 6, 2), (145, .aload_n 0, 1), (146, .getfield 64, 3), (149, .iload 4, 2),
  (151, .iload 6, 2), (153, .iload_n 3, 1), (154, .iload 5, 2), (156, .ishl, 1), (157, .ior, 1), (158, .invokevirtual 3, 3), (161, .goto 13, 3), (164, .aload_n 0, 1),
  (165, .getfield 64, 3), (168, .iload 4, 2), (170, .iload_n 3, 1), (171, .invokevirtual 3, 3), (174, .return_, 1)]
def xm_11 : xrM := ((1, 3, ⟨"HexTemplates$Editor", "write", "(LHexTemplates$Reader;II)V"⟩), (prog_3_method_3_code, 7, (none)), [], xc_11)
-- 12: HexTemplates$Editor.putIn(LHexTemplates$Reader;III)Z
def xc_12 : xrC := [(0, .aload_n 1, 1), (1, .getfield 320, 3), (4, .astore 5, 2), (6, .aload_n 0, 1), (7, .getfield 64, 3), (10, .getfield 1, 3), (13, .iload 4, 2), (15, .iadd, 1),
  (16, .sipush 160, 3), (19, .if_icmp .le 5, 3), (22, .iconst 0, 1), (23, .ireturn, 1), (24, .iconst 0, 1), (25, .istore 6, 2), (27, .iload 6, 2), (29, .aload 5, 2),
  (31, .getfield 199, 3), (34, .if_icmp .ge 70, 3), (37, .aload 5, 2), (39, .getfield 192, 3), (42, .iload 6, 2), (44, .iaload, 1), (45, .iconst 3, 1), (46, .if_icmp .ne 52, 3),
  (49, .aload 5, 2), (51, .getfield 196, 3), (54, .iload 6, 2), (56, .iaload, 1), (57, .iload_n 3, 1), (58, .if_icmp .lt 40, 3), (61, .aload 5, 2), (63, .getfield 196, 3),
  (66, .iload 6, 2), (68, .iaload, 1), (69, .iload 4, 2), (71, .iadd, 1), (72, .sipush 255, 3), (75, .if_icmp .le 5, 3), (78, .iconst 0, 1), (79, .ireturn, 1),
  (80, .aload_n 0, 1), (81, .aload_n 1, 1), (82, .iload 6, 2), (84, .aload 5, 2), (86, .getfield 196, 3), (89, .iload 6, 2), (91, .iaload, 1), (92, .iload 4, 2),
  (94, .iadd, 1), (95, .invokevirtual 11, 3), (98, .iinc 6 1, 3), (101, .goto (-74), 3), (104, .aload_n 0, 1), (105, .aload_n 1, 1), (106, .iload_n 2, 1), (107, .iload 4, 2),
  (109, .iconst 1, 1), (110, .invokevirtual 14, 3), (113, .aload_n 0, 1), (114, .getfield 64, 3), (117, .iload_n 3, 1), (118, .iload 4, 2), (120, .invokevirtual 6, 3), (123, .ireturn, 1)]
def xm_12 : xrM := ((1, 4, ⟨"HexTemplates$Editor", "putIn", "(LHexTemplates$Reader;III)Z"⟩), (prog_3_method_4_code, 7, (some FieldType.boolean)), [], xc_12)
-- 13: HexTemplates$Editor.takeOut(LHexTemplates$Reader;III)V
def xc_13 : xrC := [(0, .aload_n 1, 1), (1, .getfield 320, 3), (4, .astore 5, 2), (6, .iconst 0, 1), (7, .istore 6, 2), (9, .iload 6, 2), (11, .aload 5, 2), (13, .getfield 199, 3),
  (16, .if_icmp .ge 55, 3), (19, .aload 5, 2), (21, .getfield 192, 3), (24, .iload 6, 2), (26, .iaload, 1), (27, .iconst 3, 1), (28, .if_icmp .ne 37, 3), (31, .aload 5, 2),
  (33, .getfield 196, 3), (36, .iload 6, 2), (38, .iaload, 1), (39, .iload_n 3, 1), (40, .if_icmp .le 25, 3), (43, .aload_n 0, 1), (44, .aload_n 1, 1), (45, .iload 6, 2),
  (47, .aload 5, 2), (49, .getfield 196, 3), (52, .iload 6, 2), (54, .iaload, 1), (55, .iload 4, 2), (57, .isub, 1), (58, .iload_n 3, 1), (59, .invokestatic 227, 3),
  (62, .invokevirtual 11, 3), (65, .iinc 6 1, 3), (68, .goto (-59), 3), (71, .aload_n 0, 1), (72, .aload_n 1, 1), (73, .iload_n 2, 1), (74, .iload 4, 2), (76, .ineg, 1),
  (77, .iconst (-1), 1), (78, .invokevirtual 14, 3), (81, .aload_n 0, 1), (82, .getfield 64, 3), (85, .iload_n 3, 1), (86, .iload 4, 2), (88, .invokevirtual 7, 3), (91, .return_, 1)]
def xm_13 : xrM := ((1, 4, ⟨"HexTemplates$Editor", "takeOut", "(LHexTemplates$Reader;III)V"⟩), (prog_3_method_5_code, 7, (none)), [], xc_13)
-- 14: HexTemplates$Editor.tellNewLengths(LHexTemplates$Reader;III)V
def xc_14 : xrC := [(0, .aload_n 1, 1), (1, .getfield 320, 3), (4, .astore 5, 2), (6, .iconst 0, 1), (7, .istore 6, 2), (9, .iload 6, 2), (11, .aload 5, 2), (13, .getfield 199, 3),
  (16, .if_icmp .ge 91, 3), (19, .aload_n 1, 1), (20, .iload 6, 2), (22, .invokevirtual 76, 3), (25, .istore 7, 2), (27, .aload_n 1, 1), (28, .iload 6, 2), (30, .invokevirtual 77, 3),
  (33, .istore 8, 2), (35, .iload 7, 2), (37, .bipush 35, 2), (39, .if_icmp .ne 31, 3), (42, .aload 5, 2), (44, .iload 8, 2), (46, .iload_n 2, 1), (47, .invokevirtual 34, 3),
  (50, .ifCond .eq 20, 3), (53, .aload_n 0, 1), (54, .aload_n 1, 1), (55, .iload 6, 2), (57, .aload 5, 2), (59, .getfield 195, 3), (62, .iload 8, 2), (64, .iaload, 1),
  (65, .iload_n 3, 1), (66, .iadd, 1), (67, .invokevirtual 11, 3), (70, .iload 7, 2), (72, .bipush 37, 2), (74, .if_icmp .ne 27, 3), (77, .iload 8, 2), (79, .iload_n 2, 1),
  (80, .if_icmp .ne 21, 3), (83, .aload_n 0, 1), (84, .aload_n 1, 1), (85, .iload 6, 2), (87, .aload 5, 2), (89, .getfield 196, 3), (92, .iload 8, 2), (94, .iaload, 1),
  (95, .iload 4, 2), (97, .iadd, 1), (98, .invokevirtual 11, 3), (101, .iinc 6 1, 3), (104, .goto (-95), 3), (107, .return_, 1)]
def xm_14 : xrM := ((1, 4, ⟨"HexTemplates$Editor", "tellNewLengths", "(LHexTemplates$Reader;III)V"⟩), (prog_3_method_6_code, 9, (none)), [], xc_14)
-- 15: HexTemplates$Editor.settleCounts(LHexTemplates$Reader;LHexTemplates$Template;)Z
def xc_15 : xrC := [(0, .iconst 0, 1), (1, .istore_n 3, 1), (2, .iload_n 3, 1), (3, .iconst 4, 1), (4, .if_icmp .gt 35, 3), (7, .aload_n 1, 1), (8, .aload_n 2, 1), (9, .aload_n 0, 1),
  (10, .getfield 64, 3), (13, .iconst 0, 1), (14, .iconst 0, 1), (15, .invokevirtual 56, 3), (18, .ifCond .ne 5, 3), (21, .iconst 0, 1), (22, .ireturn, 1), (23, .aload_n 0, 1),
  (24, .aload_n 1, 1), (25, .invokevirtual 16, 3), (28, .ifCond .ne 5, 3), (31, .iconst 1, 1), (32, .ireturn, 1), (33, .iinc 3 1, 3), (36, .goto (-34), 3), (39, .iconst 0, 1),
  (40, .ireturn, 1)]
def xm_15 : xrM := ((1, 2, ⟨"HexTemplates$Editor", "settleCounts", "(LHexTemplates$Reader;LHexTemplates$Template;)Z"⟩), (prog_3_method_7_code, 4, (some FieldType.boolean)), [], xc_15)
-- 16: HexTemplates$Editor.mendCounts(LHexTemplates$Reader;)I
def xc_16 : xrC := [(0, .iconst 0, 1), (1, .istore_n 2, 1), (2, .iconst 0, 1), (3, .istore_n 3, 1), (4, .iload_n 3, 1), (5, .aload_n 1, 1), (6, .getfield 320, 3), (9, .getfield 199, 3),
  (12, .if_icmp .ge 62, 3), (15, .aload_n 1, 1), (16, .iload_n 3, 1), (17, .invokevirtual 76, 3), (20, .istore 4, 2), (22, .aload_n 1, 1), (23, .iload_n 3, 1), (24, .invokevirtual 78, 3),
  (27, .istore 5, 2), (29, .iload 4, 2), (31, .bipush 35, 2), (33, .if_icmp .eq 10, 3), (36, .iload 4, 2), (38, .bipush 37, 2), (40, .if_icmp .ne 28, 3), (43, .aload_n 1, 1),
  (44, .getfield 320, 3), (47, .getfield 196, 3), (50, .iload_n 3, 1), (51, .iaload, 1), (52, .iload 5, 2), (54, .if_icmp .eq 14, 3), (57, .aload_n 0, 1), (58, .aload_n 1, 1),
  (59, .iload_n 3, 1), (60, .iload 5, 2), (62, .invokevirtual 11, 3), (65, .iinc 2 1, 3), (68, .iinc 3 1, 3), (71, .goto (-67), 3), (74, .iload_n 2, 1), (75, .ireturn, 1)]
def xm_16 : xrM := ((1, 1, ⟨"HexTemplates$Editor", "mendCounts", "(LHexTemplates$Reader;)I"⟩), (prog_3_method_8_code, 6, (some FieldType.int)), [], xc_16)
-- 17: HexTemplates$Editor.settleSums(LHexTemplates$Reader;)Z
def xc_17 : xrC := [(0, .aload_n 1, 1), (1, .getfield 320, 3), (4, .astore_n 2, 1), (5, .iconst 0, 1), (6, .istore_n 3, 1), (7, .iconst 0, 1), (8, .istore 4, 2), (10, .iload 4, 2),
  (12, .aload_n 2, 1), (13, .getfield 199, 3), (16, .if_icmp .ge 61, 3), (19, .aload_n 1, 1), (20, .iload 4, 2), (22, .invokevirtual 76, 3), (25, .istore 5, 2), (27, .aload_n 0, 1),
  (28, .getfield 65, 3), (31, .iload 4, 2), (33, .iload 5, 2), (35, .bipush 43, 2), (37, .if_icmp .eq 10, 3), (40, .iload 5, 2), (42, .bipush 94, 2), (44, .if_icmp .ne 7, 3),
  (47, .iconst 1, 1), (48, .goto 4, 3), (51, .iconst 0, 1), (52, .bastore, 1), (53, .iload_n 3, 1), (54, .aload_n 0, 1), (55, .getfield 65, 3), (58, .iload 4, 2),
  (60, .baload, 1), (61, .ifCond .eq 7, 3), (64, .iconst 1, 1), (65, .goto 4, 3), (68, .iconst 0, 1), (69, .iadd, 1), (70, .istore_n 3, 1), (71, .iinc 4 1, 3),
  (74, .goto (-64), 3), (77, .iload_n 3, 1), (78, .istore 4, 2), (80, .iload 4, 2), (82, .ifCond .le 45, 3), (85, .aload_n 0, 1), (86, .aload_n 1, 1), (87, .invokevirtual 18, 3),
  (90, .istore 5, 2), (92, .iload 5, 2), (94, .iconst (-1), 1), (95, .if_icmp .ne 5, 3), (98, .iconst 0, 1), (99, .ireturn, 1), (100, .aload_n 0, 1), (101, .aload_n 1, 1),
  (102, .iload 5, 2), (104, .aload_n 1, 1), (105, .iload 5, 2), (107, .invokevirtual 78, 3), (110, .invokevirtual 11, 3), (113, .aload_n 0, 1), (114, .getfield 65, 3), (117, .iload 5, 2),
  (119, .iconst 0, 1), (120, .bastore, 1), (121, .iinc 4 (-1), 3), (124, .goto (-44), 3), (127, .iconst 1, 1), (128, .ireturn, 1)]
def xm_17 : xrM := ((1, 1, ⟨"HexTemplates$Editor", "settleSums", "(LHexTemplates$Reader;)Z"⟩), (prog_3_method_9_code, 6, (some FieldType.boolean)), [], xc_17)
-- 18: HexTemplates$Editor.firstReady(LHexTemplates$Reader;)I
def xc_18 : xrC := [(0, .iconst 0, 1), (1, .istore_n 2, 1), (2, .iload_n 2, 1), (3, .aload_n 1, 1), (4, .getfield 320, 3), (7, .getfield 199, 3), (10, .if_icmp .ge 36, 3), (13, .aload_n 0, 1),
  (14, .getfield 65, 3), (17, .iload_n 2, 1), (18, .baload, 1), (19, .ifCond .eq 21, 3), (22, .aload_n 0, 1), (23, .aload_n 1, 1), (24, .getfield 320, 3), (27, .aload_n 1, 1),
  (28, .iload_n 2, 1), (29, .invokevirtual 77, 3), (32, .invokevirtual 19, 3), (35, .ifCond .ne 5, 3), (38, .iload_n 2, 1), (39, .ireturn, 1), (40, .iinc 2 1, 3), (43, .goto (-41), 3),
  (46, .iconst (-1), 1), (47, .ireturn, 1)]
def xm_18 : xrM := ((1, 1, ⟨"HexTemplates$Editor", "firstReady", "(LHexTemplates$Reader;)I"⟩), (prog_3_method_10_code, 3, (some FieldType.int)), [], xc_18)
-- 19: HexTemplates$Editor.hasLeftIn(LHexTemplates$Nodes;I)Z
def xc_19 : xrC := [(0, .iload_n 2, 1), (1, .istore_n 3, 1), (2, .aload_n 1, 1), (3, .iload_n 3, 1), (4, .invokevirtual 27, 3), (7, .ifCond .eq 42, 3), (10, .aload_n 1, 1), (11, .getfield 194, 3),
  (14, .iload_n 3, 1), (15, .iaload, 1), (16, .aload_n 1, 1), (17, .getfield 194, 3), (20, .iload_n 2, 1), (21, .iaload, 1), (22, .aload_n 1, 1), (23, .getfield 195, 3),
  (26, .iload_n 2, 1), (27, .iaload, 1), (28, .iadd, 1), (29, .if_icmp .ge 20, 3), (32, .aload_n 0, 1), (33, .getfield 65, 3), (36, .iload_n 3, 1), (37, .baload, 1),
  (38, .ifCond .eq 5, 3), (41, .iconst 1, 1), (42, .ireturn, 1), (43, .iinc 3 1, 3), (46, .goto (-44), 3), (49, .iconst 0, 1), (50, .ireturn, 1)]
def xm_19 : xrM := ((1, 2, ⟨"HexTemplates$Editor", "hasLeftIn", "(LHexTemplates$Nodes;I)Z"⟩), (prog_3_method_11_code, 4, (some FieldType.boolean)), [], xc_19)
-- 20: HexTemplates$Editor.stands(LHexTemplates$Reader;LHexTemplates$Template;)Z
def xc_20 : xrC := [(0, .aload_n 1, 1), (1, .aload_n 2, 1), (2, .aload_n 0, 1), (3, .getfield 64, 3), (6, .iconst 0, 1), (7, .iconst 0, 1), (8, .invokevirtual 56, 3), (11, .ifCond .eq 14, 3),
  (14, .aload_n 1, 1), (15, .invokevirtual 80, 3), (18, .ifCond .ne 7, 3), (21, .iconst 1, 1), (22, .goto 4, 3), (25, .iconst 0, 1), (26, .ireturn, 1)]
def xm_20 : xrM := ((1, 2, ⟨"HexTemplates$Editor", "stands", "(LHexTemplates$Reader;LHexTemplates$Template;)Z"⟩), (prog_3_method_12_code, 3, (some FieldType.boolean)), [], xc_20)
-- 21: HexTemplates$Hunk.<init>()V
def xc_21 : xrC := [(0, .aload_n 0, 1), (1, .monitorexit, 3), (4, .aload_n 0, 1), (5, .iconst 0, 1), (6, .putfield 128, 3), (9, .aload_n 0, 1), (10, .iconst 0, 1), (11, .putfield 129, 3),
  (14, .aload_n 0, 1), (15, .iconst 0, 1), (16, .putfield 130, 3), (19, .return_, 1)]
def xm_21 : xrM := ((2, 0, ⟨"HexTemplates$Hunk", "<init>", "()V"⟩), (prog_4_method_1_code, 1, (none)), [], xc_21)
-- 22: HexTemplates$Hunk.compare(LHexTemplates$States;II)V
def xc_22 : xrC := [(0, .aload_n 1, 1), (1, .iload_n 2, 1), (2, .invokevirtual 91, 3), (5, .istore 4, 2), (7, .aload_n 1, 1), (8, .iload_n 3, 1), (9, .invokevirtual 91, 3), (12, .istore 5, 2),
  (14, .iload 4, 2), (16, .iload 5, 2), (18, .invokestatic 229, 3), (21, .istore 6, 2), (23, .aload_n 0, 1), (24, .iconst 0, 1), (25, .putfield 128, 3), (28, .aload_n 0, 1),
  (29, .getfield 128, 3), (32, .iload 6, 2), (34, .if_icmp .ge 37, 3), (37, .aload_n 1, 1), (38, .iload_n 2, 1), (39, .aload_n 0, 1), (40, .getfield 128, 3), (43, .invokevirtual 92, 3),
  (46, .aload_n 1, 1), (47, .iload_n 3, 1), (48, .aload_n 0, 1), (49, .getfield 128, 3), (52, .invokevirtual 92, 3), (55, .if_icmp .ne 16, 3), (58, .aload_n 0, 1), (59, .dup, 1),
  (60, .getfield 128, 3), (63, .iconst 1, 1), (64, .iadd, 1), (65, .putfield 128, 3), (68, .goto (-40), 3), (71, .iconst 0, 1), (72, .istore 7, 2), (74, .iload 7, 2),
  (76, .iload 6, 2), (78, .aload_n 0, 1), (79, .getfield 128, 3), (82, .isub, 1), (83, .if_icmp .ge 36, 3), (86, .aload_n 1, 1), (87, .iload_n 2, 1), (88, .iload 4, 2),
  (90, .iconst 1, 1), (91, .isub, 1), (92, .iload 7, 2), (94, .isub, 1), (95, .invokevirtual 92, 3), (98, .aload_n 1, 1), (99, .iload_n 3, 1), (100, .iload 5, 2),
  (102, .iconst 1, 1), (103, .isub, 1), (104, .iload 7, 2), (106, .isub, 1), (107, .invokevirtual 92, 3), (110, .if_icmp .ne 9, 3), (113, .iinc 7 1, 3), (116, .goto (-42), 3),
  (119, .aload_n 0, 1), (120, .iload 4, 2), (122, .aload_n 0, 1), (123, .getfield 128, 3), (126, .isub, 1), (127, .iload 7, 2), (129, .isub, 1), (130, .putfield 129, 3),
  (133, .aload_n 0, 1), (134, .iload 5, 2), (136, .aload_n 0, 1), (137, .getfield 128, 3), (140, .isub, 1), (141, .iload 7, 2), (143, .isub, 1), (144, .putfield 130, 3),
  (147, .return_, 1)]
def xm_22 : xrM := ((2, 3, ⟨"HexTemplates$Hunk", "compare", "(LHexTemplates$States;II)V"⟩), (prog_4_method_2_code, 8, (none)), [], xc_22)
-- 23: HexTemplates$Hunk.placeIn(LHexTemplates$States;ILHexTemplates$Bytes;)I
def xc_23 : xrC := [(0, .iconst 0, 1), (1, .istore 4, 2), (3, .iload 4, 2), (5, .sipush 160, 3), (8, .if_icmp .gt 59, 3), (11, .aload_n 0, 1), (12, .aload_n 1, 1), (13, .iload_n 2, 1),
  (14, .aload_n 3, 1), (15, .aload_n 0, 1), (16, .getfield 128, 3), (19, .iload 4, 2), (21, .isub, 1), (22, .invokevirtual 24, 3), (25, .ifCond .eq 11, 3), (28, .aload_n 0, 1),
  (29, .getfield 128, 3), (32, .iload 4, 2), (34, .isub, 1), (35, .ireturn, 1), (36, .aload_n 0, 1), (37, .aload_n 1, 1), (38, .iload_n 2, 1), (39, .aload_n 3, 1),
  (40, .aload_n 0, 1), (41, .getfield 128, 3), (44, .iload 4, 2), (46, .iadd, 1), (47, .invokevirtual 24, 3), (50, .ifCond .eq 11, 3), (53, .aload_n 0, 1), (54, .getfield 128, 3),
  (57, .iload 4, 2), (59, .iadd, 1), (60, .ireturn, 1), (61, .iinc 4 1, 3), (64, .goto (-61), 3), (67, .iconst (-1), 1), (68, .ireturn, 1)]
def xm_23 : xrM := ((2, 3, ⟨"HexTemplates$Hunk", "placeIn", "(LHexTemplates$States;ILHexTemplates$Bytes;)I"⟩), (prog_4_method_3_code, 5, (some FieldType.int)), [], xc_23)
-- 24: HexTemplates$Hunk.isAt(LHexTemplates$States;ILHexTemplates$Bytes;I)Z
def xc_24 : xrC := [(0, .iconst 2, 1), (1, .aload_n 0, 1), (2, .getfield 128, 3), (5, .invokestatic 229, 3), (8, .istore 5, 2), (10, .aload_n 0, 1), (11, .getfield 129, 3), (14, .iconst 2, 1),
  (15, .aload_n 1, 1), (16, .iload_n 2, 1), (17, .invokevirtual 91, 3), (20, .aload_n 0, 1), (21, .getfield 128, 3), (24, .isub, 1), (25, .aload_n 0, 1), (26, .getfield 129, 3),
  (29, .isub, 1), (30, .invokestatic 229, 3), (33, .iadd, 1), (34, .istore 6, 2), (36, .iload 4, 2), (38, .iload 5, 2), (40, .if_icmp .lt 15, 3), (43, .iload 4, 2),
  (45, .iload 6, 2), (47, .iadd, 1), (48, .aload_n 3, 1), (49, .getfield 1, 3), (52, .if_icmp .le 5, 3), (55, .iconst 0, 1), (56, .ireturn, 1), (57, .iload 5, 2),
  (59, .ineg, 1), (60, .istore 7, 2), (62, .iload 7, 2), (64, .iload 6, 2), (66, .if_icmp .ge 35, 3), (69, .aload_n 1, 1), (70, .iload_n 2, 1), (71, .aload_n 0, 1),
  (72, .getfield 128, 3), (75, .iload 7, 2), (77, .iadd, 1), (78, .invokevirtual 92, 3), (81, .aload_n 3, 1), (82, .iload 4, 2), (84, .iload 7, 2), (86, .iadd, 1),
  (87, .invokevirtual 2, 3), (90, .if_icmp .eq 5, 3), (93, .iconst 0, 1), (94, .ireturn, 1), (95, .iinc 7 1, 3), (98, .goto (-36), 3), (101, .iconst 1, 1), (102, .ireturn, 1)]
def xm_24 : xrM := ((2, 4, ⟨"HexTemplates$Hunk", "isAt", "(LHexTemplates$States;ILHexTemplates$Bytes;I)Z"⟩), (prog_4_method_4_code, 8, (some FieldType.boolean)), [], xc_24)
-- 25: HexTemplates$Hunk.apply(LHexTemplates$States;ILHexTemplates$Bytes;I)V
def xc_25 : xrC := [(0, .aload_n 3, 1), (1, .iload 4, 2), (3, .aload_n 0, 1), (4, .getfield 129, 3), (7, .invokevirtual 7, 3), (10, .aload_n 3, 1), (11, .iload 4, 2), (13, .aload_n 0, 1),
  (14, .getfield 130, 3), (17, .invokevirtual 6, 3), (20, .ifCond .eq 42, 3), (23, .iconst 0, 1), (24, .istore 5, 2), (26, .iload 5, 2), (28, .aload_n 0, 1), (29, .getfield 130, 3),
  (32, .if_icmp .ge 30, 3), (35, .aload_n 3, 1), (36, .iload 4, 2), (38, .iload 5, 2), (40, .iadd, 1), (41, .aload_n 1, 1), (42, .iload_n 2, 1), (43, .aload_n 0, 1),
  (44, .getfield 128, 3), (47, .iload 5, 2), (49, .iadd, 1), (50, .invokevirtual 92, 3), (53, .invokevirtual 3, 3), (56, .iinc 5 1, 3), (59, .goto (-33), 3), (62, .return_, 1)]
def xm_25 : xrM := ((2, 4, ⟨"HexTemplates$Hunk", "apply", "(LHexTemplates$States;ILHexTemplates$Bytes;I)V"⟩), (prog_4_method_5_code, 6, (none)), [], xc_25)
-- 26: HexTemplates$Nodes.<init>()V
def xc_26 : xrC := [(0, .aload_n 0, 1), (1, .monitorexit, 3), (4, .aload_n 0, 1), (5, .sipush 200, 3), (8, .newarray .int, 2), (10, .invokedynamic 192, 3), (13, .aload_n 0, 1), (14, .sipush 200, 3),
  (17, .newarray .int, 2), (19, .invokedynamic 193, 3), (22, .aload_n 0, 1), (23, .sipush 200, 3), (26, .newarray .int, 2), (28, .invokedynamic 194, 3), (31, .aload_n 0, 1), (32, .sipush 200, 3),
  (35, .newarray .int, 2), (37, .invokedynamic 195, 3), (40, .aload_n 0, 1), (41, .sipush 200, 3), (44, .newarray .int, 2), (46, .invokedynamic 196, 3), (49, .aload_n 0, 1), (50, .sipush 200, 3),
  (53, .newarray .int, 2), (55, .invokedynamic 197, 3), (58, .aload_n 0, 1), (59, .sipush 200, 3), (62, .newarray .int, 2), (64, .invokedynamic 198, 3), (67, .aload_n 0, 1), (68, .iconst 0, 1),
  (69, .putfield 199, 3), (72, .return_, 1)]
def xm_26 : xrM := ((3, 0, ⟨"HexTemplates$Nodes", "<init>", "()V"⟩), (prog_5_method_1_code, 1, (none)), [], xc_26)
-- 27: HexTemplates$Nodes.has(I)Z
def xc_27 : xrC := [(0, .iload_n 1, 1), (1, .ifCond .lt 15, 3), (4, .iload_n 1, 1), (5, .aload_n 0, 1), (6, .getfield 199, 3), (9, .if_icmp .ge 7, 3), (12, .iconst 1, 1), (13, .goto 4, 3),
  (16, .iconst 0, 1), (17, .ireturn, 1)]
def xm_27 : xrM := ((3, 1, ⟨"HexTemplates$Nodes", "has", "(I)Z"⟩), (prog_5_method_2_code, 2, (some FieldType.boolean)), [], xc_27)
-- 28: HexTemplates$Nodes.add(IIII)I
def xc_28 : xrC := [(0, .aload_n 0, 1), (1, .getfield 199, 3), (4, .sipush 200, 3), (7, .if_icmp .lt 5, 3), (10, .iconst (-1), 1), (11, .ireturn, 1), (12, .aload_n 0, 1), (13, .getfield 192, 3),
  (16, .aload_n 0, 1), (17, .getfield 199, 3), (20, .iload_n 1, 1), (21, .iastore, 1), (22, .aload_n 0, 1), (23, .getfield 198, 3), (26, .aload_n 0, 1), (27, .getfield 199, 3),
  (30, .iload_n 2, 1), (31, .iastore, 1), (32, .aload_n 0, 1), (33, .getfield 194, 3), (36, .aload_n 0, 1), (37, .getfield 199, 3), (40, .iload_n 3, 1), (41, .iastore, 1),
  (42, .aload_n 0, 1), (43, .getfield 197, 3), (46, .aload_n 0, 1), (47, .getfield 199, 3), (50, .iload 4, 2), (52, .iastore, 1), (53, .aload_n 0, 1), (54, .dup, 1),
  (55, .getfield 199, 3), (58, .iconst 1, 1), (59, .iadd, 1), (60, .putfield 199, 3), (63, .aload_n 0, 1), (64, .getfield 199, 3), (67, .iconst 1, 1), (68, .isub, 1),
  (69, .ireturn, 1)]
def xm_28 : xrM := ((3, 4, ⟨"HexTemplates$Nodes", "add", "(IIII)I"⟩), (prog_5_method_3_code, 5, (some FieldType.int)), [], xc_28)
-- 29: HexTemplates$Nodes.tell(IIII)V
def xc_29 : xrC := [(0, .aload_n 0, 1), (1, .iload_n 1, 1), (2, .invokevirtual 27, 3), (5, .ifCond .eq 25, 3), (8, .aload_n 0, 1), (9, .getfield 193, 3), (12, .iload_n 1, 1), (13, .iload_n 2, 1),
  (14, .iastore, 1), (15, .aload_n 0, 1), (16, .getfield 195, 3), (19, .iload_n 1, 1), (20, .iload_n 3, 1), (21, .iastore, 1), (22, .aload_n 0, 1), (23, .getfield 196, 3),
  (26, .iload_n 1, 1), (27, .iload 4, 2), (29, .iastore, 1), (30, .return_, 1)]
def xm_29 : xrM := ((3, 4, ⟨"HexTemplates$Nodes", "tell", "(IIII)V"⟩), (prog_5_method_4_code, 5, (none)), [], xc_29)
-- 30: HexTemplates$Nodes.isNumeric(I)Z
def xc_30 : xrC := [(0, .aload_n 0, 1), (1, .iload_n 1, 1), (2, .invokevirtual 27, 3), (5, .ifCond .eq 37, 3), (8, .aload_n 0, 1), (9, .getfield 192, 3), (12, .iload_n 1, 1), (13, .iaload, 1),
  (14, .iconst 2, 1), (15, .if_icmp .eq 23, 3), (18, .aload_n 0, 1), (19, .getfield 192, 3), (22, .iload_n 1, 1), (23, .iaload, 1), (24, .iconst 3, 1), (25, .if_icmp .eq 13, 3),
  (28, .aload_n 0, 1), (29, .getfield 192, 3), (32, .iload_n 1, 1), (33, .iaload, 1), (34, .iconst 4, 1), (35, .if_icmp .ne 7, 3), (38, .iconst 1, 1), (39, .goto 4, 3),
  (42, .iconst 0, 1), (43, .ireturn, 1)]
def xm_30 : xrM := ((3, 1, ⟨"HexTemplates$Nodes", "isNumeric", "(I)Z"⟩), (prog_5_method_5_code, 2, (some FieldType.boolean)), [], xc_30)
-- 31: HexTemplates$Nodes.fieldIn(II)I
def xc_31 : xrC := [(0, .iload_n 1, 1), (1, .iconst 1, 1), (2, .iadd, 1), (3, .istore_n 3, 1), (4, .iload_n 3, 1), (5, .aload_n 0, 1), (6, .getfield 199, 3), (9, .if_icmp .ge 31, 3),
  (12, .aload_n 0, 1), (13, .getfield 197, 3), (16, .iload_n 3, 1), (17, .iaload, 1), (18, .iload_n 1, 1), (19, .if_icmp .ne 15, 3), (22, .aload_n 0, 1), (23, .getfield 198, 3),
  (26, .iload_n 3, 1), (27, .iaload, 1), (28, .iload_n 2, 1), (29, .if_icmp .ne 5, 3), (32, .iload_n 3, 1), (33, .ireturn, 1), (34, .iinc 3 1, 3), (37, .goto (-33), 3),
  (40, .iconst (-1), 1), (41, .ireturn, 1)]
def xm_31 : xrM := ((3, 2, ⟨"HexTemplates$Nodes", "fieldIn", "(II)I"⟩), (prog_5_method_6_code, 4, (some FieldType.int)), [], xc_31)
-- 32: HexTemplates$Nodes.firstReferenceIn(I)I
def xc_32 : xrC := [(0, .iload_n 1, 1), (1, .iconst 1, 1), (2, .iadd, 1), (3, .istore_n 2, 1), (4, .iload_n 2, 1), (5, .aload_n 0, 1), (6, .getfield 199, 3), (9, .if_icmp .ge 31, 3),
  (12, .aload_n 0, 1), (13, .getfield 197, 3), (16, .iload_n 2, 1), (17, .iaload, 1), (18, .iload_n 1, 1), (19, .if_icmp .ne 15, 3), (22, .aload_n 0, 1), (23, .getfield 192, 3),
  (26, .iload_n 2, 1), (27, .iaload, 1), (28, .iconst 3, 1), (29, .if_icmp .ne 5, 3), (32, .iload_n 2, 1), (33, .ireturn, 1), (34, .iinc 2 1, 3), (37, .goto (-33), 3),
  (40, .iconst (-1), 1), (41, .ireturn, 1)]
def xm_32 : xrM := ((3, 1, ⟨"HexTemplates$Nodes", "firstReferenceIn", "(I)I"⟩), (prog_5_method_7_code, 3, (some FieldType.int)), [], xc_32)
-- 33: HexTemplates$Nodes.elementAt(II)I
def xc_33 : xrC := [(0, .aload_n 0, 1), (1, .iload_n 1, 1), (2, .invokevirtual 27, 3), (5, .ifCond .eq 17, 3), (8, .aload_n 0, 1), (9, .getfield 192, 3), (12, .iload_n 1, 1), (13, .iaload, 1),
  (14, .iconst 1, 1), (15, .if_icmp .ne 7, 3), (18, .iload_n 2, 1), (19, .ifCond .ge 5, 3), (22, .iconst (-1), 1), (23, .ireturn, 1), (24, .iload_n 2, 1), (25, .istore_n 3, 1),
  (26, .iload_n 1, 1), (27, .iconst 1, 1), (28, .iadd, 1), (29, .istore 4, 2), (31, .iload 4, 2), (33, .aload_n 0, 1), (34, .getfield 199, 3), (37, .if_icmp .ge 30, 3),
  (40, .aload_n 0, 1), (41, .getfield 197, 3), (44, .iload 4, 2), (46, .iaload, 1), (47, .iload_n 1, 1), (48, .if_icmp .ne 13, 3), (51, .iload_n 3, 1), (52, .ifCond .ne 6, 3),
  (55, .iload 4, 2), (57, .ireturn, 1), (58, .iinc 3 (-1), 3), (61, .iinc 4 1, 3), (64, .goto (-33), 3), (67, .iconst (-1), 1), (68, .ireturn, 1)]
def xm_33 : xrM := ((3, 2, ⟨"HexTemplates$Nodes", "elementAt", "(II)I"⟩), (prog_5_method_8_code, 5, (some FieldType.int)), [], xc_33)
-- 34: HexTemplates$Nodes.holds(II)Z
def xc_34 : xrC := [(0, .iload_n 2, 1), (1, .istore_n 3, 1), (2, .iconst 0, 1), (3, .istore 4, 2), (5, .iload 4, 2), (7, .sipush 200, 3), (10, .if_icmp .ge 31, 3), (13, .aload_n 0, 1),
  (14, .iload_n 3, 1), (15, .invokevirtual 27, 3), (18, .ifCond .eq 23, 3), (21, .iload_n 3, 1), (22, .iload_n 1, 1), (23, .if_icmp .ne 5, 3), (26, .iconst 1, 1), (27, .ireturn, 1),
  (28, .aload_n 0, 1), (29, .getfield 197, 3), (32, .iload_n 3, 1), (33, .iaload, 1), (34, .istore_n 3, 1), (35, .iinc 4 1, 3), (38, .goto (-33), 3), (41, .iconst 0, 1),
  (42, .ireturn, 1)]
def xm_34 : xrM := ((3, 2, ⟨"HexTemplates$Nodes", "holds", "(II)Z"⟩), (prog_5_method_9_code, 5, (some FieldType.boolean)), [], xc_34)
-- 35: HexTemplates$Parser.<init>()V
def xc_35 : xrC := [(0, .aload_n 0, 1), (1, .monitorexit, 3), (4, .aload_n 0, 1), (5, .aconst_null, 1), (6, .invokedynamic 256, 3), (9, .aload_n 0, 1), (10, .aconst_null, 1), (11, .invokedynamic 257, 3),
  (14, .aload_n 0, 1), (15, .iconst 0, 1), (16, .putfield 258, 3), (19, .aload_n 0, 1), (20, .iconst (-1), 1), (21, .putfield 259, 3), (24, .aload_n 0, 1), (25, .iconst 0, 1),
  (26, .putfield 260, 3), (29, .aload_n 0, 1), (30, .iconst 0, 1), (31, .putfield 261, 3), (34, .return_, 1)]
def xm_35 : xrM := ((4, 0, ⟨"HexTemplates$Parser", "<init>", "()V"⟩), (prog_6_method_1_code, 1, (none)), [], xc_35)
-- 36: HexTemplates$Parser.parse(LHexTemplates$Bytes;LHexTemplates$Template;)Z
def xc_36 : xrC := [(0, .aload_n 0, 1), (1, .aload_n 1, 1), (2, .aload_n 2, 1), (3, .invokevirtual 37, 3), (6, .iconst 0, 1), (7, .istore_n 3, 1), (8, .iload_n 3, 1), (9, .bipush 6, 2),
  (11, .if_icmp .ge 77, 3), (14, .aload_n 0, 1), (15, .getfield 259, 3), (18, .iconst (-1), 1), (19, .if_icmp .eq 69, 3), (22, .aload_n 0, 1), (23, .iload_n 3, 1), (24, .invokevirtual 42, 3),
  (27, .ifCond .ne 5, 3), (30, .iconst 0, 1), (31, .ireturn, 1), (32, .iconst 0, 1), (33, .istore 4, 2), (35, .iload 4, 2), (37, .bipush 8, 2), (39, .if_icmp .ge 34, 3),
  (42, .aload_n 0, 1), (43, .getfield 259, 3), (46, .bipush 125, 2), (48, .if_icmp .eq 25, 3), (51, .aload_n 0, 1), (52, .iload_n 3, 1), (53, .bipush 8, 2), (55, .imul, 1),
  (56, .iload 4, 2), (58, .iadd, 1), (59, .invokevirtual 46, 3), (62, .ifCond .ne 5, 3), (65, .iconst 0, 1), (66, .ireturn, 1), (67, .iinc 4 1, 3), (70, .goto (-35), 3),
  (73, .aload_n 0, 1), (74, .invokevirtual 43, 3), (77, .ifCond .ne 5, 3), (80, .iconst 0, 1), (81, .ireturn, 1), (82, .iinc 3 1, 3), (85, .goto (-77), 3), (88, .aload_n 0, 1),
  (89, .getfield 259, 3), (92, .iconst (-1), 1), (93, .if_icmp .ne 24, 3), (96, .aload_n 0, 1), (97, .getfield 257, 3), (100, .getfield 449, 3), (103, .ifCond .le 14, 3), (106, .aload_n 0, 1),
  (107, .invokevirtual 44, 3), (110, .ifCond .eq 7, 3), (113, .iconst 1, 1), (114, .goto 4, 3), (117, .iconst 0, 1), (118, .ireturn, 1)]
def xm_36 : xrM := ((4, 2, ⟨"HexTemplates$Parser", "parse", "(LHexTemplates$Bytes;LHexTemplates$Template;)Z"⟩), (prog_6_method_2_code, 5, (some FieldType.boolean)), [], xc_36)
-- 37: HexTemplates$Parser.begin(LHexTemplates$Bytes;LHexTemplates$Template;)V
def xc_37 : xrC := [(0, .aload_n 0, 1), (1, .aload_n 1, 1), (2, .invokedynamic 256, 3), (5, .aload_n 0, 1), (6, .aload_n 2, 1), (7, .invokedynamic 257, 3), (10, .aload_n 0, 1), (11, .getfield 257, 3),
  (14, .invokevirtual 96, 3), (17, .aload_n 0, 1), (18, .iconst 0, 1), (19, .putfield 261, 3), (22, .aload_n 0, 1), (23, .iconst (-1), 1), (24, .putfield 258, 3), (27, .aload_n 0, 1),
  (28, .invokevirtual 38, 3), (31, .return_, 1)]
def xm_37 : xrM := ((4, 2, ⟨"HexTemplates$Parser", "begin", "(LHexTemplates$Bytes;LHexTemplates$Template;)V"⟩), (prog_6_method_3_code, 3, (none)), [], xc_37)
-- 38: HexTemplates$Parser.advance()V
def xc_38 : xrC := [(0, .aload_n 0, 1), (1, .dup, 1), (2, .getfield 258, 3), (5, .iconst 1, 1), (6, .iadd, 1), (7, .putfield 258, 3), (10, .aload_n 0, 1), (11, .aload_n 0, 1),
  (12, .getfield 258, 3), (15, .ifCond .lt 32, 3), (18, .aload_n 0, 1), (19, .getfield 258, 3), (22, .aload_n 0, 1), (23, .getfield 256, 3), (26, .getfield 1, 3), (29, .if_icmp .ge 18, 3),
  (32, .aload_n 0, 1), (33, .getfield 256, 3), (36, .getfield 0, 3), (39, .aload_n 0, 1), (40, .getfield 258, 3), (43, .iaload, 1), (44, .goto 4, 3), (47, .iconst (-1), 1),
  (48, .putfield 259, 3), (51, .return_, 1)]
def xm_38 : xrM := ((4, 0, ⟨"HexTemplates$Parser", "advance", "()V"⟩), (prog_6_method_4_code, 1, (none)), [], xc_38)
-- 39: HexTemplates$Parser.accept(I)Z
def xc_39 : xrC := [(0, .aload_n 0, 1), (1, .getfield 259, 3), (4, .iload_n 1, 1), (5, .if_icmp .eq 5, 3), (8, .iconst 0, 1), (9, .ireturn, 1), (10, .aload_n 0, 1), (11, .invokevirtual 38, 3),
  (14, .iconst 1, 1), (15, .ireturn, 1)]
def xm_39 : xrM := ((4, 1, ⟨"HexTemplates$Parser", "accept", "(I)Z"⟩), (prog_6_method_5_code, 2, (some FieldType.boolean)), [], xc_39)
-- 40: HexTemplates$Parser.isName()Z
def xc_40 : xrC := [(0, .aload_n 0, 1), (1, .getfield 259, 3), (4, .bipush 65, 2), (6, .if_icmp .lt 25, 3), (9, .aload_n 0, 1), (10, .getfield 259, 3), (13, .bipush 90, 2), (15, .if_icmp .gt 16, 3),
  (18, .aload_n 0, 1), (19, .getfield 259, 3), (22, .bipush 87, 2), (24, .if_icmp .eq 7, 3), (27, .iconst 1, 1), (28, .goto 4, 3), (31, .iconst 0, 1), (32, .ireturn, 1)]
def xm_40 : xrM := ((4, 0, ⟨"HexTemplates$Parser", "isName", "()Z"⟩), (prog_6_method_6_code, 1, (some FieldType.boolean)), [], xc_40)
-- 41: HexTemplates$Parser.isDigit()Z
def xc_41 : xrC := [(0, .aload_n 0, 1), (1, .getfield 259, 3), (4, .bipush 48, 2), (6, .if_icmp .lt 16, 3), (9, .aload_n 0, 1), (10, .getfield 259, 3), (13, .bipush 57, 2), (15, .if_icmp .gt 7, 3),
  (18, .iconst 1, 1), (19, .goto 4, 3), (22, .iconst 0, 1), (23, .ireturn, 1)]
def xm_41 : xrM := ((4, 0, ⟨"HexTemplates$Parser", "isDigit", "()Z"⟩), (prog_6_method_7_code, 1, (some FieldType.boolean)), [], xc_41)
-- 42: HexTemplates$Parser.openStructure(I)Z
def xc_42 : xrC := [(0, .aload_n 0, 1), (1, .invokevirtual 40, 3), (4, .ifCond .eq 21, 3), (7, .aload_n 0, 1), (8, .getfield 257, 3), (11, .aload_n 0, 1), (12, .getfield 259, 3), (15, .bipush 65, 2),
  (17, .isub, 1), (18, .invokevirtual 97, 3), (21, .iconst (-1), 1), (22, .if_icmp .eq 5, 3), (25, .iconst 0, 1), (26, .ireturn, 1), (27, .aload_n 0, 1), (28, .iload_n 1, 1),
  (29, .putfield 260, 3), (32, .aload_n 0, 1), (33, .getfield 257, 3), (36, .getfield 452, 3), (39, .iload_n 1, 1), (40, .aload_n 0, 1), (41, .getfield 259, 3), (44, .bipush 65, 2),
  (46, .isub, 1), (47, .iastore, 1), (48, .aload_n 0, 1), (49, .getfield 257, 3), (52, .getfield 453, 3), (55, .iload_n 1, 1), (56, .iconst 0, 1), (57, .iastore, 1),
  (58, .aload_n 0, 1), (59, .getfield 257, 3), (62, .dup, 1), (63, .getfield 449, 3), (66, .iconst 1, 1), (67, .iadd, 1), (68, .putfield 449, 3), (71, .aload_n 0, 1),
  (72, .invokevirtual 38, 3), (75, .aload_n 0, 1), (76, .bipush 123, 2), (78, .invokevirtual 39, 3), (81, .ireturn, 1)]
def xm_42 : xrM := ((4, 1, ⟨"HexTemplates$Parser", "openStructure", "(I)Z"⟩), (prog_6_method_8_code, 2, (some FieldType.boolean)), [], xc_42)
-- 43: HexTemplates$Parser.closeStructure()Z
def xc_43 : xrC := [(0, .iconst 0, 1), (1, .istore_n 1, 1), (2, .iload_n 1, 1), (3, .aload_n 0, 1), (4, .getfield 257, 3), (7, .getfield 453, 3), (10, .aload_n 0, 1), (11, .getfield 260, 3),
  (14, .iaload, 1), (15, .if_icmp .ge 19, 3), (18, .aload_n 0, 1), (19, .iload_n 1, 1), (20, .invokevirtual 45, 3), (23, .ifCond .ne 5, 3), (26, .iconst 0, 1), (27, .ireturn, 1),
  (28, .iinc 1 1, 3), (31, .goto (-29), 3), (34, .aload_n 0, 1), (35, .getfield 261, 3), (38, .ifCond .ne 16, 3), (41, .aload_n 0, 1), (42, .bipush 125, 2), (44, .invokevirtual 39, 3),
  (47, .ifCond .eq 7, 3), (50, .iconst 1, 1), (51, .goto 4, 3), (54, .iconst 0, 1), (55, .ireturn, 1)]
def xm_43 : xrM := ((4, 0, ⟨"HexTemplates$Parser", "closeStructure", "()Z"⟩), (prog_6_method_9_code, 2, (some FieldType.boolean)), [], xc_43)
-- 44: HexTemplates$Parser.resolveChoices()Z
def xc_44 : xrC := [(0, .iconst 0, 1), (1, .istore_n 1, 1), (2, .iload_n 1, 1), (3, .aload_n 0, 1), (4, .getfield 257, 3), (7, .getfield 451, 3), (10, .if_icmp .ge 49, 3), (13, .aload_n 0, 1),
  (14, .getfield 257, 3), (17, .getfield 456, 3), (20, .iload_n 1, 1), (21, .aload_n 0, 1), (22, .getfield 257, 3), (25, .aload_n 0, 1), (26, .getfield 257, 3), (29, .getfield 456, 3),
  (32, .iload_n 1, 1), (33, .iaload, 1), (34, .invokevirtual 97, 3), (37, .iastore, 1), (38, .aload_n 0, 1), (39, .getfield 257, 3), (42, .getfield 456, 3), (45, .iload_n 1, 1),
  (46, .iaload, 1), (47, .iconst (-1), 1), (48, .if_icmp .ne 5, 3), (51, .iconst 0, 1), (52, .ireturn, 1), (53, .iinc 1 1, 3), (56, .goto (-54), 3), (59, .iconst 1, 1),
  (60, .ireturn, 1)]
def xm_44 : xrM := ((4, 0, ⟨"HexTemplates$Parser", "resolveChoices", "()Z"⟩), (prog_6_method_10_code, 2, (some FieldType.boolean)), [], xc_44)
-- 45: HexTemplates$Parser.resolveRelation(I)Z
def xc_45 : xrC := [(0, .aload_n 0, 1), (1, .getfield 260, 3), (4, .bipush 8, 2), (6, .imul, 1), (7, .iload_n 1, 1), (8, .iadd, 1), (9, .istore_n 2, 1), (10, .aload_n 0, 1),
  (11, .getfield 257, 3), (14, .getfield 467, 3), (17, .iload_n 2, 1), (18, .iaload, 1), (19, .istore_n 3, 1), (20, .iload_n 3, 1), (21, .ifCond .eq 9, 3), (24, .iload_n 3, 1),
  (25, .bipush 61, 2), (27, .if_icmp .ne 5, 3), (30, .iconst 1, 1), (31, .ireturn, 1), (32, .aload_n 0, 1), (33, .getfield 257, 3), (36, .aload_n 0, 1), (37, .getfield 260, 3),
  (40, .aload_n 0, 1), (41, .getfield 257, 3), (44, .getfield 468, 3), (47, .iload_n 2, 1), (48, .iaload, 1), (49, .invokevirtual 98, 3), (52, .istore 4, 2), (54, .iload 4, 2),
  (56, .iconst (-1), 1), (57, .if_icmp .eq 9, 3), (60, .iload 4, 2), (62, .iload_n 1, 1), (63, .if_icmp .ne 5, 3), (66, .iconst 0, 1), (67, .ireturn, 1), (68, .aload_n 0, 1),
  (69, .getfield 257, 3), (72, .getfield 468, 3), (75, .iload_n 2, 1), (76, .aload_n 0, 1), (77, .getfield 260, 3), (80, .bipush 8, 2), (82, .imul, 1), (83, .iload 4, 2),
  (85, .iadd, 1), (86, .iastore, 1), (87, .iload_n 3, 1), (88, .bipush 37, 2), (90, .if_icmp .ne 26, 3), (93, .aload_n 0, 1), (94, .getfield 257, 3), (97, .getfield 458, 3),
  (100, .aload_n 0, 1), (101, .getfield 260, 3), (104, .bipush 8, 2), (106, .imul, 1), (107, .iload 4, 2), (109, .iadd, 1), (110, .iaload, 1), (111, .bipush 91, 2),
  (113, .if_icmp .ne 7, 3), (116, .iconst 1, 1), (117, .goto 4, 3), (120, .iconst 0, 1), (121, .ireturn, 1)]
def xm_45 : xrM := ((4, 1, ⟨"HexTemplates$Parser", "resolveRelation", "(I)Z"⟩), (prog_6_method_11_code, 5, (some FieldType.boolean)), [], xc_45)
-- 46: HexTemplates$Parser.parseField(I)Z
def xc_46 : xrC := [(0, .aload_n 0, 1), (1, .getfield 259, 3), (4, .bipush 97, 2), (6, .isub, 1), (7, .istore_n 2, 1), (8, .iload_n 2, 1), (9, .ifCond .lt 25, 3), (12, .iload_n 2, 1),
  (13, .bipush 26, 2), (15, .if_icmp .ge 19, 3), (18, .aload_n 0, 1), (19, .getfield 257, 3), (22, .aload_n 0, 1), (23, .getfield 260, 3), (26, .iload_n 2, 1), (27, .invokevirtual 98, 3),
  (30, .iconst (-1), 1), (31, .if_icmp .eq 5, 3), (34, .iconst 0, 1), (35, .ireturn, 1), (36, .aload_n 0, 1), (37, .invokevirtual 38, 3), (40, .aload_n 0, 1), (41, .bipush 58, 2),
  (43, .invokevirtual 39, 3), (46, .ifCond .eq 11, 3), (49, .aload_n 0, 1), (50, .iload_n 1, 1), (51, .invokevirtual 47, 3), (54, .ifCond .ne 5, 3), (57, .iconst 0, 1), (58, .ireturn, 1),
  (59, .aload_n 0, 1), (60, .getfield 257, 3), (63, .getfield 457, 3), (66, .iload_n 1, 1), (67, .iload_n 2, 1), (68, .iastore, 1), (69, .aload_n 0, 1), (70, .getfield 257, 3),
  (73, .getfield 467, 3), (76, .iload_n 1, 1), (77, .iconst 0, 1), (78, .iastore, 1), (79, .aload_n 0, 1), (80, .getfield 259, 3), (83, .bipush 61, 2), (85, .if_icmp .ne 13, 3),
  (88, .aload_n 0, 1), (89, .iload_n 1, 1), (90, .invokevirtual 54, 3), (93, .ifCond .ne 5, 3), (96, .iconst 0, 1), (97, .ireturn, 1), (98, .aload_n 0, 1), (99, .getfield 257, 3),
  (102, .getfield 453, 3), (105, .aload_n 0, 1), (106, .getfield 260, 3), (109, .dup2, 1), (110, .iaload, 1), (111, .iconst 1, 1), (112, .iadd, 1), (113, .iastore, 1),
  (114, .aload_n 0, 1), (115, .bipush 59, 2), (117, .invokevirtual 39, 3), (120, .ireturn, 1)]
def xm_46 : xrM := ((4, 1, ⟨"HexTemplates$Parser", "parseField", "(I)Z"⟩), (prog_6_method_12_code, 3, (some FieldType.boolean)), [], xc_46)
-- 47: HexTemplates$Parser.parseType(I)Z
def xc_47 : xrC := [(0, .aload_n 0, 1), (1, .getfield 259, 3), (4, .istore_n 2, 1), (5, .iload_n 2, 1), (6, .bipush 110, 2), (8, .if_icmp .eq 12, 3), (11, .aload_n 0, 1), (12, .getfield 261, 3),
  (15, .ifCond .eq 5, 3), (18, .iconst 0, 1), (19, .ireturn, 1), (20, .aload_n 0, 1), (21, .invokevirtual 40, 3), (24, .ifCond .eq 45, 3), (27, .aload_n 0, 1), (28, .getfield 257, 3),
  (31, .getfield 458, 3), (34, .iload_n 1, 1), (35, .bipush 65, 2), (37, .iastore, 1), (38, .aload_n 0, 1), (39, .iload_n 1, 1), (40, .invokevirtual 50, 3), (43, .ifCond .eq 24, 3),
  (46, .aload_n 0, 1), (47, .getfield 259, 3), (50, .bipush 91, 2), (52, .if_icmp .ne 11, 3), (55, .aload_n 0, 1), (56, .iload_n 1, 1), (57, .invokevirtual 51, 3), (60, .ifCond .eq 7, 3),
  (63, .iconst 1, 1), (64, .goto 4, 3), (67, .iconst 0, 1), (68, .ireturn, 1), (69, .aload_n 0, 1), (70, .getfield 257, 3), (73, .getfield 458, 3), (76, .iload_n 1, 1),
  (77, .iload_n 2, 1), (78, .iastore, 1), (79, .aload_n 0, 1), (80, .getfield 257, 3), (83, .getfield 459, 3), (86, .iload_n 1, 1), (87, .iload_n 2, 1), (88, .bipush 119, 2),
  (90, .if_icmp .eq 9, 3), (93, .iload_n 2, 1), (94, .bipush 87, 2), (96, .if_icmp .ne 8, 3), (99, .bipush 16, 2), (101, .goto 5, 3), (104, .bipush 8, 2), (106, .iastore, 1),
  (107, .aload_n 0, 1), (108, .invokevirtual 38, 3), (111, .iload_n 2, 1), (112, .lookupswitch 147 #[(87, 68), (98, 68), (110, 109), (114, 70), (115, 115), (119, 68), (122, 68)], 68), (180, .iconst 1, 1), (181, .ireturn, 1), (182, .aload_n 0, 1), (183, .getfield 257, 3),
  (186, .getfield 463, 3), (189, .iload_n 1, 1), (190, .aload_n 0, 1), (191, .getfield 257, 3), (194, .getfield 451, 3), (197, .iastore, 1), (198, .aload_n 0, 1), (199, .getfield 257, 3),
  (202, .getfield 464, 3), (205, .iload_n 1, 1), (206, .aload_n 0, 1), (207, .getfield 257, 3), (210, .getfield 451, 3), (213, .iconst 1, 1), (214, .iadd, 1), (215, .iastore, 1),
  (216, .aload_n 0, 1), (217, .invokevirtual 48, 3), (220, .ireturn, 1), (221, .aload_n 0, 1), (222, .iload_n 1, 1), (223, .invokevirtual 49, 3), (226, .ireturn, 1), (227, .aload_n 0, 1),
  (228, .bipush 40, 2), (230, .invokevirtual 39, 3), (233, .ifCond .eq 24, 3), (236, .aload_n 0, 1), (237, .iload_n 1, 1), (238, .invokevirtual 52, 3), (241, .ifCond .eq 16, 3), (244, .aload_n 0, 1),
  (245, .bipush 41, 2), (247, .invokevirtual 39, 3), (250, .ifCond .eq 7, 3), (253, .iconst 1, 1), (254, .goto 4, 3), (257, .iconst 0, 1), (258, .ireturn, 1), (259, .iconst 0, 1),
  (260, .ireturn, 1)]
def xm_47 : xrM := ((4, 1, ⟨"HexTemplates$Parser", "parseType", "(I)Z"⟩), (prog_6_method_13_code, 3, (some FieldType.boolean)), [], xc_47)
-- 48: HexTemplates$Parser.parseChoice()Z
def xc_48 : xrC := [(0, .aload_n 0, 1), (1, .invokevirtual 40, 3), (4, .ifCond .eq 20, 3), (7, .aload_n 0, 1), (8, .getfield 257, 3), (11, .aload_n 0, 1), (12, .getfield 259, 3), (15, .bipush 65, 2),
  (17, .isub, 1), (18, .invokevirtual 103, 3), (21, .ifCond .ne 5, 3), (24, .iconst 0, 1), (25, .ireturn, 1), (26, .aload_n 0, 1), (27, .invokevirtual 38, 3), (30, .iconst 1, 1),
  (31, .ireturn, 1)]
def xm_48 : xrM := ((4, 0, ⟨"HexTemplates$Parser", "parseChoice", "()Z"⟩), (prog_6_method_14_code, 1, (some FieldType.boolean)), [], xc_48)
-- 49: HexTemplates$Parser.parseBits(I)Z
def xc_49 : xrC := [(0, .aload_n 0, 1), (1, .getfield 259, 3), (4, .bipush 48, 2), (6, .isub, 1), (7, .istore_n 2, 1), (8, .iload_n 2, 1), (9, .iconst 1, 1), (10, .if_icmp .lt 14, 3),
  (13, .iload_n 2, 1), (14, .bipush 8, 2), (16, .aload_n 0, 1), (17, .getfield 261, 3), (20, .isub, 1), (21, .if_icmp .le 5, 3), (24, .iconst 0, 1), (25, .ireturn, 1),
  (26, .aload_n 0, 1), (27, .dup, 1), (28, .getfield 261, 3), (31, .iload_n 2, 1), (32, .iadd, 1), (33, .putfield 261, 3), (36, .aload_n 0, 1), (37, .getfield 257, 3),
  (40, .getfield 459, 3), (43, .iload_n 1, 1), (44, .iload_n 2, 1), (45, .iastore, 1), (46, .aload_n 0, 1), (47, .getfield 257, 3), (50, .getfield 460, 3), (53, .iload_n 1, 1),
  (54, .bipush 8, 2), (56, .aload_n 0, 1), (57, .getfield 261, 3), (60, .isub, 1), (61, .iastore, 1), (62, .aload_n 0, 1), (63, .aload_n 0, 1), (64, .getfield 261, 3),
  (67, .bipush 8, 2), (69, .if_icmp .ne 7, 3), (72, .iconst 0, 1), (73, .goto 7, 3), (76, .aload_n 0, 1), (77, .getfield 261, 3), (80, .putfield 261, 3), (83, .aload_n 0, 1),
  (84, .invokevirtual 38, 3), (87, .iconst 1, 1), (88, .ireturn, 1)]
def xm_49 : xrM := ((4, 1, ⟨"HexTemplates$Parser", "parseBits", "(I)Z"⟩), (prog_6_method_15_code, 3, (some FieldType.boolean)), [], xc_49)
-- 50: HexTemplates$Parser.parseNames(I)Z
def xc_50 : xrC := [(0, .aload_n 0, 1), (1, .getfield 257, 3), (4, .getfield 463, 3), (7, .iload_n 1, 1), (8, .aload_n 0, 1), (9, .getfield 257, 3), (12, .getfield 451, 3), (15, .iastore, 1),
  (16, .aload_n 0, 1), (17, .invokevirtual 48, 3), (20, .ifCond .ne 5, 3), (23, .iconst 0, 1), (24, .ireturn, 1), (25, .iconst 0, 1), (26, .istore_n 2, 1), (27, .iload_n 2, 1),
  (28, .bipush 100, 2), (30, .if_icmp .ge 31, 3), (33, .aload_n 0, 1), (34, .getfield 259, 3), (37, .bipush 124, 2), (39, .if_icmp .ne 22, 3), (42, .aload_n 0, 1), (43, .invokevirtual 38, 3),
  (46, .aload_n 0, 1), (47, .invokevirtual 48, 3), (50, .ifCond .ne 5, 3), (53, .iconst 0, 1), (54, .ireturn, 1), (55, .iinc 2 1, 3), (58, .goto (-31), 3), (61, .aload_n 0, 1),
  (62, .getfield 257, 3), (65, .getfield 464, 3), (68, .iload_n 1, 1), (69, .aload_n 0, 1), (70, .getfield 257, 3), (73, .getfield 451, 3), (76, .iastore, 1), (77, .iconst 1, 1),
  (78, .ireturn, 1)]
def xm_50 : xrM := ((4, 1, ⟨"HexTemplates$Parser", "parseNames", "(I)Z"⟩), (prog_6_method_16_code, 3, (some FieldType.boolean)), [], xc_50)
-- 51: HexTemplates$Parser.parseCount(I)Z
def xc_51 : xrC := [(0, .aload_n 0, 1), (1, .getfield 257, 3), (4, .getfield 458, 3), (7, .iload_n 1, 1), (8, .bipush 91, 2), (10, .iastore, 1), (11, .aload_n 0, 1), (12, .getfield 257, 3),
  (15, .getfield 465, 3), (18, .iload_n 1, 1), (19, .bipush 43, 2), (21, .iastore, 1), (22, .aload_n 0, 1), (23, .invokevirtual 38, 3), (26, .aload_n 0, 1), (27, .getfield 259, 3),
  (30, .bipush 42, 2), (32, .if_icmp .eq 21, 3), (35, .aload_n 0, 1), (36, .getfield 259, 3), (39, .bipush 33, 2), (41, .if_icmp .eq 12, 3), (44, .aload_n 0, 1), (45, .getfield 259, 3),
  (48, .bipush 63, 2), (50, .if_icmp .ne 20, 3), (53, .aload_n 0, 1), (54, .getfield 257, 3), (57, .getfield 465, 3), (60, .iload_n 1, 1), (61, .aload_n 0, 1), (62, .getfield 259, 3),
  (65, .iastore, 1), (66, .aload_n 0, 1), (67, .invokevirtual 38, 3), (70, .aload_n 0, 1), (71, .getfield 257, 3), (74, .getfield 465, 3), (77, .iload_n 1, 1), (78, .iaload, 1),
  (79, .bipush 42, 2), (81, .if_icmp .ne 10, 3), (84, .aload_n 0, 1), (85, .bipush 93, 2), (87, .invokevirtual 39, 3), (90, .ireturn, 1), (91, .aload_n 0, 1), (92, .getfield 257, 3),
  (95, .getfield 465, 3), (98, .iload_n 1, 1), (99, .iaload, 1), (100, .bipush 33, 2), (102, .if_icmp .ne 44, 3), (105, .aload_n 0, 1), (106, .getfield 257, 3), (109, .getfield 466, 3),
  (112, .iload_n 1, 1), (113, .aload_n 0, 1), (114, .invokevirtual 53, 3), (117, .iastore, 1), (118, .aload_n 0, 1), (119, .getfield 257, 3), (122, .getfield 466, 3), (125, .iload_n 1, 1),
  (126, .iaload, 1), (127, .iconst (-1), 1), (128, .if_icmp .eq 16, 3), (131, .aload_n 0, 1), (132, .bipush 93, 2), (134, .invokevirtual 39, 3), (137, .ifCond .eq 7, 3), (140, .iconst 1, 1),
  (141, .goto 4, 3), (144, .iconst 0, 1), (145, .ireturn, 1), (146, .aload_n 0, 1), (147, .iload_n 1, 1), (148, .invokevirtual 52, 3), (151, .ifCond .eq 16, 3), (154, .aload_n 0, 1),
  (155, .bipush 93, 2), (157, .invokevirtual 39, 3), (160, .ifCond .eq 7, 3), (163, .iconst 1, 1), (164, .goto 4, 3), (167, .iconst 0, 1), (168, .ireturn, 1)]
def xm_51 : xrM := ((4, 1, ⟨"HexTemplates$Parser", "parseCount", "(I)Z"⟩), (prog_6_method_17_code, 2, (some FieldType.boolean)), [], xc_51)
-- 52: HexTemplates$Parser.parseSum(I)Z
def xc_52 : xrC := [(0, .aload_n 0, 1), (1, .getfield 257, 3), (4, .getfield 461, 3), (7, .iload_n 1, 1), (8, .aload_n 0, 1), (9, .getfield 257, 3), (12, .getfield 450, 3), (15, .iastore, 1),
  (16, .bipush 43, 2), (18, .istore_n 2, 1), (19, .iconst 0, 1), (20, .istore_n 3, 1), (21, .iload_n 3, 1), (22, .bipush 100, 2), (24, .if_icmp .ge 170, 3), (27, .aload_n 0, 1),
  (28, .invokevirtual 41, 3), (31, .ifCond .eq 7, 3), (34, .iconst (-1), 1), (35, .goto 21, 3), (38, .aload_n 0, 1), (39, .getfield 257, 3), (42, .aload_n 0, 1), (43, .getfield 260, 3),
  (46, .aload_n 0, 1), (47, .getfield 259, 3), (50, .bipush 97, 2), (52, .isub, 1), (53, .invokevirtual 98, 3), (56, .istore 4, 2), (58, .aload_n 0, 1), (59, .invokevirtual 41, 3),
  (62, .ifCond .ne 31, 3), (65, .iload 4, 2), (67, .iconst (-1), 1), (68, .if_icmp .eq 23, 3), (71, .aload_n 0, 1), (72, .getfield 257, 3), (75, .aload_n 0, 1), (76, .getfield 260, 3),
  (79, .bipush 8, 2), (81, .imul, 1), (82, .iload 4, 2), (84, .iadd, 1), (85, .invokevirtual 99, 3), (88, .ifCond .ne 5, 3), (91, .iconst 0, 1), (92, .ireturn, 1),
  (93, .iconst (-1), 1), (94, .iload 4, 2), (96, .isub, 1), (97, .istore 5, 2), (99, .aload_n 0, 1), (100, .invokevirtual 41, 3), (103, .ifCond .eq 12, 3), (106, .aload_n 0, 1),
  (107, .invokevirtual 53, 3), (110, .istore 5, 2), (112, .goto 7, 3), (115, .aload_n 0, 1), (116, .invokevirtual 38, 3), (119, .aload_n 0, 1), (120, .getfield 257, 3), (123, .iload_n 2, 1),
  (124, .iload 5, 2), (126, .invokevirtual 102, 3), (129, .ifCond .ne 5, 3), (132, .iconst 0, 1), (133, .ireturn, 1), (134, .aload_n 0, 1), (135, .getfield 257, 3), (138, .getfield 462, 3),
  (141, .iload_n 1, 1), (142, .aload_n 0, 1), (143, .getfield 257, 3), (146, .getfield 450, 3), (149, .iastore, 1), (150, .aload_n 0, 1), (151, .getfield 259, 3), (154, .bipush 43, 2),
  (156, .if_icmp .eq 23, 3), (159, .aload_n 0, 1), (160, .getfield 259, 3), (163, .bipush 45, 2), (165, .if_icmp .eq 14, 3), (168, .aload_n 0, 1), (169, .getfield 259, 3), (172, .bipush 42, 2),
  (174, .if_icmp .eq 5, 3), (177, .iconst 1, 1), (178, .ireturn, 1), (179, .aload_n 0, 1), (180, .getfield 259, 3), (183, .istore_n 2, 1), (184, .aload_n 0, 1), (185, .invokevirtual 38, 3),
  (188, .iinc 3 1, 3), (191, .goto (-170), 3), (194, .iconst 0, 1), (195, .ireturn, 1)]
def xm_52 : xrM := ((4, 1, ⟨"HexTemplates$Parser", "parseSum", "(I)Z"⟩), (prog_6_method_18_code, 6, (some FieldType.boolean)), [], xc_52)
-- 53: HexTemplates$Parser.parseInt()I
def xc_53 : xrC := [(0, .iconst (-1), 1), (1, .istore_n 1, 1), (2, .iconst 0, 1), (3, .istore_n 2, 1), (4, .iload_n 2, 1), (5, .iconst 3, 1), (6, .if_icmp .ge 37, 3), (9, .aload_n 0, 1),
  (10, .invokevirtual 41, 3), (13, .ifCond .eq 30, 3), (16, .iload_n 1, 1), (17, .iconst 0, 1), (18, .invokestatic 227, 3), (21, .bipush 10, 2), (23, .imul, 1), (24, .aload_n 0, 1),
  (25, .getfield 259, 3), (28, .iadd, 1), (29, .bipush 48, 2), (31, .isub, 1), (32, .istore_n 1, 1), (33, .aload_n 0, 1), (34, .invokevirtual 38, 3), (37, .iinc 2 1, 3),
  (40, .goto (-36), 3), (43, .iload_n 1, 1), (44, .ireturn, 1)]
def xm_53 : xrM := ((4, 0, ⟨"HexTemplates$Parser", "parseInt", "()I"⟩), (prog_6_method_19_code, 3, (some FieldType.int)), [], xc_53)
-- 54: HexTemplates$Parser.parseRelation(I)Z
def xc_54 : xrC := [(0, .aload_n 0, 1), (1, .getfield 257, 3), (4, .iload_n 1, 1), (5, .invokevirtual 101, 3), (8, .ifCond .ne 5, 3), (11, .iconst 0, 1), (12, .ireturn, 1), (13, .aload_n 0, 1),
  (14, .invokevirtual 38, 3), (17, .aload_n 0, 1), (18, .invokevirtual 41, 3), (21, .ifCond .eq 29, 3), (24, .aload_n 0, 1), (25, .getfield 257, 3), (28, .getfield 467, 3), (31, .iload_n 1, 1),
  (32, .bipush 61, 2), (34, .iastore, 1), (35, .aload_n 0, 1), (36, .getfield 257, 3), (39, .getfield 468, 3), (42, .iload_n 1, 1), (43, .aload_n 0, 1), (44, .invokevirtual 53, 3),
  (47, .iastore, 1), (48, .iconst 1, 1), (49, .ireturn, 1), (50, .aload_n 0, 1), (51, .getfield 259, 3), (54, .bipush 35, 2), (56, .if_icmp .eq 32, 3), (59, .aload_n 0, 1),
  (60, .getfield 259, 3), (63, .bipush 37, 2), (65, .if_icmp .eq 23, 3), (68, .aload_n 0, 1), (69, .getfield 259, 3), (72, .bipush 43, 2), (74, .if_icmp .eq 14, 3), (77, .aload_n 0, 1),
  (78, .getfield 259, 3), (81, .bipush 94, 2), (83, .if_icmp .eq 5, 3), (86, .iconst 0, 1), (87, .ireturn, 1), (88, .aload_n 0, 1), (89, .getfield 257, 3), (92, .getfield 467, 3),
  (95, .iload_n 1, 1), (96, .aload_n 0, 1), (97, .getfield 259, 3), (100, .iastore, 1), (101, .aload_n 0, 1), (102, .invokevirtual 38, 3), (105, .aload_n 0, 1), (106, .getfield 257, 3),
  (109, .getfield 468, 3), (112, .iload_n 1, 1), (113, .aload_n 0, 1), (114, .getfield 259, 3), (117, .bipush 97, 2), (119, .isub, 1), (120, .iastore, 1), (121, .aload_n 0, 1),
  (122, .invokevirtual 38, 3), (125, .iconst 1, 1), (126, .ireturn, 1)]
def xm_54 : xrM := ((4, 1, ⟨"HexTemplates$Parser", "parseRelation", "(I)Z"⟩), (prog_6_method_20_code, 2, (some FieldType.boolean)), [], xc_54)
-- 55: HexTemplates$Reader.<init>()V
def xc_55 : xrC := [(0, .aload_n 0, 1), (1, .monitorexit, 3), (4, .aload_n 0, 1), (5, .new 3, 3), (8, .dup, 1), (9, .invokespecial 26, 3), (12, .invokedynamic 320, 3), (15, .aload_n 0, 1),
  (16, .aconst_null, 1), (17, .invokedynamic 321, 3), (20, .aload_n 0, 1), (21, .aconst_null, 1), (22, .invokedynamic 322, 3), (25, .aload_n 0, 1), (26, .iconst 0, 1), (27, .putfield 323, 3),
  (30, .aload_n 0, 1), (31, .iconst 0, 1), (32, .putfield 324, 3), (35, .aload_n 0, 1), (36, .iconst 0, 1), (37, .putfield 325, 3), (40, .aload_n 0, 1), (41, .iconst (-1), 1),
  (42, .putfield 326, 3), (45, .aload_n 0, 1), (46, .iconst 0, 1), (47, .putfield 327, 3), (50, .aload_n 0, 1), (51, .bipush 48, 2), (53, .newarray .int, 2), (55, .invokedynamic 328, 3),
  (58, .aload_n 0, 1), (59, .bipush 48, 2), (61, .newarray .int, 2), (63, .invokedynamic 329, 3), (66, .aload_n 0, 1), (67, .bipush 48, 2), (69, .newarray .int, 2), (71, .invokedynamic 330, 3),
  (74, .return_, 1)]
def xm_55 : xrM := ((5, 0, ⟨"HexTemplates$Reader", "<init>", "()V"⟩), (prog_7_method_1_code, 1, (none)), [], xc_55)
-- 56: HexTemplates$Reader.readAt(LHexTemplates$Template;LHexTemplates$Bytes;II)Z
def xc_56 : xrC := [(0, .aload_n 0, 1), (1, .aload_n 1, 1), (2, .invokedynamic 321, 3), (5, .aload_n 0, 1), (6, .aload_n 2, 1), (7, .invokedynamic 322, 3), (10, .aload_n 0, 1), (11, .iload 4, 2),
  (13, .putfield 323, 3), (16, .aload_n 0, 1), (17, .iconst 0, 1), (18, .putfield 324, 3), (21, .aload_n 0, 1), (22, .iconst 0, 1), (23, .putfield 327, 3), (26, .aload_n 0, 1),
  (27, .getfield 320, 3), (30, .iconst 0, 1), (31, .putfield 199, 3), (34, .aload_n 0, 1), (35, .iconst 0, 1), (36, .putfield 325, 3), (39, .aload_n 0, 1), (40, .iconst (-1), 1),
  (41, .putfield 326, 3), (44, .aload_n 1, 1), (45, .ifnull 15, 3), (48, .iload_n 3, 1), (49, .ifCond .lt 11, 3), (52, .iload_n 3, 1), (53, .aload_n 1, 1), (54, .getfield 449, 3),
  (57, .if_icmp .lt 5, 3), (60, .iconst 0, 1), (61, .ireturn, 1), (62, .aload_n 0, 1), (63, .iload_n 3, 1), (64, .iconst (-1), 1), (65, .iconst (-1), 1), (66, .iconst 0, 1),
  (67, .invokevirtual 59, 3), (70, .istore 5, 2), (72, .iload 5, 2), (74, .ifCond .eq 13, 3), (77, .aload_n 0, 1), (78, .iconst 0, 1), (79, .putfield 325, 3), (82, .aload_n 0, 1),
  (83, .iconst (-1), 1), (84, .putfield 326, 3), (87, .iload 5, 2), (89, .ireturn, 1)]
def xm_56 : xrM := ((5, 4, ⟨"HexTemplates$Reader", "readAt", "(LHexTemplates$Template;LHexTemplates$Bytes;II)Z"⟩), (prog_7_method_2_code, 6, (some FieldType.boolean)), [], xc_56)
-- 57: HexTemplates$Reader.fail(II)Z
def xc_57 : xrC := [(0, .aload_n 0, 1), (1, .iload_n 1, 1), (2, .putfield 325, 3), (5, .aload_n 0, 1), (6, .iload_n 2, 1), (7, .putfield 326, 3), (10, .iconst 0, 1), (11, .ireturn, 1)]
def xm_57 : xrM := ((5, 2, ⟨"HexTemplates$Reader", "fail", "(II)Z"⟩), (prog_7_method_3_code, 3, (some FieldType.boolean)), [], xc_57)
-- 58: HexTemplates$Reader.make(III)I
def xc_58 : xrC := [(0, .aload_n 0, 1), (1, .getfield 324, 3), (4, .sipush 200, 3), (7, .if_icmp .lt 18, 3), (10, .aload_n 0, 1), (11, .iconst 5, 1), (12, .putfield 325, 3), (15, .aload_n 0, 1),
  (16, .aload_n 0, 1), (17, .getfield 323, 3), (20, .putfield 326, 3), (23, .iconst (-1), 1), (24, .ireturn, 1), (25, .aload_n 0, 1), (26, .dup, 1), (27, .getfield 324, 3),
  (30, .iconst 1, 1), (31, .iadd, 1), (32, .putfield 324, 3), (35, .aload_n 0, 1), (36, .getfield 320, 3), (39, .iload_n 1, 1), (40, .iload_n 2, 1), (41, .aload_n 0, 1),
  (42, .getfield 323, 3), (45, .iload_n 3, 1), (46, .invokevirtual 28, 3), (49, .ireturn, 1)]
def xm_58 : xrM := ((5, 3, ⟨"HexTemplates$Reader", "make", "(III)I"⟩), (prog_7_method_4_code, 4, (some FieldType.int)), [], xc_58)
-- 59: HexTemplates$Reader.readStructure(IIII)Z
def xc_59 : xrC := [(0, .iload 4, 2), (2, .iconst 5, 1), (3, .if_icmp .le 13, 3), (6, .aload_n 0, 1), (7, .iconst 4, 1), (8, .aload_n 0, 1), (9, .getfield 323, 3), (12, .invokevirtual 57, 3),
  (15, .ireturn, 1), (16, .aload_n 0, 1), (17, .getfield 323, 3), (20, .istore 5, 2), (22, .aload_n 0, 1), (23, .iconst 0, 1), (24, .iload_n 2, 1), (25, .iload_n 3, 1),
  (26, .invokevirtual 58, 3), (29, .istore 6, 2), (31, .iload 6, 2), (33, .iconst (-1), 1), (34, .if_icmp .ne 5, 3), (37, .iconst 0, 1), (38, .ireturn, 1), (39, .iconst 0, 1),
  (40, .istore 7, 2), (42, .iload 7, 2), (44, .aload_n 0, 1), (45, .getfield 321, 3), (48, .getfield 453, 3), (51, .iload_n 1, 1), (52, .iaload, 1), (53, .if_icmp .ge 29, 3),
  (56, .aload_n 0, 1), (57, .iload_n 1, 1), (58, .bipush 8, 2), (60, .imul, 1), (61, .iload 7, 2), (63, .iadd, 1), (64, .iload 6, 2), (66, .iload 4, 2),
  (68, .invokevirtual 60, 3), (71, .ifCond .ne 5, 3), (74, .iconst 0, 1), (75, .ireturn, 1), (76, .iinc 7 1, 3), (79, .goto (-37), 3), (82, .aload_n 0, 1), (83, .iload_n 1, 1),
  (84, .iload 4, 2), (86, .invokevirtual 73, 3), (89, .aload_n 0, 1), (90, .getfield 321, 3), (93, .getfield 452, 3), (96, .iload_n 1, 1), (97, .iaload, 1), (98, .istore 7, 2),
  (100, .aload_n 0, 1), (101, .getfield 320, 3), (104, .iload 6, 2), (106, .iload_n 2, 1), (107, .iconst (-1), 1), (108, .if_icmp .ne 8, 3), (111, .iload 7, 2), (113, .goto 12, 3),
  (116, .aload_n 0, 1), (117, .getfield 321, 3), (120, .getfield 457, 3), (123, .iload_n 2, 1), (124, .iaload, 1), (125, .aload_n 0, 1), (126, .getfield 323, 3), (129, .iload 5, 2),
  (131, .isub, 1), (132, .iload 7, 2), (134, .invokevirtual 29, 3), (137, .iconst 1, 1), (138, .ireturn, 1)]
def xm_59 : xrM := ((5, 4, ⟨"HexTemplates$Reader", "readStructure", "(IIII)Z"⟩), (prog_7_method_5_code, 8, (some FieldType.boolean)), [], xc_59)
-- 60: HexTemplates$Reader.readField(III)Z
def xc_60 : xrC := [(0, .iload_n 3, 1), (1, .bipush 8, 2), (3, .imul, 1), (4, .iload_n 1, 1), (5, .bipush 8, 2), (7, .irem, 1), (8, .iadd, 1), (9, .istore 4, 2),
  (11, .aload_n 0, 1), (12, .getfield 328, 3), (15, .iload 4, 2), (17, .aload_n 0, 1), (18, .getfield 323, 3), (21, .iastore, 1), (22, .aload_n 0, 1), (23, .getfield 321, 3),
  (26, .getfield 458, 3), (29, .iload_n 1, 1), (30, .iaload, 1), (31, .lookupswitch 52 #[(65, 25), (91, 40)], 25), (56, .aload_n 0, 1), (57, .iload_n 1, 1), (58, .iload_n 1, 1), (59, .iload_n 2, 1),
  (60, .iload_n 3, 1), (61, .iconst 1, 1), (62, .iadd, 1), (63, .invokevirtual 66, 3), (66, .istore 5, 2), (68, .goto 24, 3), (71, .aload_n 0, 1), (72, .iload_n 1, 1),
  (73, .iload_n 2, 1), (74, .iload_n 3, 1), (75, .invokevirtual 68, 3), (78, .istore 5, 2), (80, .goto 12, 3), (83, .aload_n 0, 1), (84, .iload_n 1, 1), (85, .iload_n 2, 1),
  (86, .iload 4, 2), (88, .invokevirtual 61, 3), (91, .ireturn, 1), (92, .aload_n 0, 1), (93, .getfield 329, 3), (96, .iload 4, 2), (98, .aload_n 0, 1), (99, .getfield 323, 3),
  (102, .aload_n 0, 1), (103, .getfield 328, 3), (106, .iload 4, 2), (108, .iaload, 1), (109, .isub, 1), (110, .iastore, 1), (111, .iload 5, 2), (113, .ireturn, 1)]
def xm_60 : xrM := ((5, 3, ⟨"HexTemplates$Reader", "readField", "(III)Z"⟩), (prog_7_method_6_code, 6, (some FieldType.boolean)), [], xc_60)
-- 61: HexTemplates$Reader.readPlain(III)Z
def xc_61 : xrC := [(0, .aload_n 0, 1), (1, .getfield 321, 3), (4, .iload_n 1, 1), (5, .invokevirtual 100, 3), (8, .istore 4, 2), (10, .aload_n 0, 1), (11, .iload 4, 2), (13, .iload_n 1, 1),
  (14, .iload_n 2, 1), (15, .invokevirtual 58, 3), (18, .istore 5, 2), (20, .iload 5, 2), (22, .iconst (-1), 1), (23, .if_icmp .ne 5, 3), (26, .iconst 0, 1), (27, .ireturn, 1),
  (28, .aload_n 0, 1), (29, .getfield 321, 3), (32, .getfield 458, 3), (35, .iload_n 1, 1), (36, .iaload, 1), (37, .lookupswitch 67 #[(110, 56), (115, 35), (122, 46)], 35), (72, .aload_n 0, 1), (73, .iload_n 1, 1),
  (74, .iload_n 3, 1), (75, .invokevirtual 64, 3), (78, .istore 6, 2), (80, .goto 32, 3), (83, .aload_n 0, 1), (84, .iload_n 3, 1), (85, .invokevirtual 65, 3), (88, .istore 6, 2),
  (90, .goto 22, 3), (93, .aload_n 0, 1), (94, .iload_n 1, 1), (95, .iload_n 3, 1), (96, .invokevirtual 63, 3), (99, .istore 6, 2), (101, .goto 11, 3), (104, .aload_n 0, 1),
  (105, .iload_n 1, 1), (106, .iload_n 3, 1), (107, .invokevirtual 62, 3), (110, .istore 6, 2), (112, .iload 6, 2), (114, .ifCond .ne 5, 3), (117, .iconst 0, 1), (118, .ireturn, 1),
  (119, .aload_n 0, 1), (120, .getfield 320, 3), (123, .iload 5, 2), (125, .aload_n 0, 1), (126, .getfield 321, 3), (129, .getfield 457, 3), (132, .iload_n 1, 1), (133, .iaload, 1),
  (134, .aload_n 0, 1), (135, .getfield 329, 3), (138, .iload_n 3, 1), (139, .iaload, 1), (140, .aload_n 0, 1), (141, .getfield 330, 3), (144, .iload_n 3, 1), (145, .iaload, 1),
  (146, .invokevirtual 29, 3), (149, .aload_n 0, 1), (150, .dup, 1), (151, .getfield 323, 3), (154, .iload 4, 2), (156, .iconst 4, 1), (157, .if_icmp .ne 19, 3), (160, .aload_n 0, 1),
  (161, .getfield 321, 3), (164, .getfield 460, 3), (167, .iload_n 1, 1), (168, .iaload, 1), (169, .ifCond .eq 7, 3), (172, .iconst 0, 1), (173, .goto 9, 3), (176, .aload_n 0, 1),
  (177, .getfield 329, 3), (180, .iload_n 3, 1), (181, .iaload, 1), (182, .iadd, 1), (183, .putfield 323, 3), (186, .iconst 1, 1), (187, .ireturn, 1)]
def xm_61 : xrM := ((5, 3, ⟨"HexTemplates$Reader", "readPlain", "(III)Z"⟩), (prog_7_method_7_code, 7, (some FieldType.boolean)), [], xc_61)
-- 62: HexTemplates$Reader.measureNumber(II)Z
def xc_62 : xrC := [(0, .aload_n 0, 1), (1, .getfield 321, 3), (4, .getfield 459, 3), (7, .iload_n 1, 1), (8, .iaload, 1), (9, .bipush 8, 2), (11, .idiv, 1), (12, .istore_n 3, 1),
  (13, .aload_n 0, 1), (14, .getfield 323, 3), (17, .iload_n 3, 1), (18, .iadd, 1), (19, .aload_n 0, 1), (20, .getfield 322, 3), (23, .getfield 1, 3), (26, .if_icmp .le 13, 3),
  (29, .aload_n 0, 1), (30, .iconst 1, 1), (31, .aload_n 0, 1), (32, .getfield 323, 3), (35, .invokevirtual 57, 3), (38, .ireturn, 1), (39, .aload_n 0, 1), (40, .getfield 322, 3),
  (43, .aload_n 0, 1), (44, .getfield 323, 3), (47, .invokevirtual 2, 3), (50, .istore 4, 2), (52, .iload_n 3, 1), (53, .iconst 2, 1), (54, .if_icmp .ne 53, 3), (57, .aload_n 0, 1),
  (58, .getfield 322, 3), (61, .aload_n 0, 1), (62, .getfield 323, 3), (65, .iconst 1, 1), (66, .iadd, 1), (67, .invokevirtual 2, 3), (70, .istore 5, 2), (72, .aload_n 0, 1),
  (73, .getfield 321, 3), (76, .getfield 458, 3), (79, .iload_n 1, 1), (80, .iaload, 1), (81, .bipush 87, 2), (83, .if_icmp .ne 14, 3), (86, .iload 4, 2), (88, .bipush 8, 2),
  (90, .ishl, 1), (91, .iload 5, 2), (93, .ior, 1), (94, .goto 11, 3), (97, .iload 5, 2), (99, .bipush 8, 2), (101, .ishl, 1), (102, .iload 4, 2),
  (104, .ior, 1), (105, .istore 4, 2), (107, .aload_n 0, 1), (108, .getfield 321, 3), (111, .getfield 467, 3), (114, .iload_n 1, 1), (115, .iaload, 1), (116, .bipush 61, 2),
  (118, .if_icmp .ne 27, 3), (121, .iload 4, 2), (123, .aload_n 0, 1), (124, .getfield 321, 3), (127, .getfield 468, 3), (130, .iload_n 1, 1), (131, .iaload, 1), (132, .if_icmp .eq 13, 3),
  (135, .aload_n 0, 1), (136, .iconst 2, 1), (137, .aload_n 0, 1), (138, .getfield 323, 3), (141, .invokevirtual 57, 3), (144, .ireturn, 1), (145, .aload_n 0, 1), (146, .getfield 329, 3),
  (149, .iload_n 2, 1), (150, .iload_n 3, 1), (151, .iastore, 1), (152, .aload_n 0, 1), (153, .getfield 330, 3), (156, .iload_n 2, 1), (157, .iload 4, 2), (159, .iastore, 1),
  (160, .iconst 1, 1), (161, .ireturn, 1)]
def xm_62 : xrM := ((5, 2, ⟨"HexTemplates$Reader", "measureNumber", "(II)Z"⟩), (prog_7_method_8_code, 6, (some FieldType.boolean)), [], xc_62)
-- 63: HexTemplates$Reader.measureBits(II)Z
def xc_63 : xrC := [(0, .aload_n 0, 1), (1, .getfield 323, 3), (4, .aload_n 0, 1), (5, .getfield 322, 3), (8, .getfield 1, 3), (11, .if_icmp .lt 13, 3), (14, .aload_n 0, 1), (15, .iconst 1, 1),
  (16, .aload_n 0, 1), (17, .getfield 323, 3), (20, .invokevirtual 57, 3), (23, .ireturn, 1), (24, .aload_n 0, 1), (25, .getfield 329, 3), (28, .iload_n 2, 1), (29, .iconst 1, 1),
  (30, .iastore, 1), (31, .aload_n 0, 1), (32, .getfield 330, 3), (35, .iload_n 2, 1), (36, .aload_n 0, 1), (37, .aload_n 0, 1), (38, .getfield 322, 3), (41, .aload_n 0, 1),
  (42, .getfield 323, 3), (45, .invokevirtual 2, 3), (48, .aload_n 0, 1), (49, .getfield 321, 3), (52, .getfield 460, 3), (55, .iload_n 1, 1), (56, .iaload, 1), (57, .ishr, 1),
  (58, .aload_n 0, 1), (59, .getfield 321, 3), (62, .getfield 459, 3), (65, .iload_n 1, 1), (66, .iaload, 1), (67, .invokevirtual 75, 3), (70, .iastore, 1), (71, .iconst 1, 1),
  (72, .ireturn, 1)]
def xm_63 : xrM := ((5, 2, ⟨"HexTemplates$Reader", "measureBits", "(II)Z"⟩), (prog_7_method_9_code, 3, (some FieldType.boolean)), [], xc_63)
-- 64: HexTemplates$Reader.measureCounted(II)Z
def xc_64 : xrC := [(0, .aload_n 0, 1), (1, .iload_n 1, 1), (2, .iload_n 2, 1), (3, .iload_n 2, 1), (4, .bipush 8, 2), (6, .irem, 1), (7, .isub, 1), (8, .invokevirtual 72, 3),
  (11, .istore_n 3, 1), (12, .iload_n 3, 1), (13, .ifCond .lt 9, 3), (16, .iload_n 3, 1), (17, .bipush 100, 2), (19, .if_icmp .le 13, 3), (22, .aload_n 0, 1), (23, .iconst 3, 1),
  (24, .aload_n 0, 1), (25, .getfield 323, 3), (28, .invokevirtual 57, 3), (31, .ireturn, 1), (32, .iload_n 3, 1), (33, .ifCond .le 29, 3), (36, .aload_n 0, 1), (37, .getfield 323, 3),
  (40, .iload_n 3, 1), (41, .iadd, 1), (42, .aload_n 0, 1), (43, .getfield 322, 3), (46, .getfield 1, 3), (49, .if_icmp .le 13, 3), (52, .aload_n 0, 1), (53, .iconst 1, 1),
  (54, .aload_n 0, 1), (55, .getfield 323, 3), (58, .invokevirtual 57, 3), (61, .ireturn, 1), (62, .aload_n 0, 1), (63, .getfield 329, 3), (66, .iload_n 2, 1), (67, .iload_n 3, 1),
  (68, .iastore, 1), (69, .aload_n 0, 1), (70, .getfield 330, 3), (73, .iload_n 2, 1), (74, .iload_n 3, 1), (75, .ifCond .ne 7, 3), (78, .iconst (-1), 1), (79, .goto 14, 3),
  (82, .aload_n 0, 1), (83, .getfield 322, 3), (86, .aload_n 0, 1), (87, .getfield 323, 3), (90, .invokevirtual 2, 3), (93, .iastore, 1), (94, .iconst 1, 1), (95, .ireturn, 1)]
def xm_64 : xrM := ((5, 2, ⟨"HexTemplates$Reader", "measureCounted", "(II)Z"⟩), (prog_7_method_10_code, 4, (some FieldType.boolean)), [], xc_64)
-- 65: HexTemplates$Reader.measureEnded(I)Z
def xc_65 : xrC := [(0, .aload_n 0, 1), (1, .getfield 323, 3), (4, .istore_n 2, 1), (5, .iload_n 2, 1), (6, .aload_n 0, 1), (7, .getfield 322, 3), (10, .getfield 1, 3), (13, .if_icmp .ge 53, 3),
  (16, .aload_n 0, 1), (17, .getfield 322, 3), (20, .iload_n 2, 1), (21, .invokevirtual 2, 3), (24, .ifCond .ne 36, 3), (27, .aload_n 0, 1), (28, .getfield 329, 3), (31, .iload_n 1, 1),
  (32, .iload_n 2, 1), (33, .iconst 1, 1), (34, .iadd, 1), (35, .aload_n 0, 1), (36, .getfield 323, 3), (39, .isub, 1), (40, .iastore, 1), (41, .aload_n 0, 1),
  (42, .getfield 330, 3), (45, .iload_n 1, 1), (46, .aload_n 0, 1), (47, .getfield 322, 3), (50, .aload_n 0, 1), (51, .getfield 323, 3), (54, .invokevirtual 2, 3), (57, .iastore, 1),
  (58, .iconst 1, 1), (59, .ireturn, 1), (60, .iinc 2 1, 3), (63, .goto (-58), 3), (66, .aload_n 0, 1), (67, .iconst 1, 1), (68, .aload_n 0, 1), (69, .getfield 323, 3),
  (72, .invokevirtual 57, 3), (75, .ireturn, 1)]
def xm_65 : xrM := ((5, 1, ⟨"HexTemplates$Reader", "measureEnded", "(I)Z"⟩), (prog_7_method_11_code, 3, (some FieldType.boolean)), [], xc_65)
-- 66: HexTemplates$Reader.readNames(IIII)Z
def xc_66 : xrC := [(0, .aload_n 0, 1), (1, .getfield 323, 3), (4, .istore 5, 2), (6, .aload_n 0, 1), (7, .getfield 320, 3), (10, .getfield 199, 3), (13, .istore 6, 2), (15, .aload_n 0, 1),
  (16, .getfield 327, 3), (19, .istore 7, 2), (21, .aload_n 0, 1), (22, .getfield 321, 3), (25, .getfield 463, 3), (28, .iload_n 1, 1), (29, .iaload, 1), (30, .istore 8, 2),
  (32, .iload 8, 2), (34, .aload_n 0, 1), (35, .getfield 321, 3), (38, .getfield 464, 3), (41, .iload_n 1, 1), (42, .iaload, 1), (43, .if_icmp .ge 52, 3), (46, .aload_n 0, 1),
  (47, .iload 5, 2), (49, .iload 6, 2), (51, .iload 7, 2), (53, .invokevirtual 67, 3), (56, .aload_n 0, 1), (57, .aload_n 0, 1), (58, .getfield 321, 3), (61, .getfield 456, 3),
  (64, .iload 8, 2), (66, .iaload, 1), (67, .iload_n 2, 1), (68, .iload_n 3, 1), (69, .iload 4, 2), (71, .invokevirtual 59, 3), (74, .ifCond .eq 5, 3), (77, .iconst 1, 1),
  (78, .ireturn, 1), (79, .aload_n 0, 1), (80, .getfield 325, 3), (83, .iconst 5, 1), (84, .if_icmp .ne 5, 3), (87, .iconst 0, 1), (88, .ireturn, 1), (89, .iinc 8 1, 3),
  (92, .goto (-60), 3), (95, .iconst 0, 1), (96, .ireturn, 1)]
def xm_66 : xrM := ((5, 4, ⟨"HexTemplates$Reader", "readNames", "(IIII)Z"⟩), (prog_7_method_12_code, 9, (some FieldType.boolean)), [], xc_66)
-- 67: HexTemplates$Reader.goBack(III)V
def xc_67 : xrC := [(0, .aload_n 0, 1), (1, .iload_n 1, 1), (2, .putfield 323, 3), (5, .aload_n 0, 1), (6, .getfield 320, 3), (9, .iload_n 2, 1), (10, .putfield 199, 3), (13, .aload_n 0, 1),
  (14, .iload_n 3, 1), (15, .putfield 327, 3), (18, .return_, 1)]
def xm_67 : xrM := ((5, 3, ⟨"HexTemplates$Reader", "goBack", "(III)V"⟩), (prog_7_method_13_code, 4, (none)), [], xc_67)
-- 68: HexTemplates$Reader.readArray(III)Z
def xc_68 : xrC := [(0, .aload_n 0, 1), (1, .getfield 323, 3), (4, .istore 4, 2), (6, .iload_n 3, 1), (7, .bipush 8, 2), (9, .imul, 1), (10, .istore 5, 2), (12, .aload_n 0, 1),
  (13, .getfield 321, 3), (16, .getfield 465, 3), (19, .iload_n 1, 1), (20, .iaload, 1), (21, .istore 6, 2), (23, .aload_n 0, 1), (24, .iconst 1, 1), (25, .iload_n 1, 1),
  (26, .iload_n 2, 1), (27, .invokevirtual 58, 3), (30, .istore 7, 2), (32, .iload 7, 2), (34, .iconst (-1), 1), (35, .if_icmp .ne 5, 3), (38, .iconst 0, 1), (39, .ireturn, 1),
  (40, .iconst 0, 1), (41, .istore 8, 2), (43, .iload 6, 2), (45, .bipush 43, 2), (47, .if_icmp .eq 10, 3), (50, .iload 6, 2), (52, .bipush 63, 2), (54, .if_icmp .ne 12, 3),
  (57, .aload_n 0, 1), (58, .iload_n 1, 1), (59, .iload 5, 2), (61, .invokevirtual 72, 3), (64, .istore 8, 2), (66, .iload 6, 2), (68, .bipush 43, 2), (70, .if_icmp .ne 25, 3),
  (73, .iload 8, 2), (75, .ifCond .lt 10, 3), (78, .iload 8, 2), (80, .bipush 20, 2), (82, .if_icmp .le 13, 3), (85, .aload_n 0, 1), (86, .iconst 3, 1), (87, .aload_n 0, 1),
  (88, .getfield 323, 3), (91, .invokevirtual 57, 3), (94, .ireturn, 1), (95, .iload 6, 2), (97, .bipush 63, 2), (99, .if_icmp .ne 11, 3), (102, .iload 8, 2), (104, .ifCond .eq 6, 3),
  (107, .iconst 1, 1), (108, .istore 8, 2), (110, .iload 6, 2), (112, .bipush 42, 2), (114, .if_icmp .ne 16, 3), (117, .aload_n 0, 1), (118, .iload_n 1, 1), (119, .iload 7, 2),
  (121, .iload_n 3, 1), (122, .invokevirtual 70, 3), (125, .istore 8, 2), (127, .goto 39, 3), (130, .iload 6, 2), (132, .bipush 33, 2), (134, .if_icmp .ne 16, 3), (137, .aload_n 0, 1),
  (138, .iload_n 1, 1), (139, .iload 7, 2), (141, .iload_n 3, 1), (142, .invokevirtual 71, 3), (145, .istore 8, 2), (147, .goto 19, 3), (150, .aload_n 0, 1), (151, .iload_n 1, 1),
  (152, .iload 7, 2), (154, .iload_n 3, 1), (155, .iload 8, 2), (157, .invokevirtual 69, 3), (160, .ifCond .ne 6, 3), (163, .iconst (-1), 1), (164, .istore 8, 2), (166, .aload_n 0, 1),
  (167, .getfield 320, 3), (170, .iload 7, 2), (172, .aload_n 0, 1), (173, .getfield 321, 3), (176, .getfield 457, 3), (179, .iload_n 1, 1), (180, .iaload, 1), (181, .aload_n 0, 1),
  (182, .getfield 323, 3), (185, .iload 4, 2), (187, .isub, 1), (188, .iload 8, 2), (190, .invokevirtual 29, 3), (193, .aload_n 0, 1), (194, .getfield 330, 3), (197, .iload 5, 2),
  (199, .iload_n 1, 1), (200, .bipush 8, 2), (202, .irem, 1), (203, .iadd, 1), (204, .iload 8, 2), (206, .iastore, 1), (207, .iload 8, 2), (209, .iconst (-1), 1),
  (210, .if_icmp .eq 7, 3), (213, .iconst 1, 1), (214, .goto 4, 3), (217, .iconst 0, 1), (218, .ireturn, 1)]
def xm_68 : xrM := ((5, 3, ⟨"HexTemplates$Reader", "readArray", "(III)Z"⟩), (prog_7_method_14_code, 9, (some FieldType.boolean)), [], xc_68)
-- 69: HexTemplates$Reader.readCounted(IIII)Z
def xc_69 : xrC := [(0, .iconst 0, 1), (1, .istore 5, 2), (3, .iload 5, 2), (5, .iload 4, 2), (7, .if_icmp .ge 24, 3), (10, .aload_n 0, 1), (11, .iload_n 1, 1), (12, .iconst (-1), 1),
  (13, .iload_n 2, 1), (14, .iload_n 3, 1), (15, .iconst 1, 1), (16, .iadd, 1), (17, .invokevirtual 66, 3), (20, .ifCond .ne 5, 3), (23, .iconst 0, 1), (24, .ireturn, 1),
  (25, .iinc 5 1, 3), (28, .goto (-25), 3), (31, .iconst 1, 1), (32, .ireturn, 1)]
def xm_69 : xrM := ((5, 4, ⟨"HexTemplates$Reader", "readCounted", "(IIII)Z"⟩), (prog_7_method_15_code, 6, (some FieldType.boolean)), [], xc_69)
-- 70: HexTemplates$Reader.readWhileFine(III)I
def xc_70 : xrC := [(0, .iconst 0, 1), (1, .istore 4, 2), (3, .iload 4, 2), (5, .sipush 200, 3), (8, .if_icmp .gt 84, 3), (11, .aload_n 0, 1), (12, .getfield 323, 3), (15, .istore 5, 2),
  (17, .aload_n 0, 1), (18, .getfield 320, 3), (21, .getfield 199, 3), (24, .istore 6, 2), (26, .aload_n 0, 1), (27, .getfield 327, 3), (30, .istore 7, 2), (32, .aload_n 0, 1),
  (33, .iload_n 1, 1), (34, .iconst (-1), 1), (35, .iload_n 2, 1), (36, .iload_n 3, 1), (37, .iconst 1, 1), (38, .iadd, 1), (39, .invokevirtual 66, 3), (42, .istore 8, 2),
  (44, .iload 8, 2), (46, .ifCond .ne 13, 3), (49, .aload_n 0, 1), (50, .getfield 325, 3), (53, .iconst 5, 1), (54, .if_icmp .ne 5, 3), (57, .iconst (-1), 1), (58, .ireturn, 1),
  (59, .iload 8, 2), (61, .ifCond .eq 12, 3), (64, .aload_n 0, 1), (65, .getfield 323, 3), (68, .iload 5, 2), (70, .if_icmp .ne 16, 3), (73, .aload_n 0, 1), (74, .iload 5, 2),
  (76, .iload 6, 2), (78, .iload 7, 2), (80, .invokevirtual 67, 3), (83, .iload 4, 2), (85, .ireturn, 1), (86, .iinc 4 1, 3), (89, .goto (-86), 3), (92, .iconst (-1), 1),
  (93, .ireturn, 1)]
def xm_70 : xrM := ((5, 3, ⟨"HexTemplates$Reader", "readWhileFine", "(III)I"⟩), (prog_7_method_16_code, 9, (some FieldType.int)), [], xc_70)
-- 71: HexTemplates$Reader.readToEnd(III)I
def xc_71 : xrC := [(0, .aload_n 0, 1), (1, .getfield 323, 3), (4, .istore 4, 2), (6, .iconst 0, 1), (7, .istore 5, 2), (9, .iload 5, 2), (11, .sipush 200, 3), (14, .if_icmp .gt 120, 3),
  (17, .aload_n 0, 1), (18, .getfield 323, 3), (21, .aload_n 0, 1), (22, .getfield 322, 3), (25, .getfield 1, 3), (28, .if_icmp .ge 29, 3), (31, .aload_n 0, 1), (32, .getfield 322, 3),
  (35, .aload_n 0, 1), (36, .getfield 323, 3), (39, .invokevirtual 2, 3), (42, .aload_n 0, 1), (43, .getfield 321, 3), (46, .getfield 466, 3), (49, .iload_n 1, 1), (50, .iaload, 1),
  (51, .if_icmp .ne 6, 3), (54, .iload 5, 2), (56, .ireturn, 1), (57, .aload_n 0, 1), (58, .getfield 323, 3), (61, .istore 6, 2), (63, .aload_n 0, 1), (64, .getfield 323, 3),
  (67, .aload_n 0, 1), (68, .getfield 322, 3), (71, .getfield 1, 3), (74, .if_icmp .ge 7, 3), (77, .iconst 1, 1), (78, .goto 4, 3), (81, .iconst 0, 1), (82, .istore 7, 2),
  (84, .iload 7, 2), (86, .ifCond .eq 18, 3), (89, .aload_n 0, 1), (90, .iload_n 1, 1), (91, .iconst (-1), 1), (92, .iload_n 2, 1), (93, .iload_n 3, 1), (94, .iconst 1, 1),
  (95, .iadd, 1), (96, .invokevirtual 66, 3), (99, .ifCond .ne 5, 3), (102, .iconst (-1), 1), (103, .ireturn, 1), (104, .iload 7, 2), (106, .ifCond .eq 12, 3), (109, .aload_n 0, 1),
  (110, .getfield 323, 3), (113, .iload 6, 2), (115, .if_icmp .ne 13, 3), (118, .aload_n 0, 1), (119, .iconst 1, 1), (120, .iload 4, 2), (122, .invokevirtual 57, 3), (125, .pop, 1),
  (126, .iconst (-1), 1), (127, .ireturn, 1), (128, .iinc 5 1, 3), (131, .goto (-122), 3), (134, .iconst (-1), 1), (135, .ireturn, 1)]
def xm_71 : xrM := ((5, 3, ⟨"HexTemplates$Reader", "readToEnd", "(III)I"⟩), (prog_7_method_17_code, 8, (some FieldType.int)), [], xc_71)
-- 72: HexTemplates$Reader.reckonSum(II)I
def xc_72 : xrC := [(0, .iconst 0, 1), (1, .istore_n 3, 1), (2, .aload_n 0, 1), (3, .getfield 321, 3), (6, .getfield 461, 3), (9, .iload_n 1, 1), (10, .iaload, 1), (11, .istore 4, 2),
  (13, .iload 4, 2), (15, .aload_n 0, 1), (16, .getfield 321, 3), (19, .getfield 462, 3), (22, .iload_n 1, 1), (23, .iaload, 1), (24, .if_icmp .ge 111, 3), (27, .aload_n 0, 1),
  (28, .getfield 321, 3), (31, .getfield 454, 3), (34, .iload 4, 2), (36, .iaload, 1), (37, .istore 5, 2), (39, .iload 5, 2), (41, .ifCond .lt 9, 3), (44, .iload 5, 2),
  (46, .i2l, 1), (47, .goto 15, 3), (50, .aload_n 0, 1), (51, .getfield 330, 3), (54, .iload_n 2, 1), (55, .iconst 1, 1), (56, .isub, 1), (57, .iload 5, 2),
  (59, .isub, 1), (60, .iaload, 1), (61, .i2l, 1), (62, .lstore 6, 2), (64, .aload_n 0, 1), (65, .getfield 321, 3), (68, .getfield 455, 3), (71, .iload 4, 2),
  (73, .iaload, 1), (74, .istore 8, 2), (76, .iload 8, 2), (78, .bipush 43, 2), (80, .if_icmp .ne 11, 3), (83, .iload_n 3, 1), (84, .i2l, 1), (85, .lload 6, 2),
  (87, .ladd, 1), (88, .goto 23, 3), (91, .iload 8, 2), (93, .bipush 45, 2), (95, .if_icmp .ne 11, 3), (98, .iload_n 3, 1), (99, .i2l, 1), (100, .lload 6, 2),
  (102, .lsub, 1), (103, .goto 8, 3), (106, .iload_n 3, 1), (107, .i2l, 1), (108, .lload 6, 2), (110, .lmul, 1), (111, .lstore 9, 2), (113, .goto_w (-99999), 3),
  (116, .goto_w 99999, 3), (119, .lload 9, 2), (121, .invokestatic 230, 3), (124, .invokestatic 228, 3), (127, .l2i, 1), (128, .istore_n 3, 1), (129, .iinc 4 1, 3), (132, .goto (-119), 3),
  (135, .iload_n 3, 1), (136, .ireturn, 1)]
def xm_72 : xrM := ((5, 2, ⟨"HexTemplates$Reader", "reckonSum", "(II)I"⟩), (prog_7_method_18_code, 11, (some FieldType.int)), [], xc_72)
-- 73: HexTemplates$Reader.countWrongIn(II)V
def xc_73 : xrC := [(0, .iconst 0, 1), (1, .istore_n 3, 1), (2, .iload_n 3, 1), (3, .aload_n 0, 1), (4, .getfield 321, 3), (7, .getfield 453, 3), (10, .iload_n 1, 1), (11, .iaload, 1),
  (12, .if_icmp .ge 130, 3), (15, .iload_n 1, 1), (16, .bipush 8, 2), (18, .imul, 1), (19, .iload_n 3, 1), (20, .iadd, 1), (21, .istore 4, 2), (23, .aload_n 0, 1),
  (24, .getfield 321, 3), (27, .getfield 467, 3), (30, .iload 4, 2), (32, .iaload, 1), (33, .istore 5, 2), (35, .iload 5, 2), (37, .ifCond .eq 99, 3), (40, .iload 5, 2),
  (42, .bipush 61, 2), (44, .if_icmp .eq 92, 3), (47, .iload_n 2, 1), (48, .bipush 8, 2), (50, .imul, 1), (51, .aload_n 0, 1), (52, .getfield 321, 3), (55, .getfield 468, 3),
  (58, .iload 4, 2), (60, .iaload, 1), (61, .bipush 8, 2), (63, .irem, 1), (64, .iadd, 1), (65, .istore 6, 2), (67, .aload_n 0, 1), (68, .iload 5, 2),
  (70, .aload_n 0, 1), (71, .getfield 328, 3), (74, .iload 6, 2), (76, .iaload, 1), (77, .aload_n 0, 1), (78, .getfield 329, 3), (81, .iload 6, 2), (83, .iaload, 1),
  (84, .aload_n 0, 1), (85, .getfield 330, 3), (88, .iload 6, 2), (90, .iaload, 1), (91, .invokevirtual 74, 3), (94, .istore 7, 2), (96, .aload_n 0, 1), (97, .getfield 330, 3),
  (100, .iload_n 2, 1), (101, .bipush 8, 2), (103, .imul, 1), (104, .iload_n 3, 1), (105, .iadd, 1), (106, .iaload, 1), (107, .aload_n 0, 1), (108, .iload 7, 2),
  (110, .aload_n 0, 1), (111, .getfield 321, 3), (114, .getfield 459, 3), (117, .iload 4, 2), (119, .iaload, 1), (120, .invokevirtual 75, 3), (123, .if_icmp .eq 13, 3), (126, .aload_n 0, 1),
  (127, .dup, 1), (128, .getfield 327, 3), (131, .iconst 1, 1), (132, .iadd, 1), (133, .putfield 327, 3), (136, .iinc 3 1, 3), (139, .goto (-137), 3), (142, .return_, 1)]
def xm_73 : xrM := ((5, 2, ⟨"HexTemplates$Reader", "countWrongIn", "(II)V"⟩), (prog_7_method_19_code, 8, (none)), [], xc_73)
-- 74: HexTemplates$Reader.reckon(IIII)I
def xc_74 : xrC := [(0, .iload_n 1, 1), (1, .bipush 35, 2), (3, .if_icmp .ne 5, 3), (6, .iload_n 3, 1), (7, .ireturn, 1), (8, .iload_n 1, 1), (9, .bipush 37, 2), (11, .if_icmp .ne 6, 3),
  (14, .iload 4, 2), (16, .ireturn, 1), (17, .iconst 0, 1), (18, .istore 5, 2), (20, .iload_n 2, 1), (21, .istore 6, 2), (23, .iload 6, 2), (25, .iload_n 2, 1),
  (26, .iload_n 3, 1), (27, .iadd, 1), (28, .if_icmp .ge 44, 3), (31, .iload_n 1, 1), (32, .bipush 43, 2), (34, .if_icmp .ne 18, 3), (37, .iload 5, 2), (39, .aload_n 0, 1),
  (40, .getfield 322, 3), (43, .iload 6, 2), (45, .invokevirtual 2, 3), (48, .iadd, 1), (49, .goto 15, 3), (52, .iload 5, 2), (54, .aload_n 0, 1), (55, .getfield 322, 3),
  (58, .iload 6, 2), (60, .invokevirtual 2, 3), (63, .ixor, 1), (64, .istore 5, 2), (66, .iinc 6 1, 3), (69, .goto (-46), 3), (72, .iload 5, 2), (74, .ireturn, 1)]
def xm_74 : xrM := ((5, 4, ⟨"HexTemplates$Reader", "reckon", "(IIII)I"⟩), (prog_7_method_20_code, 7, (some FieldType.int)), [], xc_74)
-- 75: HexTemplates$Reader.cut(II)I
def xc_75 : xrC := [(0, .iload_n 1, 1), (1, .iconst 1, 1), (2, .iload_n 2, 1), (3, .ishl, 1), (4, .iconst 1, 1), (5, .isub, 1), (6, .iand, 1), (7, .ireturn, 1)]
def xm_75 : xrM := ((5, 2, ⟨"HexTemplates$Reader", "cut", "(II)I"⟩), (prog_7_method_21_code, 3, (some FieldType.int)), [], xc_75)
-- 76: HexTemplates$Reader.relationOf(I)I
def xc_76 : xrC := [(0, .aload_n 0, 1), (1, .getfield 320, 3), (4, .iload_n 1, 1), (5, .invokevirtual 27, 3), (8, .ifCond .eq 15, 3), (11, .aload_n 0, 1), (12, .getfield 320, 3), (15, .getfield 198, 3),
  (18, .iload_n 1, 1), (19, .iaload, 1), (20, .goto 4, 3), (23, .iconst (-1), 1), (24, .istore_n 2, 1), (25, .iload_n 2, 1), (26, .iconst (-1), 1), (27, .if_icmp .ne 7, 3),
  (30, .iconst 0, 1), (31, .goto 12, 3), (34, .aload_n 0, 1), (35, .getfield 321, 3), (38, .getfield 467, 3), (41, .iload_n 2, 1), (42, .iaload, 1), (43, .ireturn, 1)]
def xm_76 : xrM := ((5, 1, ⟨"HexTemplates$Reader", "relationOf", "(I)I"⟩), (prog_7_method_22_code, 3, (some FieldType.int)), [], xc_76)
-- 77: HexTemplates$Reader.otherOf(I)I
def xc_77 : xrC := [(0, .aload_n 0, 1), (1, .iload_n 1, 1), (2, .invokevirtual 76, 3), (5, .istore_n 2, 1), (6, .iload_n 2, 1), (7, .ifCond .eq 9, 3), (10, .iload_n 2, 1), (11, .bipush 61, 2),
  (13, .if_icmp .ne 5, 3), (16, .iconst (-1), 1), (17, .ireturn, 1), (18, .aload_n 0, 1), (19, .getfield 320, 3), (22, .aload_n 0, 1), (23, .getfield 320, 3), (26, .getfield 197, 3),
  (29, .iload_n 1, 1), (30, .iaload, 1), (31, .aload_n 0, 1), (32, .getfield 321, 3), (35, .getfield 468, 3), (38, .aload_n 0, 1), (39, .getfield 320, 3), (42, .getfield 198, 3),
  (45, .iload_n 1, 1), (46, .iaload, 1), (47, .iaload, 1), (48, .invokevirtual 31, 3), (51, .ireturn, 1)]
def xm_77 : xrM := ((5, 1, ⟨"HexTemplates$Reader", "otherOf", "(I)I"⟩), (prog_7_method_23_code, 3, (some FieldType.int)), [], xc_77)
-- 78: HexTemplates$Reader.dueOf(I)I
def xc_78 : xrC := [(0, .aload_n 0, 1), (1, .iload_n 1, 1), (2, .invokevirtual 77, 3), (5, .istore_n 2, 1), (6, .iload_n 2, 1), (7, .iconst (-1), 1), (8, .if_icmp .ne 13, 3), (11, .aload_n 0, 1),
  (12, .getfield 320, 3), (15, .getfield 196, 3), (18, .iload_n 1, 1), (19, .iaload, 1), (20, .ireturn, 1), (21, .aload_n 0, 1), (22, .aload_n 0, 1), (23, .iload_n 1, 1),
  (24, .invokevirtual 76, 3), (27, .aload_n 0, 1), (28, .getfield 320, 3), (31, .getfield 194, 3), (34, .iload_n 2, 1), (35, .iaload, 1), (36, .aload_n 0, 1), (37, .getfield 320, 3),
  (40, .getfield 195, 3), (43, .iload_n 2, 1), (44, .iaload, 1), (45, .aload_n 0, 1), (46, .getfield 320, 3), (49, .getfield 196, 3), (52, .iload_n 2, 1), (53, .iaload, 1),
  (54, .invokevirtual 74, 3), (57, .istore_n 3, 1), (58, .aload_n 0, 1), (59, .iload_n 3, 1), (60, .aload_n 0, 1), (61, .getfield 321, 3), (64, .getfield 459, 3), (67, .aload_n 0, 1),
  (68, .getfield 320, 3), (71, .getfield 198, 3), (74, .iload_n 1, 1), (75, .iaload, 1), (76, .iaload, 1), (77, .invokevirtual 75, 3), (80, .ireturn, 1)]
def xm_78 : xrM := ((5, 1, ⟨"HexTemplates$Reader", "dueOf", "(I)I"⟩), (prog_7_method_24_code, 4, (some FieldType.int)), [], xc_78)
-- 79: HexTemplates$Reader.holds(I)Z
def xc_79 : xrC := [(0, .aload_n 0, 1), (1, .getfield 320, 3), (4, .getfield 196, 3), (7, .iload_n 1, 1), (8, .iaload, 1), (9, .aload_n 0, 1), (10, .iload_n 1, 1), (11, .invokevirtual 78, 3),
  (14, .if_icmp .ne 7, 3), (17, .iconst 1, 1), (18, .goto 4, 3), (21, .iconst 0, 1), (22, .ireturn, 1)]
def xm_79 : xrM := ((5, 1, ⟨"HexTemplates$Reader", "holds", "(I)Z"⟩), (prog_7_method_25_code, 2, (some FieldType.boolean)), [], xc_79)
-- 80: HexTemplates$Reader.countWrong()I
def xc_80 : xrC := [(0, .iconst 0, 1), (1, .istore_n 1, 1), (2, .iconst 0, 1), (3, .istore_n 2, 1), (4, .iload_n 2, 1), (5, .aload_n 0, 1), (6, .getfield 320, 3), (9, .getfield 199, 3),
  (12, .if_icmp .ge 34, 3), (15, .iload_n 1, 1), (16, .aload_n 0, 1), (17, .getfield 320, 3), (20, .getfield 196, 3), (23, .iload_n 2, 1), (24, .iaload, 1), (25, .aload_n 0, 1),
  (26, .iload_n 2, 1), (27, .invokevirtual 78, 3), (30, .if_icmp .ne 7, 3), (33, .iconst 0, 1), (34, .goto 4, 3), (37, .iconst 1, 1), (38, .iadd, 1), (39, .istore_n 1, 1),
  (40, .iinc 2 1, 3), (43, .goto (-39), 3), (46, .iload_n 1, 1), (47, .ireturn, 1)]
def xm_80 : xrM := ((5, 0, ⟨"HexTemplates$Reader", "countWrong", "()I"⟩), (prog_7_method_26_code, 3, (some FieldType.int)), [], xc_80)
-- 81: HexTemplates$Reader.typeOf(I)I
def xc_81 : xrC := [(0, .aload_n 0, 1), (1, .getfield 320, 3), (4, .iload_n 1, 1), (5, .invokevirtual 27, 3), (8, .ifCond .eq 15, 3), (11, .aload_n 0, 1), (12, .getfield 320, 3), (15, .getfield 198, 3),
  (18, .iload_n 1, 1), (19, .iaload, 1), (20, .goto 4, 3), (23, .iconst (-1), 1), (24, .istore_n 2, 1), (25, .iload_n 2, 1), (26, .iconst (-1), 1), (27, .if_icmp .ne 8, 3),
  (30, .bipush 65, 2), (32, .goto 12, 3), (35, .aload_n 0, 1), (36, .getfield 321, 3), (39, .getfield 458, 3), (42, .iload_n 2, 1), (43, .iaload, 1), (44, .ireturn, 1)]
def xm_81 : xrM := ((5, 1, ⟨"HexTemplates$Reader", "typeOf", "(I)I"⟩), (prog_7_method_27_code, 3, (some FieldType.int)), [], xc_81)
-- 82: HexTemplates$Reader.structureTold(I)I
def xc_82 : xrC := [(0, .iload_n 1, 1), (1, .ifCond .lt 9, 3), (4, .iload_n 1, 1), (5, .bipush 48, 2), (7, .if_icmp .lt 7, 3), (10, .iconst (-1), 1), (11, .goto 20, 3), (14, .aload_n 0, 1),
  (15, .getfield 321, 3), (18, .getfield 456, 3), (21, .aload_n 0, 1), (22, .getfield 321, 3), (25, .getfield 463, 3), (28, .iload_n 1, 1), (29, .iaload, 1), (30, .iaload, 1),
  (31, .ireturn, 1)]
def xm_82 : xrM := ((5, 1, ⟨"HexTemplates$Reader", "structureTold", "(I)I"⟩), (prog_7_method_28_code, 2, (some FieldType.int)), [], xc_82)
-- 83: HexTemplates$Reader.greatest(I)I
def xc_83 : xrC := [(0, .aload_n 0, 1), (1, .getfield 320, 3), (4, .iload_n 1, 1), (5, .invokevirtual 27, 3), (8, .ifCond .eq 15, 3), (11, .aload_n 0, 1), (12, .getfield 320, 3), (15, .getfield 198, 3),
  (18, .iload_n 1, 1), (19, .iaload, 1), (20, .goto 4, 3), (23, .iconst (-1), 1), (24, .istore_n 2, 1), (25, .iload_n 2, 1), (26, .iconst (-1), 1), (27, .if_icmp .ne 7, 3),
  (30, .iconst (-1), 1), (31, .goto 16, 3), (34, .iconst 1, 1), (35, .aload_n 0, 1), (36, .getfield 321, 3), (39, .getfield 459, 3), (42, .iload_n 2, 1), (43, .iaload, 1),
  (44, .ishl, 1), (45, .iconst 1, 1), (46, .isub, 1), (47, .ireturn, 1)]
def xm_83 : xrM := ((5, 1, ⟨"HexTemplates$Reader", "greatest", "(I)I"⟩), (prog_7_method_29_code, 3, (some FieldType.int)), [], xc_83)
-- 84: HexTemplates$Reader.shiftOf(I)I
def xc_84 : xrC := [(0, .aload_n 0, 1), (1, .iload_n 1, 1), (2, .invokevirtual 81, 3), (5, .bipush 110, 2), (7, .if_icmp .ne 23, 3), (10, .aload_n 0, 1), (11, .getfield 321, 3), (14, .getfield 460, 3),
  (17, .aload_n 0, 1), (18, .getfield 320, 3), (21, .getfield 198, 3), (24, .iload_n 1, 1), (25, .iaload, 1), (26, .iaload, 1), (27, .goto 4, 3), (30, .iconst 0, 1),
  (31, .ireturn, 1)]
def xm_84 : xrM := ((5, 1, ⟨"HexTemplates$Reader", "shiftOf", "(I)I"⟩), (prog_7_method_30_code, 2, (some FieldType.int)), [], xc_84)
-- 85: HexTemplates$Reader.isEndedByZero(I)Z
def xc_85 : xrC := [(0, .aload_n 0, 1), (1, .iload_n 1, 1), (2, .invokevirtual 81, 3), (5, .bipush 122, 2), (7, .if_icmp .ne 7, 3), (10, .iconst 1, 1), (11, .goto 4, 3), (14, .iconst 0, 1),
  (15, .ireturn, 1)]
def xm_85 : xrM := ((5, 1, ⟨"HexTemplates$Reader", "isEndedByZero", "(I)Z"⟩), (prog_7_method_31_code, 2, (some FieldType.boolean)), [], xc_85)
-- 86: HexTemplates$Reader.stringLength(I)I
def xc_86 : xrC := [(0, .aload_n 0, 1), (1, .getfield 320, 3), (4, .iload_n 1, 1), (5, .invokevirtual 27, 3), (8, .ifCond .eq 16, 3), (11, .aload_n 0, 1), (12, .getfield 320, 3), (15, .getfield 192, 3),
  (18, .iload_n 1, 1), (19, .iaload, 1), (20, .iconst 5, 1), (21, .if_icmp .eq 5, 3), (24, .iconst (-1), 1), (25, .ireturn, 1), (26, .aload_n 0, 1), (27, .iload_n 1, 1),
  (28, .invokevirtual 85, 3), (31, .ifCond .eq 17, 3), (34, .aload_n 0, 1), (35, .getfield 320, 3), (38, .getfield 195, 3), (41, .iload_n 1, 1), (42, .iaload, 1), (43, .iconst 1, 1),
  (44, .isub, 1), (45, .goto 12, 3), (48, .aload_n 0, 1), (49, .getfield 320, 3), (52, .getfield 195, 3), (55, .iload_n 1, 1), (56, .iaload, 1), (57, .ireturn, 1)]
def xm_86 : xrM := ((5, 1, ⟨"HexTemplates$Reader", "stringLength", "(I)I"⟩), (prog_7_method_32_code, 2, (some FieldType.int)), [], xc_86)
-- 87: HexTemplates$States.<init>()V
def xc_87 : xrC := [(0, .aload_n 0, 1), (1, .monitorexit, 3), (4, .aload_n 0, 1), (5, .sipush 4800, 3), (8, .newarray .int, 2), (10, .invokedynamic 384, 3), (13, .aload_n 0, 1), (14, .bipush 30, 2),
  (16, .newarray .int, 2), (18, .invokedynamic 385, 3), (21, .aload_n 0, 1), (22, .bipush 30, 2), (24, .newarray .int, 2), (26, .invokedynamic 386, 3), (29, .aload_n 0, 1), (30, .iconst 0, 1),
  (31, .putfield 387, 3), (34, .aload_n 0, 1), (35, .iconst (-1), 1), (36, .putfield 388, 3), (39, .return_, 1)]
def xm_87 : xrM := ((6, 0, ⟨"HexTemplates$States", "<init>", "()V"⟩), (prog_8_method_1_code, 1, (none)), [], xc_87)
-- 88: HexTemplates$States.isFull()Z
def xc_88 : xrC := [(0, .aload_n 0, 1), (1, .getfield 387, 3), (4, .bipush 30, 2), (6, .if_icmp .lt 7, 3), (9, .iconst 1, 1), (10, .goto 4, 3), (13, .iconst 0, 1), (14, .ireturn, 1)]
def xm_88 : xrM := ((6, 0, ⟨"HexTemplates$States", "isFull", "()Z"⟩), (prog_8_method_2_code, 1, (some FieldType.boolean)), [], xc_88)
-- 89: HexTemplates$States.has(I)Z
def xc_89 : xrC := [(0, .iload_n 1, 1), (1, .ifCond .lt 15, 3), (4, .iload_n 1, 1), (5, .aload_n 0, 1), (6, .getfield 387, 3), (9, .if_icmp .ge 7, 3), (12, .iconst 1, 1), (13, .goto 4, 3),
  (16, .iconst 0, 1), (17, .ireturn, 1)]
def xm_89 : xrM := ((6, 1, ⟨"HexTemplates$States", "has", "(I)Z"⟩), (prog_8_method_3_code, 2, (some FieldType.boolean)), [], xc_89)
-- 90: HexTemplates$States.parentOf(I)I
def xc_90 : xrC := [(0, .aload_n 0, 1), (1, .iload_n 1, 1), (2, .invokevirtual 89, 3), (5, .ifCond .eq 12, 3), (8, .aload_n 0, 1), (9, .getfield 386, 3), (12, .iload_n 1, 1), (13, .iaload, 1),
  (14, .goto 4, 3), (17, .iconst (-1), 1), (18, .ireturn, 1)]
def xm_90 : xrM := ((6, 1, ⟨"HexTemplates$States", "parentOf", "(I)I"⟩), (prog_8_method_4_code, 2, (some FieldType.int)), [], xc_90)
-- 91: HexTemplates$States.sizeOf(I)I
def xc_91 : xrC := [(0, .aload_n 0, 1), (1, .iload_n 1, 1), (2, .invokevirtual 89, 3), (5, .ifCond .eq 12, 3), (8, .aload_n 0, 1), (9, .getfield 385, 3), (12, .iload_n 1, 1), (13, .iaload, 1),
  (14, .goto 4, 3), (17, .iconst 0, 1), (18, .ireturn, 1)]
def xm_91 : xrM := ((6, 1, ⟨"HexTemplates$States", "sizeOf", "(I)I"⟩), (prog_8_method_5_code, 2, (some FieldType.int)), [], xc_91)
-- 92: HexTemplates$States.get(II)I
def xc_92 : xrC := [(0, .iload_n 2, 1), (1, .ifCond .lt 27, 3), (4, .iload_n 2, 1), (5, .aload_n 0, 1), (6, .iload_n 1, 1), (7, .invokevirtual 91, 3), (10, .if_icmp .ge 18, 3), (13, .aload_n 0, 1),
  (14, .getfield 384, 3), (17, .iload_n 1, 1), (18, .sipush 160, 3), (21, .imul, 1), (22, .iload_n 2, 1), (23, .iadd, 1), (24, .iaload, 1), (25, .goto 4, 3),
  (28, .iconst 0, 1), (29, .ireturn, 1)]
def xm_92 : xrM := ((6, 2, ⟨"HexTemplates$States", "get", "(II)I"⟩), (prog_8_method_6_code, 3, (some FieldType.int)), [], xc_92)
-- 93: HexTemplates$States.keep(LHexTemplates$Bytes;)I
def xc_93 : xrC := [(0, .aload_n 0, 1), (1, .invokevirtual 88, 3), (4, .ifCond .ne 13, 3), (7, .aload_n 1, 1), (8, .getfield 1, 3), (11, .sipush 160, 3), (14, .if_icmp .le 5, 3), (17, .iconst (-1), 1),
  (18, .ireturn, 1), (19, .aload_n 0, 1), (20, .getfield 385, 3), (23, .aload_n 0, 1), (24, .getfield 387, 3), (27, .aload_n 1, 1), (28, .getfield 1, 3), (31, .iastore, 1),
  (32, .aload_n 0, 1), (33, .getfield 386, 3), (36, .aload_n 0, 1), (37, .getfield 387, 3), (40, .aload_n 0, 1), (41, .getfield 388, 3), (44, .iastore, 1), (45, .iconst 0, 1),
  (46, .istore_n 2, 1), (47, .iload_n 2, 1), (48, .aload_n 1, 1), (49, .getfield 1, 3), (52, .if_icmp .ge 29, 3), (55, .aload_n 0, 1), (56, .getfield 384, 3), (59, .aload_n 0, 1),
  (60, .getfield 387, 3), (63, .sipush 160, 3), (66, .imul, 1), (67, .iload_n 2, 1), (68, .iadd, 1), (69, .aload_n 1, 1), (70, .iload_n 2, 1), (71, .invokevirtual 2, 3),
  (74, .iastore, 1), (75, .iinc 2 1, 3), (78, .goto (-31), 3), (81, .aload_n 0, 1), (82, .aload_n 0, 1), (83, .getfield 387, 3), (86, .putfield 388, 3), (89, .aload_n 0, 1),
  (90, .dup, 1), (91, .getfield 387, 3), (94, .iconst 1, 1), (95, .iadd, 1), (96, .putfield 387, 3), (99, .aload_n 0, 1), (100, .getfield 388, 3), (103, .ireturn, 1)]
def xm_93 : xrM := ((6, 1, ⟨"HexTemplates$States", "keep", "(LHexTemplates$Bytes;)I"⟩), (prog_8_method_7_code, 3, (some FieldType.int)), [], xc_93)
-- 94: HexTemplates$States.load(ILHexTemplates$Bytes;)V
def xc_94 : xrC := [(0, .aload_n 0, 1), (1, .iload_n 1, 1), (2, .invokevirtual 91, 3), (5, .istore_n 3, 1), (6, .aload_n 2, 1), (7, .iconst 0, 1), (8, .putfield 1, 3), (11, .iconst 0, 1),
  (12, .istore 4, 2), (14, .iload 4, 2), (16, .iload_n 3, 1), (17, .if_icmp .ge 20, 3), (20, .aload_n 2, 1), (21, .aload_n 0, 1), (22, .iload_n 1, 1), (23, .iload 4, 2),
  (25, .invokevirtual 92, 3), (28, .invokevirtual 4, 3), (31, .iinc 4 1, 3), (34, .goto (-20), 3), (37, .return_, 1)]
def xm_94 : xrM := ((6, 2, ⟨"HexTemplates$States", "load", "(ILHexTemplates$Bytes;)V"⟩), (prog_8_method_8_code, 5, (none)), [], xc_94)
-- 95: HexTemplates$Template.<init>()V
def xc_95 : xrC := [(0, .aload_n 0, 1), (1, .monitorexit, 3), (4, .aload_n 0, 1), (5, .iconst 0, 1), (6, .putfield 448, 3), (9, .aload_n 0, 1), (10, .iconst 0, 1), (11, .putfield 449, 3),
  (14, .aload_n 0, 1), (15, .iconst 0, 1), (16, .putfield 450, 3), (19, .aload_n 0, 1), (20, .iconst 0, 1), (21, .putfield 451, 3), (24, .aload_n 0, 1), (25, .bipush 6, 2),
  (27, .newarray .int, 2), (29, .invokedynamic 452, 3), (32, .aload_n 0, 1), (33, .bipush 6, 2), (35, .newarray .int, 2), (37, .invokedynamic 453, 3), (40, .aload_n 0, 1), (41, .bipush 100, 2),
  (43, .newarray .int, 2), (45, .invokedynamic 454, 3), (48, .aload_n 0, 1), (49, .bipush 100, 2), (51, .newarray .int, 2), (53, .invokedynamic 455, 3), (56, .aload_n 0, 1), (57, .bipush 100, 2),
  (59, .newarray .int, 2), (61, .invokedynamic 456, 3), (64, .aload_n 0, 1), (65, .bipush 48, 2), (67, .newarray .int, 2), (69, .invokedynamic 457, 3), (72, .aload_n 0, 1), (73, .bipush 48, 2),
  (75, .newarray .int, 2), (77, .invokedynamic 458, 3), (80, .aload_n 0, 1), (81, .bipush 48, 2), (83, .newarray .int, 2), (85, .invokedynamic 459, 3), (88, .aload_n 0, 1), (89, .bipush 48, 2),
  (91, .newarray .int, 2), (93, .invokedynamic 460, 3), (96, .aload_n 0, 1), (97, .bipush 48, 2), (99, .newarray .int, 2), (101, .invokedynamic 461, 3), (104, .aload_n 0, 1), (105, .bipush 48, 2),
  (107, .newarray .int, 2), (109, .invokedynamic 462, 3), (112, .aload_n 0, 1), (113, .bipush 48, 2), (115, .newarray .int, 2), (117, .invokedynamic 463, 3), (120, .aload_n 0, 1), (121, .bipush 48, 2),
  (123, .newarray .int, 2), (125, .invokedynamic 464, 3), (128, .aload_n 0, 1), (129, .bipush 48, 2), (131, .newarray .int, 2), (133, .invokedynamic 465, 3), (136, .aload_n 0, 1), (137, .bipush 48, 2),
  (139, .newarray .int, 2), (141, .invokedynamic 466, 3), (144, .aload_n 0, 1), (145, .bipush 48, 2), (147, .newarray .int, 2), (149, .invokedynamic 467, 3), (152, .aload_n 0, 1), (153, .bipush 48, 2),
  (155, .newarray .int, 2), (157, .invokedynamic 468, 3), (160, .return_, 1)]
def xm_95 : xrM := ((7, 0, ⟨"HexTemplates$Template", "<init>", "()V"⟩), (prog_9_method_1_code, 1, (none)), [], xc_95)
-- 96: HexTemplates$Template.clear()V
def xc_96 : xrC := [(0, .aload_n 0, 1), (1, .iconst 0, 1), (2, .putfield 449, 3), (5, .aload_n 0, 1), (6, .iconst 0, 1), (7, .putfield 450, 3), (10, .aload_n 0, 1), (11, .iconst 0, 1),
  (12, .putfield 451, 3), (15, .return_, 1)]
def xm_96 : xrM := ((7, 0, ⟨"HexTemplates$Template", "clear", "()V"⟩), (prog_9_method_2_code, 1, (none)), [], xc_96)
-- 97: HexTemplates$Template.structureNamed(I)I
def xc_97 : xrC := [(0, .iconst 0, 1), (1, .istore_n 2, 1), (2, .iload_n 2, 1), (3, .aload_n 0, 1), (4, .getfield 449, 3), (7, .if_icmp .ge 21, 3), (10, .aload_n 0, 1), (11, .getfield 452, 3),
  (14, .iload_n 2, 1), (15, .iaload, 1), (16, .iload_n 1, 1), (17, .if_icmp .ne 5, 3), (20, .iload_n 2, 1), (21, .ireturn, 1), (22, .iinc 2 1, 3), (25, .goto (-23), 3),
  (28, .iconst (-1), 1), (29, .ireturn, 1)]
def xm_97 : xrM := ((7, 1, ⟨"HexTemplates$Template", "structureNamed", "(I)I"⟩), (prog_9_method_3_code, 3, (some FieldType.int)), [], xc_97)
-- 98: HexTemplates$Template.placeOf(II)I
def xc_98 : xrC := [(0, .iconst 0, 1), (1, .istore_n 3, 1), (2, .iload_n 3, 1), (3, .aload_n 0, 1), (4, .getfield 453, 3), (7, .iload_n 1, 1), (8, .iaload, 1), (9, .if_icmp .ge 26, 3),
  (12, .aload_n 0, 1), (13, .getfield 457, 3), (16, .iload_n 1, 1), (17, .bipush 8, 2), (19, .imul, 1), (20, .iload_n 3, 1), (21, .iadd, 1), (22, .iaload, 1),
  (23, .iload_n 2, 1), (24, .if_icmp .ne 5, 3), (27, .iload_n 3, 1), (28, .ireturn, 1), (29, .iinc 3 1, 3), (32, .goto (-30), 3), (35, .iconst (-1), 1), (36, .ireturn, 1)]
def xm_98 : xrM := ((7, 2, ⟨"HexTemplates$Template", "placeOf", "(II)I"⟩), (prog_9_method_4_code, 4, (some FieldType.int)), [], xc_98)
-- 99: HexTemplates$Template.isNumeric(I)Z
def xc_99 : xrC := [(0, .aload_n 0, 1), (1, .getfield 458, 3), (4, .iload_n 1, 1), (5, .iaload, 1), (6, .istore_n 2, 1), (7, .aload_n 0, 1), (8, .iload_n 1, 1), (9, .invokevirtual 101, 3),
  (12, .ifCond .ne 15, 3), (15, .iload_n 2, 1), (16, .bipush 114, 2), (18, .if_icmp .eq 9, 3), (21, .iload_n 2, 1), (22, .bipush 110, 2), (24, .if_icmp .ne 7, 3), (27, .iconst 1, 1),
  (28, .goto 4, 3), (31, .iconst 0, 1), (32, .ireturn, 1)]
def xm_99 : xrM := ((7, 1, ⟨"HexTemplates$Template", "isNumeric", "(I)Z"⟩), (prog_9_method_5_code, 3, (some FieldType.boolean)), [], xc_99)
-- 100: HexTemplates$Template.kindOf(I)I
def xc_100 : xrC := [(0, .aload_n 0, 1), (1, .getfield 458, 3), (4, .iload_n 1, 1), (5, .iaload, 1), (6, .lookupswitch 48 #[(110, 44), (114, 46), (115, 42), (122, 42)], 42), (48, .iconst 5, 1), (49, .ireturn, 1), (50, .iconst 4, 1),
  (51, .ireturn, 1), (52, .iconst 3, 1), (53, .ireturn, 1), (54, .iconst 2, 1), (55, .ireturn, 1)]
def xm_100 : xrM := ((7, 1, ⟨"HexTemplates$Template", "kindOf", "(I)I"⟩), (prog_9_method_6_code, 2, (some FieldType.int)), [], xc_100)
-- 101: HexTemplates$Template.isRelatable(I)Z
def xc_101 : xrC := [(0, .aload_n 0, 1), (1, .getfield 458, 3), (4, .iload_n 1, 1), (5, .iaload, 1), (6, .istore_n 2, 1), (7, .iload_n 2, 1), (8, .bipush 98, 2), (10, .if_icmp .eq 15, 3),
  (13, .iload_n 2, 1), (14, .bipush 119, 2), (16, .if_icmp .eq 9, 3), (19, .iload_n 2, 1), (20, .bipush 87, 2), (22, .if_icmp .ne 7, 3), (25, .iconst 1, 1), (26, .goto 4, 3),
  (29, .iconst 0, 1), (30, .ireturn, 1)]
def xm_101 : xrM := ((7, 1, ⟨"HexTemplates$Template", "isRelatable", "(I)Z"⟩), (prog_9_method_7_code, 3, (some FieldType.boolean)), [], xc_101)
-- 102: HexTemplates$Template.addTerm(II)Z
def xc_102 : xrC := [(0, .aload_n 0, 1), (1, .getfield 450, 3), (4, .bipush 100, 2), (6, .if_icmp .lt 5, 3), (9, .iconst 0, 1), (10, .ireturn, 1), (11, .aload_n 0, 1), (12, .getfield 455, 3),
  (15, .aload_n 0, 1), (16, .getfield 450, 3), (19, .iload_n 1, 1), (20, .iastore, 1), (21, .aload_n 0, 1), (22, .getfield 454, 3), (25, .aload_n 0, 1), (26, .getfield 450, 3),
  (29, .iload_n 2, 1), (30, .iastore, 1), (31, .aload_n 0, 1), (32, .dup, 1), (33, .getfield 450, 3), (36, .iconst 1, 1), (37, .iadd, 1), (38, .putfield 450, 3),
  (41, .iconst 1, 1), (42, .ireturn, 1)]
def xm_102 : xrM := ((7, 2, ⟨"HexTemplates$Template", "addTerm", "(II)Z"⟩), (prog_9_method_8_code, 3, (some FieldType.boolean)), [], xc_102)
-- 103: HexTemplates$Template.addChoice(I)Z
def xc_103 : xrC := [(0, .aload_n 0, 1), (1, .getfield 451, 3), (4, .bipush 100, 2), (6, .if_icmp .lt 5, 3), (9, .iconst 0, 1), (10, .ireturn, 1), (11, .aload_n 0, 1), (12, .getfield 456, 3),
  (15, .aload_n 0, 1), (16, .getfield 451, 3), (19, .iload_n 1, 1), (20, .iastore, 1), (21, .aload_n 0, 1), (22, .dup, 1), (23, .getfield 451, 3), (26, .iconst 1, 1),
  (27, .iadd, 1), (28, .putfield 451, 3), (31, .iconst 1, 1), (32, .ireturn, 1)]
def xm_103 : xrM := ((7, 1, ⟨"HexTemplates$Template", "addChoice", "(I)Z"⟩), (prog_9_method_9_code, 2, (some FieldType.boolean)), [], xc_103)
-- 104: HexTemplates.<init>()V
def xc_104 : xrC := [(0, .aload_n 0, 1), (1, .monitorexit, 3), (4, .aload_n 0, 1), (5, .new 0, 3), (8, .dup, 1), (9, .sipush 200, 3), (12, .invokespecial 1, 3), (15, .invokedynamic 512, 3),
  (18, .aload_n 0, 1), (19, .new 0, 3), (22, .dup, 1), (23, .sipush 160, 3), (26, .invokespecial 1, 3), (29, .invokedynamic 513, 3), (32, .aload_n 0, 1), (33, .new 4, 3),
  (36, .dup, 1), (37, .invokespecial 35, 3), (40, .invokedynamic 514, 3), (43, .aload_n 0, 1), (44, .iconst 4, 1), (45, .anewarray 7, 3), (48, .invokedynamic 515, 3), (51, .aload_n 0, 1),
  (52, .new 6, 3), (55, .dup, 1), (56, .invokespecial 87, 3), (59, .invokedynamic 516, 3), (62, .aload_n 0, 1), (63, .new 5, 3), (66, .dup, 1), (67, .invokespecial 55, 3),
  (70, .invokedynamic 517, 3), (73, .aload_n 0, 1), (74, .new 5, 3), (77, .dup, 1), (78, .invokespecial 55, 3), (81, .invokedynamic 518, 3), (84, .aload_n 0, 1), (85, .new 1, 3),
  (88, .dup, 1), (89, .invokespecial 9, 3), (92, .invokedynamic 519, 3), (95, .aload_n 0, 1), (96, .new 2, 3), (99, .dup, 1), (100, .invokespecial 21, 3), (103, .invokedynamic 520, 3),
  (106, .aload_n 0, 1), (107, .sipush 1536, 3), (110, .newarray .boolean, 2), (112, .invokedynamic 521, 3), (115, .aload_n 0, 1), (116, .iconst 0, 1), (117, .putfield 522, 3), (120, .aload_n 0, 1),
  (121, .bipush (-3), 2), (123, .putfield 523, 3), (126, .return_, 1)]
def xm_104 : xrM := ((8, 0, ⟨"HexTemplates", "<init>", "()V"⟩), (prog_1_method_1_code, 1, (none)), [], xc_104)
-- 105: HexTemplates.feed(JI)I
def xc_105 : xrC := [(0, .iload_n 3, 1), (1, .iconst 1, 1), (2, .if_icmp .lt 9, 3), (5, .iload_n 3, 1), (6, .bipush 8, 2), (8, .if_icmp .le 13, 3), (11, .multianewarray 0 0, 3), (21, .aload_n 0, 1),
  (22, .getfield 512, 3), (25, .getfield 1, 3), (28, .iload_n 3, 1), (29, .iadd, 1), (30, .sipush 200, 3), (33, .if_icmp .le 13, 3), (36, .multianewarray 1 0, 3), (46, .iconst 0, 1),
  (47, .istore 4, 2), (49, .iload 4, 2), (51, .iload_n 3, 1), (52, .if_icmp .ge 28, 3), (55, .aload_n 0, 1), (56, .getfield 512, 3), (59, .lload_n 1, 1), (60, .bipush 8, 2),
  (62, .iload 4, 2), (64, .imul, 1), (65, .lushr, 1), (66, .l2i, 1), (67, .sipush 255, 3), (70, .iand, 1), (71, .invokevirtual 4, 3), (74, .iinc 4 1, 3),
  (77, .goto (-28), 3), (80, .aload_n 0, 1), (81, .getfield 512, 3), (84, .getfield 1, 3), (87, .ireturn, 1)]
def xm_105 : xrM := ((8, 2, ⟨"HexTemplates", "feed", "(JI)I"⟩), (prog_1_method_2_code, 5, (some FieldType.int)), [], xc_105)
-- 106: HexTemplates.give()I
def xc_106 : xrC := [(0, .aload_n 0, 1), (1, .getfield 512, 3), (4, .getfield 1, 3), (7, .sipush 160, 3), (10, .if_icmp .gt 17, 3), (13, .aload_n 0, 1), (14, .getfield 516, 3), (17, .invokevirtual 88, 3),
  (20, .ifCond .ne 7, 3), (23, .iconst 1, 1), (24, .goto 4, 3), (27, .iconst 0, 1), (28, .istore_n 1, 1), (29, .iload_n 1, 1), (30, .ifCond .eq 14, 3), (33, .aload_n 0, 1),
  (34, .getfield 513, 3), (37, .aload_n 0, 1), (38, .getfield 512, 3), (41, .invokevirtual 5, 3), (44, .aload_n 0, 1), (45, .getfield 512, 3), (48, .iconst 0, 1), (49, .putfield 1, 3),
  (52, .iload_n 1, 1), (53, .ifCond .ne 13, 3), (56, .multianewarray 1 0, 3), (66, .aload_n 0, 1), (67, .invokevirtual 131, 3), (70, .ireturn, 1)]
def xm_106 : xrM := ((8, 0, ⟨"HexTemplates", "give", "()I"⟩), (prog_1_method_3_code, 2, (some FieldType.int)), [], xc_106)
-- 107: HexTemplates.template(I)I
def xc_107 : xrC := [(0, .iload_n 1, 1), (1, .ifCond .lt 9, 3), (4, .iload_n 1, 1), (5, .bipush 9, 2), (7, .if_icmp .le 13, 3), (10, .multianewarray 0 0, 3), (20, .aload_n 0, 1), (21, .invokevirtual 130, 3),
  (24, .astore_n 2, 1), (25, .aload_n 2, 1), (26, .ifnull 22, 3), (29, .aload_n 0, 1), (30, .getfield 514, 3), (33, .aload_n 0, 1), (34, .getfield 512, 3), (37, .aload_n 2, 1),
  (38, .invokevirtual 36, 3), (41, .ifCond .eq 7, 3), (44, .iconst 1, 1), (45, .goto 4, 3), (48, .iconst 0, 1), (49, .istore_n 3, 1), (50, .aload_n 0, 1), (51, .getfield 512, 3),
  (54, .iconst 0, 1), (55, .putfield 1, 3), (58, .iload_n 3, 1), (59, .ifCond .ne 13, 3), (62, .multianewarray 1 0, 3), (72, .aload_n 2, 1), (73, .iload_n 1, 1), (74, .putfield 448, 3),
  (77, .aload_n 0, 1), (78, .bipush (-3), 2), (80, .putfield 523, 3), (83, .aload_n 0, 1), (84, .dup, 1), (85, .getfield 522, 3), (88, .iconst 1, 1), (89, .iadd, 1),
  (90, .putfield 522, 3), (93, .aload_n 0, 1), (94, .getfield 522, 3), (97, .iconst 1, 1), (98, .isub, 1), (99, .ireturn, 1)]
def xm_107 : xrM := ((8, 1, ⟨"HexTemplates", "template", "(I)I"⟩), (prog_1_method_4_code, 4, (some FieldType.int)), [], xc_107)
-- 108: HexTemplates.size()I
def xc_108 : xrC := [(0, .aload_n 0, 1), (1, .getfield 513, 3), (4, .getfield 1, 3), (7, .ireturn, 1)]
def xm_108 : xrM := ((8, 0, ⟨"HexTemplates", "size", "()I"⟩), (prog_1_method_5_code, 1, (some FieldType.int)), [], xc_108)
-- 109: HexTemplates.byteAt(I)I
def xc_109 : xrC := [(0, .iload_n 1, 1), (1, .ifCond .lt 14, 3), (4, .iload_n 1, 1), (5, .aload_n 0, 1), (6, .getfield 513, 3), (9, .getfield 1, 3), (12, .if_icmp .lt 13, 3), (15, .multianewarray 2 0, 3),
  (25, .aload_n 0, 1), (26, .getfield 513, 3), (29, .iload_n 1, 1), (30, .invokevirtual 2, 3), (33, .ireturn, 1)]
def xm_109 : xrM := ((8, 1, ⟨"HexTemplates", "byteAt", "(I)I"⟩), (prog_1_method_6_code, 2, (some FieldType.int)), [], xc_109)
-- 110: HexTemplates.state()I
def xc_110 : xrC := [(0, .aload_n 0, 1), (1, .getfield 516, 3), (4, .getfield 388, 3), (7, .ireturn, 1)]
def xm_110 : xrM := ((8, 0, ⟨"HexTemplates", "state", "()I"⟩), (prog_1_method_7_code, 1, (some FieldType.int)), [], xc_110)
-- 111: HexTemplates.parent(I)I
def xc_111 : xrC := [(0, .aload_n 0, 1), (1, .iload_n 1, 1), (2, .invokevirtual 134, 3), (5, .aload_n 0, 1), (6, .getfield 516, 3), (9, .iload_n 1, 1), (10, .invokevirtual 90, 3), (13, .ireturn, 1)]
def xm_111 : xrM := ((8, 1, ⟨"HexTemplates", "parent", "(I)I"⟩), (prog_1_method_8_code, 2, (some FieldType.int)), [], xc_111)
-- 112: HexTemplates.goTo(I)I
def xc_112 : xrC := [(0, .aload_n 0, 1), (1, .iload_n 1, 1), (2, .invokevirtual 134, 3), (5, .aload_n 0, 1), (6, .getfield 516, 3), (9, .iload_n 1, 1), (10, .putfield 388, 3), (13, .aload_n 0, 1),
  (14, .getfield 516, 3), (17, .iload_n 1, 1), (18, .aload_n 0, 1), (19, .getfield 513, 3), (22, .invokevirtual 94, 3), (25, .aload_n 0, 1), (26, .bipush (-3), 2), (28, .putfield 523, 3),
  (31, .aload_n 0, 1), (32, .getfield 513, 3), (35, .getfield 1, 3), (38, .ireturn, 1)]
def xm_112 : xrM := ((8, 1, ⟨"HexTemplates", "goTo", "(I)I"⟩), (prog_1_method_9_code, 2, (some FieldType.int)), [], xc_112)
-- 113: HexTemplates.chosen()I
def xc_113 : xrC := [(0, .aload_n 0, 1), (1, .invokevirtual 133, 3), (4, .aload_n 0, 1), (5, .getfield 523, 3), (8, .ireturn, 1)]
def xm_113 : xrM := ((8, 0, ⟨"HexTemplates", "chosen", "()I"⟩), (prog_1_method_10_code, 1, (some FieldType.int)), [], xc_113)
-- 114: HexTemplates.fault(IZ)I
def xc_114 : xrC := [(0, .iload_n 1, 1), (1, .ifCond .lt 11, 3), (4, .iload_n 1, 1), (5, .aload_n 0, 1), (6, .getfield 522, 3), (9, .if_icmp .lt 13, 3), (12, .multianewarray 2 0, 3), (22, .aload_n 0, 1),
  (23, .getfield 518, 3), (26, .aload_n 0, 1), (27, .getfield 515, 3), (30, .iload_n 1, 1), (31, .aaload, 1), (32, .aload_n 0, 1), (33, .getfield 513, 3), (36, .iconst 0, 1),
  (37, .iconst 0, 1), (38, .invokevirtual 56, 3), (41, .pop, 1), (42, .iload_n 2, 1), (43, .ifCond .eq 13, 3), (46, .aload_n 0, 1), (47, .getfield 518, 3), (50, .getfield 326, 3),
  (53, .goto 10, 3), (56, .aload_n 0, 1), (57, .getfield 518, 3), (60, .getfield 325, 3), (63, .ireturn, 1)]
def xm_114 : xrM := ((8, 2, ⟨"HexTemplates", "fault", "(IZ)I"⟩), (prog_1_method_11_code, 3, (some FieldType.int)), [], xc_114)
-- 115: HexTemplates.nodes()I
def xc_115 : xrC := [(0, .aload_n 0, 1), (1, .invokevirtual 133, 3), (4, .aload_n 0, 1), (5, .getfield 517, 3), (8, .getfield 320, 3), (11, .getfield 199, 3), (14, .ireturn, 1)]
def xm_115 : xrM := ((8, 0, ⟨"HexTemplates", "nodes", "()I"⟩), (prog_1_method_12_code, 1, (some FieldType.int)), [], xc_115)
-- 116: HexTemplates.node(II)I
def xc_116 : xrC := [(0, .aload_n 0, 1), (1, .iload_n 1, 1), (2, .invokevirtual 135, 3), (5, .iload_n 2, 1), (6, .ifCond .lt 9, 3), (9, .iload_n 2, 1), (10, .bipush 6, 2), (12, .if_icmp .le 13, 3),
  (15, .multianewarray 0 0, 3), (25, .aload_n 0, 1), (26, .getfield 517, 3), (29, .getfield 320, 3), (32, .astore_n 3, 1), (33, .iload_n 2, 1), (34, .tableswitch 80 0 5 #[38, 45, 52, 59, 66, 73], 38), (72, .aload_n 3, 1),
  (73, .getfield 192, 3), (76, .iload_n 1, 1), (77, .iaload, 1), (78, .ireturn, 1), (79, .aload_n 3, 1), (80, .getfield 193, 3), (83, .iload_n 1, 1), (84, .iaload, 1),
  (85, .ireturn, 1), (86, .aload_n 3, 1), (87, .getfield 194, 3), (90, .iload_n 1, 1), (91, .iaload, 1), (92, .ireturn, 1), (93, .aload_n 3, 1), (94, .getfield 195, 3),
  (97, .iload_n 1, 1), (98, .iaload, 1), (99, .ireturn, 1), (100, .aload_n 3, 1), (101, .getfield 196, 3), (104, .iload_n 1, 1), (105, .iaload, 1), (106, .ireturn, 1),
  (107, .aload_n 3, 1), (108, .getfield 197, 3), (111, .iload_n 1, 1), (112, .iaload, 1), (113, .ireturn, 1), (114, .aload_n 0, 1), (115, .getfield 517, 3), (118, .iload_n 1, 1),
  (119, .invokevirtual 79, 3), (122, .ifCond .eq 7, 3), (125, .iconst 1, 1), (126, .goto 4, 3), (129, .iconst 0, 1), (130, .ireturn, 1)]
def xm_116 : xrM := ((8, 2, ⟨"HexTemplates", "node", "(II)I"⟩), (prog_1_method_13_code, 4, (some FieldType.int)), [], xc_116)
-- 117: HexTemplates.wrong()I
def xc_117 : xrC := [(0, .aload_n 0, 1), (1, .invokevirtual 133, 3), (4, .aload_n 0, 1), (5, .getfield 517, 3), (8, .invokevirtual 80, 3), (11, .ireturn, 1)]
def xm_117 : xrM := ((8, 0, ⟨"HexTemplates", "wrong", "()I"⟩), (prog_1_method_14_code, 1, (some FieldType.int)), [], xc_117)
-- 118: HexTemplates.wrongByAll()I
def xc_118 : xrC := [(0, .aload_n 0, 1), (1, .invokevirtual 133, 3), (4, .aload_n 0, 1), (5, .getfield 518, 3), (8, .aload_n 0, 1), (9, .invokevirtual 132, 3), (12, .aload_n 0, 1), (13, .getfield 513, 3),
  (16, .iconst 0, 1), (17, .iconst 0, 1), (18, .invokevirtual 56, 3), (21, .ifCond .eq 13, 3), (24, .aload_n 0, 1), (25, .getfield 518, 3), (28, .getfield 327, 3), (31, .goto 4, 3),
  (34, .iconst 0, 1), (35, .ireturn, 1)]
def xm_118 : xrM := ((8, 0, ⟨"HexTemplates", "wrongByAll", "()I"⟩), (prog_1_method_15_code, 1, (some FieldType.int)), [], xc_118)
-- 119: HexTemplates.follow(I)I
def xc_119 : xrC := [(0, .aload_n 0, 1), (1, .iload_n 1, 1), (2, .invokevirtual 135, 3), (5, .aload_n 0, 1), (6, .iload_n 1, 1), (7, .invokevirtual 136, 3), (10, .aload_n 0, 1), (11, .invokevirtual 132, 3),
  (14, .astore_n 2, 1), (15, .aload_n 0, 1), (16, .getfield 517, 3), (19, .aload_n 0, 1), (20, .getfield 517, 3), (23, .getfield 320, 3), (26, .getfield 198, 3), (29, .iload_n 1, 1),
  (30, .iaload, 1), (31, .invokevirtual 82, 3), (34, .istore_n 3, 1), (35, .aload_n 0, 1), (36, .getfield 517, 3), (39, .getfield 320, 3), (42, .getfield 196, 3), (45, .iload_n 1, 1),
  (46, .iaload, 1), (47, .istore 4, 2), (49, .aload_n 0, 1), (50, .getfield 518, 3), (53, .aload_n 2, 1), (54, .aload_n 0, 1), (55, .getfield 513, 3), (58, .iload_n 3, 1),
  (59, .iload 4, 2), (61, .invokevirtual 56, 3), (64, .ifCond .eq 16, 3), (67, .aload_n 0, 1), (68, .getfield 518, 3), (71, .getfield 323, 3), (74, .iload 4, 2), (76, .isub, 1),
  (77, .goto 4, 3), (80, .iconst (-1), 1), (81, .ireturn, 1)]
def xm_119 : xrM := ((8, 1, ⟨"HexTemplates", "follow", "(I)I"⟩), (prog_1_method_16_code, 5, (some FieldType.int)), [], xc_119)
-- 120: HexTemplates.chain(I)I
def xc_120 : xrC := [(0, .aload_n 0, 1), (1, .iload_n 1, 1), (2, .invokevirtual 135, 3), (5, .aload_n 0, 1), (6, .iload_n 1, 1), (7, .invokevirtual 136, 3), (10, .aload_n 0, 1), (11, .invokevirtual 132, 3),
  (14, .astore_n 2, 1), (15, .aload_n 0, 1), (16, .getfield 517, 3), (19, .aload_n 0, 1), (20, .getfield 517, 3), (23, .getfield 320, 3), (26, .getfield 198, 3), (29, .iload_n 1, 1),
  (30, .iaload, 1), (31, .invokevirtual 82, 3), (34, .istore_n 3, 1), (35, .aload_n 0, 1), (36, .getfield 517, 3), (39, .getfield 320, 3), (42, .getfield 196, 3), (45, .iload_n 1, 1),
  (46, .iaload, 1), (47, .istore 4, 2), (49, .aload_n 0, 1), (50, .invokevirtual 141, 3), (53, .iconst 0, 1), (54, .istore 5, 2), (56, .iconst 0, 1), (57, .istore 6, 2),
  (59, .iload 6, 2), (61, .aload_n 0, 1), (62, .getfield 521, 3), (65, .arraylength, 1), (66, .if_icmp .ge 104, 3), (69, .aload_n 0, 1), (70, .iload_n 3, 1), (71, .iload 4, 2),
  (73, .invokevirtual 142, 3), (76, .ifCond .eq 6, 3), (79, .bipush (-2), 2), (81, .ireturn, 1), (82, .aload_n 0, 1), (83, .getfield 518, 3), (86, .aload_n 2, 1), (87, .aload_n 0, 1),
  (88, .getfield 513, 3), (91, .iload_n 3, 1), (92, .iload 4, 2), (94, .invokevirtual 56, 3), (97, .ifCond .ne 6, 3), (100, .iload 5, 2), (102, .ireturn, 1), (103, .iinc 5 1, 3),
  (106, .aload_n 0, 1), (107, .getfield 518, 3), (110, .getfield 320, 3), (113, .iconst 0, 1), (114, .invokevirtual 32, 3), (117, .istore 7, 2), (119, .iload 7, 2), (121, .iconst (-1), 1),
  (122, .if_icmp .ne 6, 3), (125, .iload 5, 2), (127, .ireturn, 1), (128, .aload_n 0, 1), (129, .getfield 518, 3), (132, .aload_n 0, 1), (133, .getfield 518, 3), (136, .getfield 320, 3),
  (139, .getfield 198, 3), (142, .iload 7, 2), (144, .iaload, 1), (145, .invokevirtual 82, 3), (148, .istore_n 3, 1), (149, .aload_n 0, 1), (150, .getfield 518, 3), (153, .getfield 320, 3),
  (156, .getfield 196, 3), (159, .iload 7, 2), (161, .iaload, 1), (162, .istore 4, 2), (164, .iinc 6 1, 3), (167, .goto (-108), 3), (170, .bipush (-2), 2), (172, .ireturn, 1)]
def xm_120 : xrM := ((8, 1, ⟨"HexTemplates", "chain", "(I)I"⟩), (prog_1_method_17_code, 8, (some FieldType.int)), [], xc_120)
-- 121: HexTemplates.find(III)I
def xc_121 : xrC := [(0, .iload_n 1, 1), (1, .ifCond .lt 32, 3), (4, .iload_n 1, 1), (5, .sipush 255, 3), (8, .if_icmp .gt 25, 3), (11, .iload_n 2, 1), (12, .ifCond .lt 21, 3), (15, .iload_n 2, 1),
  (16, .sipush 255, 3), (19, .if_icmp .gt 14, 3), (22, .iload_n 3, 1), (23, .ifCond .lt 10, 3), (26, .iload_n 3, 1), (27, .sipush 200, 3), (30, .if_icmp .le 13, 3), (33, .multianewarray 0 0, 3),
  (43, .iload_n 3, 1), (44, .istore 4, 2), (46, .iload 4, 2), (48, .aload_n 0, 1), (49, .getfield 513, 3), (52, .getfield 1, 3), (55, .if_icmp .ge 29, 3), (58, .aload_n 0, 1),
  (59, .getfield 513, 3), (62, .iload 4, 2), (64, .invokevirtual 2, 3), (67, .iload_n 2, 1), (68, .iand, 1), (69, .iload_n 1, 1), (70, .iload_n 2, 1), (71, .iand, 1),
  (72, .if_icmp .ne 6, 3), (75, .iload 4, 2), (77, .ireturn, 1), (78, .iinc 4 1, 3), (81, .goto (-35), 3), (84, .iconst (-1), 1), (85, .ireturn, 1)]
def xm_121 : xrM := ((8, 3, ⟨"HexTemplates", "find", "(III)I"⟩), (prog_1_method_18_code, 5, (some FieldType.int)), [], xc_121)
-- 122: HexTemplates.findField(III)I
def xc_122 : xrC := [(0, .iload_n 1, 1), (1, .ifCond .lt 30, 3), (4, .iload_n 1, 1), (5, .bipush 26, 2), (7, .if_icmp .ge 24, 3), (10, .iload_n 2, 1), (11, .ifCond .lt 20, 3), (14, .iload_n 2, 1),
  (15, .jsr_w 65535, 2), (17, .if_icmp .gt 14, 3), (20, .iload_n 3, 1), (21, .ifCond .lt 10, 3), (24, .iload_n 3, 1), (25, .sipush 200, 3), (28, .if_icmp .le 13, 3), (31, .multianewarray 0 0, 3),
  (41, .aload_n 0, 1), (42, .invokevirtual 133, 3), (45, .aload_n 0, 1), (46, .getfield 517, 3), (49, .getfield 320, 3), (52, .astore 4, 2), (54, .iload_n 3, 1), (55, .istore 5, 2),
  (57, .iload 5, 2), (59, .aload 4, 2), (61, .getfield 199, 3), (64, .if_icmp .ge 46, 3), (67, .aload 4, 2), (69, .iload 5, 2), (71, .invokevirtual 30, 3), (74, .ifCond .eq 30, 3),
  (77, .aload 4, 2), (79, .getfield 193, 3), (82, .iload 5, 2), (84, .iaload, 1), (85, .iload_n 1, 1), (86, .if_icmp .ne 18, 3), (89, .aload 4, 2), (91, .getfield 196, 3),
  (94, .iload 5, 2), (96, .iaload, 1), (97, .iload_n 2, 1), (98, .if_icmp .ne 6, 3), (101, .iload 5, 2), (103, .ireturn, 1), (104, .iinc 5 1, 3), (107, .goto (-50), 3),
  (110, .iconst (-1), 1), (111, .ireturn, 1)]
def xm_122 : xrM := ((8, 3, ⟨"HexTemplates", "findField", "(III)I"⟩), (prog_1_method_19_code, 6, (some FieldType.int)), [], xc_122)
-- 123: HexTemplates.set(II)I
def xc_123 : xrC := [(0, .aload_n 0, 1), (1, .iload_n 1, 1), (2, .invokevirtual 135, 3), (5, .aload_n 0, 1), (6, .iload_n 1, 1), (7, .invokevirtual 139, 3), (10, .ifCond .eq 19, 3), (13, .iload_n 2, 1),
  (14, .ifCond .lt 15, 3), (17, .iload_n 2, 1), (18, .aload_n 0, 1), (19, .getfield 517, 3), (22, .iload_n 1, 1), (23, .invokevirtual 83, 3), (26, .if_icmp .le 13, 3), (29, .multianewarray 1 0, 3),
  (39, .aload_n 0, 1), (40, .getfield 519, 3), (43, .aload_n 0, 1), (44, .getfield 513, 3), (47, .invokevirtual 10, 3), (50, .aload_n 0, 1), (51, .getfield 519, 3), (54, .aload_n 0, 1),
  (55, .getfield 517, 3), (58, .iload_n 1, 1), (59, .iload_n 2, 1), (60, .invokevirtual 11, 3), (63, .aload_n 0, 1), (64, .invokevirtual 140, 3), (67, .ireturn, 1)]
def xm_123 : xrM := ((8, 2, ⟨"HexTemplates", "set", "(II)I"⟩), (prog_1_method_20_code, 3, (some FieldType.int)), [], xc_123)
-- 124: HexTemplates.insert(III)I
def xc_124 : xrC := [(0, .aload_n 0, 1), (1, .iload_n 1, 1), (2, .invokevirtual 135, 3), (5, .iload_n 3, 1), (6, .ifCond .lt 10, 3), (9, .iload_n 3, 1), (10, .sipush 255, 3), (13, .if_icmp .le 13, 3),
  (16, .multianewarray 0 0, 3), (26, .aload_n 0, 1), (27, .iload_n 2, 1), (28, .aload_n 0, 1), (29, .getfield 517, 3), (32, .iload_n 1, 1), (33, .invokevirtual 86, 3), (36, .invokevirtual 137, 3),
  (39, .iload_n 3, 1), (40, .ifCond .ne 25, 3), (43, .aload_n 0, 1), (44, .getfield 517, 3), (47, .iload_n 1, 1), (48, .invokevirtual 85, 3), (51, .ifCond .eq 14, 3), (54, .multianewarray 1 1, 3),
  (65, .aload_n 0, 1), (66, .getfield 517, 3), (69, .getfield 320, 3), (72, .getfield 194, 3), (75, .iload_n 1, 1), (76, .iaload, 1), (77, .iload_n 2, 1), (78, .iadd, 1),
  (79, .istore 4, 2), (81, .aload_n 0, 1), (82, .getfield 519, 3), (85, .aload_n 0, 1), (86, .getfield 513, 3), (89, .invokevirtual 10, 3), (92, .aload_n 0, 1), (93, .getfield 519, 3),
  (96, .aload_n 0, 1), (97, .getfield 517, 3), (100, .iload_n 1, 1), (101, .iload 4, 2), (103, .iconst 1, 1), (104, .invokevirtual 12, 3), (107, .istore 5, 2), (109, .aload_n 0, 1),
  (110, .getfield 519, 3), (113, .getfield 64, 3), (116, .iload 4, 2), (118, .iload_n 3, 1), (119, .invokevirtual 3, 3), (122, .aload_n 0, 1), (123, .iload 5, 2), (125, .invokevirtual 138, 3),
  (128, .aload_n 0, 1), (129, .invokevirtual 140, 3), (132, .ireturn, 1)]
def xm_124 : xrM := ((8, 3, ⟨"HexTemplates", "insert", "(III)I"⟩), (prog_1_method_21_code, 6, (some FieldType.int)), [], xc_124)
-- 125: HexTemplates.remove(II)I
def xc_125 : xrC := [(0, .aload_n 0, 1), (1, .iload_n 1, 1), (2, .invokevirtual 135, 3), (5, .aload_n 0, 1), (6, .iload_n 2, 1), (7, .aload_n 0, 1), (8, .getfield 517, 3), (11, .iload_n 1, 1),
  (12, .invokevirtual 86, 3), (15, .iconst 1, 1), (16, .isub, 1), (17, .invokevirtual 137, 3), (20, .aload_n 0, 1), (21, .getfield 519, 3), (24, .aload_n 0, 1), (25, .getfield 513, 3),
  (28, .invokevirtual 10, 3), (31, .aload_n 0, 1), (32, .getfield 519, 3), (35, .aload_n 0, 1), (36, .getfield 517, 3), (39, .iload_n 1, 1), (40, .aload_n 0, 1), (41, .getfield 517, 3),
  (44, .getfield 320, 3), (47, .getfield 194, 3), (50, .iload_n 1, 1), (51, .iaload, 1), (52, .iload_n 2, 1), (53, .iadd, 1), (54, .iconst 1, 1), (55, .invokevirtual 13, 3),
  (58, .aload_n 0, 1), (59, .invokevirtual 140, 3), (62, .ireturn, 1)]
def xm_125 : xrM := ((8, 2, ⟨"HexTemplates", "remove", "(II)I"⟩), (prog_1_method_22_code, 3, (some FieldType.int)), [], xc_125)
-- 126: HexTemplates.element(IIZ)I
def xc_126 : xrC := [(0, .aload_n 0, 1), (1, .iload_n 1, 1), (2, .invokevirtual 135, 3), (5, .aload_n 0, 1), (6, .getfield 517, 3), (9, .getfield 320, 3), (12, .iload_n 1, 1), (13, .iload_n 2, 1),
  (14, .invokevirtual 33, 3), (17, .istore 4, 2), (19, .aload_n 0, 1), (20, .iload 4, 2), (22, .iconst (-1), 1), (23, .if_icmp .eq 7, 3), (26, .iconst 1, 1), (27, .goto 4, 3),
  (30, .iconst 0, 1), (31, .invokevirtual 138, 3), (34, .aload_n 0, 1), (35, .getfield 517, 3), (38, .getfield 320, 3), (41, .getfield 194, 3), (44, .iload 4, 2), (46, .iaload, 1),
  (47, .istore 5, 2), (49, .aload_n 0, 1), (50, .getfield 517, 3), (53, .getfield 320, 3), (56, .getfield 195, 3), (59, .iload 4, 2), (61, .iaload, 1), (62, .istore 6, 2),
  (64, .aload_n 0, 1), (65, .getfield 519, 3), (68, .aload_n 0, 1), (69, .getfield 513, 3), (72, .invokevirtual 10, 3), (75, .iload_n 3, 1), (76, .ifCond .eq 47, 3), (79, .aload_n 0, 1),
  (80, .getfield 519, 3), (83, .aload_n 0, 1), (84, .getfield 517, 3), (87, .iload_n 1, 1), (88, .iload 5, 2), (90, .iload 6, 2), (92, .iadd, 1), (93, .iload 6, 2),
  (95, .invokevirtual 12, 3), (98, .istore 7, 2), (100, .aload_n 0, 1), (101, .iload 7, 2), (103, .invokevirtual 138, 3), (106, .aload_n 0, 1), (107, .getfield 519, 3), (110, .getfield 64, 3),
  (113, .iload 5, 2), (115, .iload 6, 2), (117, .invokevirtual 8, 3), (120, .goto 19, 3), (123, .aload_n 0, 1), (124, .getfield 519, 3), (127, .aload_n 0, 1), (128, .getfield 517, 3),
  (131, .iload_n 1, 1), (132, .iload 5, 2), (134, .iload 6, 2), (136, .invokevirtual 13, 3), (139, .aload_n 0, 1), (140, .invokevirtual 140, 3), (143, .ireturn, 1)]
def xm_126 : xrM := ((8, 3, ⟨"HexTemplates", "element", "(IIZ)I"⟩), (prog_1_method_23_code, 8, (some FieldType.int)), [], xc_126)
-- 127: HexTemplates.repair()I
def xc_127 : xrC := [(0, .aload_n 0, 1), (1, .invokevirtual 133, 3), (4, .aload_n 0, 1), (5, .getfield 519, 3), (8, .aload_n 0, 1), (9, .getfield 513, 3), (12, .invokevirtual 10, 3), (15, .aload_n 0, 1),
  (16, .invokevirtual 140, 3), (19, .ireturn, 1)]
def xm_127 : xrM := ((8, 0, ⟨"HexTemplates", "repair", "()I"⟩), (prog_1_method_24_code, 1, (some FieldType.int)), [], xc_127)
-- 128: HexTemplates.hunk(III)I
def xc_128 : xrC := [(0, .aload_n 0, 1), (1, .iload_n 1, 1), (2, .invokevirtual 134, 3), (5, .aload_n 0, 1), (6, .iload_n 2, 1), (7, .invokevirtual 134, 3), (10, .iload_n 3, 1), (11, .ifCond .lt 8, 3),
  (14, .iload_n 3, 1), (15, .iconst 2, 1), (16, .if_icmp .le 13, 3), (19, .multianewarray 0 0, 3), (29, .aload_n 0, 1), (30, .getfield 520, 3), (33, .aload_n 0, 1), (34, .getfield 516, 3),
  (37, .iload_n 1, 1), (38, .iload_n 2, 1), (39, .invokevirtual 22, 3), (42, .iload_n 3, 1), (43, .ifCond .ne 13, 3), (46, .aload_n 0, 1), (47, .getfield 520, 3), (50, .getfield 128, 3),
  (53, .goto 25, 3), (56, .iload_n 3, 1), (57, .iconst 1, 1), (58, .if_icmp .ne 13, 3), (61, .aload_n 0, 1), (62, .getfield 520, 3), (65, .getfield 129, 3), (68, .goto 10, 3),
  (71, .aload_n 0, 1), (72, .getfield 520, 3), (75, .getfield 130, 3), (78, .ireturn, 1)]
def xm_128 : xrM := ((8, 3, ⟨"HexTemplates", "hunk", "(III)I"⟩), (prog_1_method_25_code, 4, (some FieldType.int)), [], xc_128)
-- 129: HexTemplates.patch(II)I
def xc_129 : xrC := [(0, .aload_n 0, 1), (1, .iload_n 1, 1), (2, .invokevirtual 134, 3), (5, .aload_n 0, 1), (6, .iload_n 2, 1), (7, .invokevirtual 134, 3), (10, .aload_n 0, 1), (11, .getfield 520, 3),
  (14, .aload_n 0, 1), (15, .getfield 516, 3), (18, .iload_n 1, 1), (19, .iload_n 2, 1), (20, .invokevirtual 22, 3), (23, .aload_n 0, 1), (24, .getfield 520, 3), (27, .aload_n 0, 1),
  (28, .getfield 516, 3), (31, .iload_n 1, 1), (32, .aload_n 0, 1), (33, .getfield 513, 3), (36, .invokevirtual 23, 3), (39, .istore_n 3, 1), (40, .iload_n 3, 1), (41, .iconst (-1), 1),
  (42, .if_icmp .eq 42, 3), (45, .aload_n 0, 1), (46, .getfield 516, 3), (49, .invokevirtual 88, 3), (52, .ifCond .ne 32, 3), (55, .aload_n 0, 1), (56, .getfield 513, 3), (59, .getfield 1, 3),
  (62, .aload_n 0, 1), (63, .getfield 520, 3), (66, .getfield 129, 3), (69, .isub, 1), (70, .aload_n 0, 1), (71, .getfield 520, 3), (74, .getfield 130, 3), (77, .iadd, 1),
  (78, .sipush 160, 3), (81, .if_icmp .le 14, 3), (84, .multianewarray 1 1, 3), (95, .aload_n 0, 1), (96, .getfield 520, 3), (99, .aload_n 0, 1), (100, .getfield 516, 3), (103, .iload_n 2, 1),
  (104, .aload_n 0, 1), (105, .getfield 513, 3), (108, .iload_n 3, 1), (109, .invokevirtual 25, 3), (112, .aload_n 0, 1), (113, .invokevirtual 131, 3), (116, .ireturn, 1)]
def xm_129 : xrM := ((8, 2, ⟨"HexTemplates", "patch", "(II)I"⟩), (prog_1_method_26_code, 4, (some FieldType.int)), [], xc_129)
-- 130: HexTemplates.nextTemplate()LHexTemplates$Template;
def xc_130 : xrC := [(0, .aload_n 0, 1), (1, .getfield 522, 3), (4, .iconst 4, 1), (5, .if_icmp .lt 5, 3), (8, .aconst_null, 1), (9, .areturn, 1), (10, .aload_n 0, 1), (11, .getfield 515, 3),
  (14, .aload_n 0, 1), (15, .getfield 522, 3), (18, .aaload, 1), (19, .ifnonnull 19, 3), (22, .aload_n 0, 1), (23, .getfield 515, 3), (26, .aload_n 0, 1), (27, .getfield 522, 3),
  (30, .new 7, 3), (33, .dup, 1), (34, .invokespecial 95, 3), (37, .aastore, 1), (38, .aload_n 0, 1), (39, .getfield 515, 3), (42, .aload_n 0, 1), (43, .getfield 522, 3),
  (46, .aaload, 1), (47, .areturn, 1)]
def xm_130 : xrM := ((8, 0, ⟨"HexTemplates", "nextTemplate", "()LHexTemplates$Template;"⟩), (prog_1_method_27_code, 1, (some (FieldType.object "HexTemplates$Template"))), [], xc_130)
-- 131: HexTemplates.keepFile()I
def xc_131 : xrC := [(0, .aload_n 0, 1), (1, .bipush (-3), 2), (3, .putfield 523, 3), (6, .aload_n 0, 1), (7, .getfield 516, 3), (10, .aload_n 0, 1), (11, .getfield 513, 3), (14, .invokevirtual 93, 3),
  (17, .ireturn, 1)]
def xm_131 : xrM := ((8, 0, ⟨"HexTemplates", "keepFile", "()I"⟩), (prog_1_method_28_code, 1, (some FieldType.int)), [], xc_131)
-- 132: HexTemplates.chosenTemplate()LHexTemplates$Template;
def xc_132 : xrC := [(0, .aload_n 0, 1), (1, .getfield 523, 3), (4, .ifCond .lt 26, 3), (7, .aload_n 0, 1), (8, .getfield 523, 3), (11, .aload_n 0, 1), (12, .getfield 522, 3), (15, .if_icmp .ge 15, 3),
  (18, .aload_n 0, 1), (19, .getfield 515, 3), (22, .aload_n 0, 1), (23, .getfield 523, 3), (26, .aaload, 1), (27, .goto 4, 3), (30, .aconst_null, 1), (31, .areturn, 1)]
def xm_132 : xrM := ((8, 0, ⟨"HexTemplates", "chosenTemplate", "()LHexTemplates$Template;"⟩), (prog_1_method_29_code, 1, (some (FieldType.object "HexTemplates$Template"))), [], xc_132)
-- 133: HexTemplates.readFile()V
def xc_133 : xrC := [(0, .aload_n 0, 1), (1, .getfield 523, 3), (4, .bipush (-3), 2), (6, .if_icmp .eq 4, 3), (9, .return_, 1), (10, .aload_n 0, 1), (11, .iconst (-1), 1), (12, .putfield 523, 3),
  (15, .iconst (-1), 1), (16, .istore_n 1, 1), (17, .iconst 0, 1), (18, .istore_n 2, 1), (19, .iload_n 2, 1), (20, .aload_n 0, 1), (21, .getfield 522, 3), (24, .if_icmp .ge 55, 3),
  (27, .aload_n 0, 1), (28, .getfield 515, 3), (31, .iload_n 2, 1), (32, .aaload, 1), (33, .astore_n 3, 1), (34, .aload_n 3, 1), (35, .ifnull 38, 3), (38, .aload_n 3, 1),
  (39, .getfield 448, 3), (42, .iload_n 1, 1), (43, .if_icmp .le 30, 3), (46, .aload_n 0, 1), (47, .getfield 517, 3), (50, .aload_n 3, 1), (51, .aload_n 0, 1), (52, .getfield 513, 3),
  (55, .iconst 0, 1), (56, .iconst 0, 1), (57, .invokevirtual 56, 3), (60, .ifCond .eq 13, 3), (63, .aload_n 0, 1), (64, .iload_n 2, 1), (65, .putfield 523, 3), (68, .aload_n 3, 1),
  (69, .getfield 448, 3), (72, .istore_n 1, 1), (73, .iinc 2 1, 3), (76, .goto (-57), 3), (79, .aload_n 0, 1), (80, .getfield 517, 3), (83, .aload_n 0, 1), (84, .invokevirtual 132, 3),
  (87, .aload_n 0, 1), (88, .getfield 513, 3), (91, .iconst 0, 1), (92, .iconst 0, 1), (93, .invokevirtual 56, 3), (96, .pop, 1), (97, .return_, 1)]
def xm_133 : xrM := ((8, 0, ⟨"HexTemplates", "readFile", "()V"⟩), (prog_1_method_30_code, 4, (none)), [], xc_133)
-- 134: HexTemplates.checkState(I)V
def xc_134 : xrC := [(0, .iload_n 1, 1), (1, .ifCond .lt 14, 3), (4, .iload_n 1, 1), (5, .aload_n 0, 1), (6, .getfield 516, 3), (9, .getfield 387, 3), (12, .if_icmp .lt 14, 3), (15, .multianewarray 2 1, 3),
  (26, .return_, 1)]
def xm_134 : xrM := ((8, 1, ⟨"HexTemplates", "checkState", "(I)V"⟩), (prog_1_method_31_code, 2, (none)), [], xc_134)
-- 135: HexTemplates.checkNode(I)V
def xc_135 : xrC := [(0, .aload_n 0, 1), (1, .invokevirtual 133, 3), (4, .aload_n 0, 1), (5, .getfield 517, 3), (8, .getfield 320, 3), (11, .iload_n 1, 1), (12, .invokevirtual 27, 3), (15, .ifCond .ne 14, 3),
  (18, .multianewarray 2 1, 3), (29, .return_, 1)]
def xm_135 : xrM := ((8, 1, ⟨"HexTemplates", "checkNode", "(I)V"⟩), (prog_1_method_32_code, 2, (none)), [], xc_135)
-- 136: HexTemplates.checkReference(I)V
def xc_136 : xrC := [(0, .aload_n 0, 1), (1, .getfield 517, 3), (4, .getfield 320, 3), (7, .getfield 192, 3), (10, .iload_n 1, 1), (11, .iaload, 1), (12, .iconst 3, 1), (13, .if_icmp .eq 14, 3),
  (16, .multianewarray 1 1, 3), (27, .return_, 1)]
def xm_136 : xrM := ((8, 1, ⟨"HexTemplates", "checkReference", "(I)V"⟩), (prog_1_method_33_code, 2, (none)), [], xc_136)
-- 137: HexTemplates.checkPlace(II)V
def xc_137 : xrC := [(0, .iload_n 1, 1), (1, .ifCond .lt 8, 3), (4, .iload_n 1, 1), (5, .iload_n 2, 1), (6, .if_icmp .le 14, 3), (9, .multianewarray 1 1, 3), (20, .return_, 1)]
def xm_137 : xrM := ((8, 2, ⟨"HexTemplates", "checkPlace", "(II)V"⟩), (prog_1_method_34_code, 3, (none)), [], xc_137)
-- 138: HexTemplates.checkEdit(Z)V
def xc_138 : xrC := [(0, .iload_n 1, 1), (1, .ifCond .ne 14, 3), (4, .multianewarray 1 1, 3), (15, .return_, 1)]
def xm_138 : xrM := ((8, 1, ⟨"HexTemplates", "checkEdit", "(Z)V"⟩), (prog_1_method_35_code, 2, (none)), [], xc_138)
-- 139: HexTemplates.isFree(I)Z
def xc_139 : xrC := [(0, .aload_n 0, 1), (1, .getfield 517, 3), (4, .getfield 320, 3), (7, .iload_n 1, 1), (8, .invokevirtual 30, 3), (11, .ifCond .eq 18, 3), (14, .aload_n 0, 1), (15, .getfield 517, 3),
  (18, .iload_n 1, 1), (19, .invokevirtual 76, 3), (22, .ifCond .ne 7, 3), (25, .iconst 1, 1), (26, .goto 4, 3), (29, .iconst 0, 1), (30, .ireturn, 1)]
def xm_139 : xrM := ((8, 1, ⟨"HexTemplates", "isFree", "(I)Z"⟩), (prog_1_method_36_code, 2, (some FieldType.boolean)), [], xc_139)
-- 140: HexTemplates.finishEdit()I
def xc_140 : xrC := [(0, .aload_n 0, 1), (1, .invokevirtual 132, 3), (4, .astore_n 1, 1), (5, .aload_n 1, 1), (6, .ifnull 57, 3), (9, .aload_n 0, 1), (10, .getfield 516, 3), (13, .invokevirtual 88, 3),
  (16, .ifCond .ne 47, 3), (19, .aload_n 0, 1), (20, .getfield 519, 3), (23, .aload_n 0, 1), (24, .getfield 518, 3), (27, .aload_n 1, 1), (28, .invokevirtual 15, 3), (31, .ifCond .eq 32, 3),
  (34, .aload_n 0, 1), (35, .getfield 519, 3), (38, .aload_n 0, 1), (39, .getfield 518, 3), (42, .invokevirtual 17, 3), (45, .ifCond .eq 18, 3), (48, .aload_n 0, 1), (49, .getfield 519, 3),
  (52, .aload_n 0, 1), (53, .getfield 518, 3), (56, .aload_n 1, 1), (57, .invokevirtual 20, 3), (60, .ifCond .ne 14, 3), (63, .multianewarray 1 1, 3), (74, .aload_n 0, 1), (75, .getfield 513, 3),
  (78, .aload_n 0, 1), (79, .getfield 519, 3), (82, .getfield 64, 3), (85, .invokevirtual 5, 3), (88, .aload_n 0, 1), (89, .invokevirtual 131, 3), (92, .ireturn, 1)]
def xm_140 : xrM := ((8, 0, ⟨"HexTemplates", "finishEdit", "()I"⟩), (prog_1_method_37_code, 2, (some FieldType.int)), [], xc_140)
-- 141: HexTemplates.forgetVisits()V
def xc_141 : xrC := [(0, .iconst 0, 1), (1, .istore_n 1, 1), (2, .iload_n 1, 1), (3, .aload_n 0, 1), (4, .getfield 521, 3), (7, .arraylength, 1), (8, .if_icmp .ge 16, 3), (11, .aload_n 0, 1),
  (12, .getfield 521, 3), (15, .iload_n 1, 1), (16, .iconst 0, 1), (17, .bastore, 1), (18, .iinc 1 1, 3), (21, .goto (-19), 3), (24, .return_, 1)]
def xm_141 : xrM := ((8, 0, ⟨"HexTemplates", "forgetVisits", "()V"⟩), (prog_1_method_38_code, 2, (none)), [], xc_141)
-- 142: HexTemplates.isVisited(II)Z
def xc_142 : xrC := [(0, .iload_n 1, 1), (1, .sipush 256, 3), (4, .imul, 1), (5, .iload_n 2, 1), (6, .iadd, 1), (7, .istore_n 3, 1), (8, .iload_n 3, 1), (9, .ifCond .lt 12, 3),
  (12, .iload_n 3, 1), (13, .aload_n 0, 1), (14, .getfield 521, 3), (17, .arraylength, 1), (18, .if_icmp .lt 5, 3), (21, .iconst 0, 1), (22, .ireturn, 1), (23, .aload_n 0, 1),
  (24, .getfield 521, 3), (27, .iload_n 3, 1), (28, .baload, 1), (29, .istore 4, 2), (31, .aload_n 0, 1), (32, .getfield 521, 3), (35, .iload_n 3, 1), (36, .iconst 1, 1),
  (37, .bastore, 1), (38, .iload 4, 2), (40, .ireturn, 1)]
def xm_142 : xrM := ((8, 2, ⟨"HexTemplates", "isVisited", "(II)Z"⟩), (prog_1_method_39_code, 5, (some FieldType.boolean)), [], xc_142)
-- 143: HexTemplatesModel.<init>()V
def xc_143 : xrC := [(0, .aload_n 0, 1), (1, .monitorexit, 3), (4, .aload_n 0, 1), (5, .sipush 200, 3), (8, .newarray .int, 2), (10, .invokedynamic 578, 3), (13, .aload_n 0, 1), (14, .iconst 4, 1),
  (15, .newarray .int, 2), (17, .invokedynamic 580, 3), (20, .aload_n 0, 1), (21, .sipush 800, 3), (24, .newarray .int, 2), (26, .invokedynamic 581, 3), (29, .aload_n 0, 1), (30, .iconst 4, 1),
  (31, .newarray .int, 2), (33, .invokedynamic 582, 3), (36, .aload_n 0, 1), (37, .bipush 104, 2), (39, .newarray .int, 2), (41, .invokedynamic 583, 3), (44, .aload_n 0, 1), (45, .bipush 24, 2),
  (47, .newarray .int, 2), (49, .invokedynamic 584, 3), (52, .aload_n 0, 1), (53, .bipush 24, 2), (55, .newarray .int, 2), (57, .invokedynamic 585, 3), (60, .aload_n 0, 1), (61, .sipush 192, 3),
  (64, .newarray .int, 2), (66, .invokedynamic 586, 3), (69, .aload_n 0, 1), (70, .sipush 192, 3), (73, .newarray .int, 2), (75, .invokedynamic 587, 3), (78, .aload_n 0, 1), (79, .sipush 192, 3),
  (82, .newarray .int, 2), (84, .invokedynamic 588, 3), (87, .aload_n 0, 1), (88, .sipush 192, 3), (91, .newarray .int, 2), (93, .invokedynamic 589, 3), (96, .aload_n 0, 1), (97, .sipush 192, 3),
  (100, .newarray .int, 2), (102, .invokedynamic 590, 3), (105, .aload_n 0, 1), (106, .sipush 192, 3), (109, .newarray .int, 2), (111, .invokedynamic 591, 3), (114, .aload_n 0, 1), (115, .sipush 192, 3),
  (118, .newarray .int, 2), (120, .invokedynamic 592, 3), (123, .aload_n 0, 1), (124, .sipush 192, 3), (127, .newarray .int, 2), (129, .invokedynamic 593, 3), (132, .aload_n 0, 1), (133, .sipush 400, 3),
  (136, .newarray .int, 2), (138, .invokedynamic 595, 3), (141, .aload_n 0, 1), (142, .sipush 400, 3), (145, .newarray .int, 2), (147, .invokedynamic 597, 3), (150, .aload_n 0, 1), (151, .iconst (-1), 1),
  (152, .putfield 598, 3), (155, .aload_n 0, 1), (156, .bipush 30, 2), (158, .newarray .int, 2), (160, .invokedynamic 600, 3), (163, .aload_n 0, 1), (164, .bipush 30, 2), (166, .newarray .int, 2),
  (168, .invokedynamic 601, 3), (171, .aload_n 0, 1), (172, .sipush 4800, 3), (175, .newarray .int, 2), (177, .invokedynamic 602, 3), (180, .aload_n 0, 1), (181, .sipush 201, 3), (184, .newarray .int, 2),
  (186, .invokedynamic 612, 3), (189, .aload_n 0, 1), (190, .sipush 201, 3), (193, .newarray .int, 2), (195, .invokedynamic 613, 3), (198, .aload_n 0, 1), (199, .sipush 201, 3), (202, .newarray .int, 2),
  (204, .invokedynamic 614, 3), (207, .aload_n 0, 1), (208, .sipush 201, 3), (211, .newarray .int, 2), (213, .invokedynamic 615, 3), (216, .aload_n 0, 1), (217, .sipush 201, 3), (220, .newarray .int, 2),
  (222, .invokedynamic 616, 3), (225, .aload_n 0, 1), (226, .sipush 201, 3), (229, .newarray .int, 2), (231, .invokedynamic 617, 3), (234, .aload_n 0, 1), (235, .sipush 201, 3), (238, .newarray .int, 2),
  (240, .invokedynamic 618, 3), (243, .aload_n 0, 1), (244, .sipush 201, 3), (247, .newarray .int, 2), (249, .invokedynamic 619, 3), (252, .aload_n 0, 1), (253, .bipush 60, 2), (255, .newarray .int, 2),
  (257, .invokedynamic 621, 3), (260, .aload_n 0, 1), (261, .bipush 60, 2), (263, .newarray .int, 2), (265, .invokedynamic 622, 3), (268, .aload_n 0, 1), (269, .bipush 60, 2), (271, .newarray .int, 2),
  (273, .invokedynamic 623, 3), (276, .aload_n 0, 1), (277, .bipush 60, 2), (279, .newarray .int, 2), (281, .invokedynamic 624, 3), (284, .aload_n 0, 1), (285, .bipush 60, 2), (287, .newarray .int, 2),
  (289, .invokedynamic 625, 3), (292, .aload_n 0, 1), (293, .bipush 60, 2), (295, .newarray .int, 2), (297, .invokedynamic 626, 3), (300, .aload_n 0, 1), (301, .bipush 60, 2), (303, .newarray .int, 2),
  (305, .invokedynamic 627, 3), (308, .aload_n 0, 1), (309, .bipush 60, 2), (311, .newarray .int, 2), (313, .invokedynamic 628, 3), (316, .aload_n 0, 1), (317, .bipush 60, 2), (319, .newarray .int, 2),
  (321, .invokedynamic 629, 3), (324, .aload_n 0, 1), (325, .sipush 480, 3), (328, .newarray .int, 2), (330, .invokedynamic 630, 3), (333, .aload_n 0, 1), (334, .sipush 201, 3), (337, .newarray .int, 2),
  (339, .invokedynamic 631, 3), (342, .aload_n 0, 1), (343, .sipush 201, 3), (346, .newarray .boolean, 2), (348, .invokedynamic 632, 3), (351, .aload_n 0, 1), (352, .sipush 1600, 3), (355, .newarray .int, 2),
  (357, .invokedynamic 633, 3), (360, .return_, 1)]
def xm_143 : xrM := ((9, 0, ⟨"HexTemplatesModel", "<init>", "()V"⟩), (prog_11_method_1_code, 1, (none)), [], xc_143)
-- 144: HexTemplatesModel.thrown()I
def xc_144 : xrC := [(0, .aload_n 0, 1), (1, .getfield 576, 3), (4, .ireturn, 1)]
def xm_144 : xrM := ((9, 0, ⟨"HexTemplatesModel", "thrown", "()I"⟩), (prog_11_method_2_code, 1, (some FieldType.int)), [], xc_144)
-- 145: HexTemplatesModel.fails(I)I
def xc_145 : xrC := [(0, .aload_n 0, 1), (1, .iload_n 1, 1), (2, .putfield 576, 3), (5, .iconst 0, 1), (6, .ireturn, 1)]
def xm_145 : xrM := ((9, 1, ⟨"HexTemplatesModel", "fails", "(I)I"⟩), (prog_11_method_3_code, 2, (some FieldType.int)), [], xc_145)
-- 146: HexTemplatesModel.in(III)Z
def xc_146 : xrC := [(0, .iload_n 0, 1), (1, .iload_n 1, 1), (2, .if_icmp .lt 12, 3), (5, .iload_n 0, 1), (6, .iload_n 2, 1), (7, .if_icmp .gt 7, 3), (10, .iconst 1, 1), (11, .goto 4, 3),
  (14, .iconst 0, 1), (15, .ireturn, 1)]
def xm_146 : xrM := ((9, 3, ⟨"HexTemplatesModel", "in", "(III)Z"⟩), (prog_11_method_4_code, 3, (some FieldType.boolean)), [], xc_146)
-- 147: HexTemplatesModel.feed(JI)I
def xc_147 : xrC := [(0, .aload_n 0, 1), (1, .iload_n 3, 1), (2, .iconst 1, 1), (3, .bipush 8, 2), (5, .invokestatic 146, 3), (8, .ifCond .ne 7, 3), (11, .iconst 1, 1), (12, .goto 20, 3),
  (15, .aload_n 0, 1), (16, .getfield 577, 3), (19, .iload_n 3, 1), (20, .iadd, 1), (21, .sipush 200, 3), (24, .if_icmp .le 7, 3), (27, .iconst 2, 1), (28, .goto 4, 3),
  (31, .iconst 0, 1), (32, .putfield 576, 3), (35, .aload_n 0, 1), (36, .getfield 576, 3), (39, .ifCond .le 5, 3), (42, .iconst 0, 1), (43, .ireturn, 1), (44, .iconst 0, 1),
  (45, .istore 4, 2), (47, .iload 4, 2), (49, .iload_n 3, 1), (50, .if_icmp .ge 40, 3), (53, .aload_n 0, 1), (54, .getfield 578, 3), (57, .aload_n 0, 1), (58, .getfield 577, 3),
  (61, .lload_n 1, 1), (62, .bipush 8, 2), (64, .iload 4, 2), (66, .imul, 1), (67, .lshr, 1), (68, .goto_w 255, 3), (71, .land, 1), (72, .l2i, 1),
  (73, .iastore, 1), (74, .aload_n 0, 1), (75, .dup, 1), (76, .getfield 577, 3), (79, .iconst 1, 1), (80, .iadd, 1), (81, .putfield 577, 3), (84, .iinc 4 1, 3),
  (87, .goto (-40), 3), (90, .aload_n 0, 1), (91, .getfield 577, 3), (94, .ireturn, 1)]
def xm_147 : xrM := ((9, 2, ⟨"HexTemplatesModel", "feed", "(JI)I"⟩), (prog_11_method_5_code, 5, (some FieldType.int)), [], xc_147)
-- 148: HexTemplatesModel.keeps()I
def xc_148 : xrC := [(0, .aload_n 0, 1), (1, .getfield 600, 3), (4, .aload_n 0, 1), (5, .getfield 599, 3), (8, .aload_n 0, 1), (9, .getfield 594, 3), (12, .iastore, 1), (13, .aload_n 0, 1),
  (14, .getfield 601, 3), (17, .aload_n 0, 1), (18, .getfield 599, 3), (21, .aload_n 0, 1), (22, .getfield 598, 3), (25, .iastore, 1), (26, .iconst 0, 1), (27, .istore_n 1, 1),
  (28, .iload_n 1, 1), (29, .aload_n 0, 1), (30, .getfield 594, 3), (33, .if_icmp .ge 30, 3), (36, .aload_n 0, 1), (37, .getfield 602, 3), (40, .sipush 160, 3), (43, .aload_n 0, 1),
  (44, .getfield 599, 3), (47, .imul, 1), (48, .iload_n 1, 1), (49, .iadd, 1), (50, .aload_n 0, 1), (51, .getfield 595, 3), (54, .iload_n 1, 1), (55, .iaload, 1),
  (56, .iastore, 1), (57, .iinc 1 1, 3), (60, .goto (-32), 3), (63, .aload_n 0, 1), (64, .aload_n 0, 1), (65, .getfield 599, 3), (68, .putfield 598, 3), (71, .aload_n 0, 1),
  (72, .dup, 1), (73, .getfield 599, 3), (76, .iconst 1, 1), (77, .iadd, 1), (78, .putfield 599, 3), (81, .aload_n 0, 1), (82, .getfield 598, 3), (85, .ireturn, 1)]
def xm_148 : xrM := ((9, 0, ⟨"HexTemplatesModel", "keeps", "()I"⟩), (prog_11_method_6_code, 2, (some FieldType.int)), [], xc_148)
-- 149: HexTemplatesModel.give()I
def xc_149 : xrC := [(0, .aload_n 0, 1), (1, .aload_n 0, 1), (2, .getfield 599, 3), (5, .bipush 30, 2), (7, .if_icmp .eq 13, 3), (10, .aload_n 0, 1), (11, .getfield 577, 3), (14, .sipush 160, 3),
  (17, .if_icmp .le 7, 3), (20, .iconst 1, 1), (21, .goto 4, 3), (24, .iconst 0, 1), (25, .putfield 576, 3), (28, .aload_n 0, 1), (29, .getfield 577, 3), (32, .istore_n 1, 1),
  (33, .aload_n 0, 1), (34, .iconst 0, 1), (35, .putfield 577, 3), (38, .aload_n 0, 1), (39, .getfield 576, 3), (42, .ifCond .le 5, 3), (45, .iconst 0, 1), (46, .ireturn, 1),
  (47, .aload_n 0, 1), (48, .iload_n 1, 1), (49, .putfield 594, 3), (52, .iconst 0, 1), (53, .istore_n 2, 1), (54, .iload_n 2, 1), (55, .iload_n 1, 1), (56, .if_icmp .ge 21, 3),
  (59, .aload_n 0, 1), (60, .getfield 595, 3), (63, .iload_n 2, 1), (64, .aload_n 0, 1), (65, .getfield 578, 3), (68, .iload_n 2, 1), (69, .iaload, 1), (70, .iastore, 1),
  (71, .iinc 2 1, 3), (74, .goto (-20), 3), (77, .aload_n 0, 1), (78, .invokevirtual 148, 3), (81, .ireturn, 1)]
def xm_149 : xrM := ((9, 0, ⟨"HexTemplatesModel", "give", "()I"⟩), (prog_11_method_7_code, 3, (some FieldType.int)), [], xc_149)
-- 150: HexTemplatesModel.size()I
def xc_150 : xrC := [(0, .aload_n 0, 1), (1, .iconst 0, 1), (2, .putfield 576, 3), (5, .aload_n 0, 1), (6, .getfield 594, 3), (9, .ireturn, 1)]
def xm_150 : xrM := ((9, 0, ⟨"HexTemplatesModel", "size", "()I"⟩), (prog_11_method_8_code, 1, (some FieldType.int)), [], xc_150)
-- 151: HexTemplatesModel.byteAt(I)I
def xc_151 : xrC := [(0, .aload_n 0, 1), (1, .iload_n 1, 1), (2, .iconst 0, 1), (3, .aload_n 0, 1), (4, .getfield 594, 3), (7, .iconst 1, 1), (8, .isub, 1), (9, .invokestatic 146, 3),
  (12, .ifCond .eq 7, 3), (15, .iconst 0, 1), (16, .goto 4, 3), (19, .iconst 1, 1), (20, .putfield 576, 3), (23, .aload_n 0, 1), (24, .getfield 576, 3), (27, .ifCond .le 7, 3),
  (30, .iconst 0, 1), (31, .goto 9, 3), (34, .aload_n 0, 1), (35, .getfield 595, 3), (38, .iload_n 1, 1), (39, .iaload, 1), (40, .ireturn, 1)]
def xm_151 : xrM := ((9, 1, ⟨"HexTemplatesModel", "byteAt", "(I)I"⟩), (prog_11_method_9_code, 2, (some FieldType.int)), [], xc_151)
-- 152: HexTemplatesModel.state()I
def xc_152 : xrC := [(0, .aload_n 0, 1), (1, .iconst 0, 1), (2, .putfield 576, 3), (5, .aload_n 0, 1), (6, .getfield 598, 3), (9, .ireturn, 1)]
def xm_152 : xrM := ((9, 0, ⟨"HexTemplatesModel", "state", "()I"⟩), (prog_11_method_10_code, 1, (some FieldType.int)), [], xc_152)
-- 153: HexTemplatesModel.isState(I)Z
def xc_153 : xrC := [(0, .iload_n 1, 1), (1, .iconst 0, 1), (2, .aload_n 0, 1), (3, .getfield 599, 3), (6, .iconst 1, 1), (7, .isub, 1), (8, .invokestatic 146, 3), (11, .ireturn, 1)]
def xm_153 : xrM := ((9, 1, ⟨"HexTemplatesModel", "isState", "(I)Z"⟩), (prog_11_method_11_code, 2, (some FieldType.boolean)), [], xc_153)
-- 154: HexTemplatesModel.parent(I)I
def xc_154 : xrC := [(0, .aload_n 0, 1), (1, .aload_n 0, 1), (2, .iload_n 1, 1), (3, .invokevirtual 153, 3), (6, .ifCond .eq 7, 3), (9, .iconst 0, 1), (10, .goto 4, 3), (13, .iconst 1, 1),
  (14, .putfield 576, 3), (17, .aload_n 0, 1), (18, .getfield 576, 3), (21, .ifCond .le 7, 3), (24, .iconst 0, 1), (25, .goto 9, 3), (28, .aload_n 0, 1), (29, .getfield 601, 3),
  (32, .iload_n 1, 1), (33, .iaload, 1), (34, .ireturn, 1)]
def xm_154 : xrM := ((9, 1, ⟨"HexTemplatesModel", "parent", "(I)I"⟩), (prog_11_method_12_code, 2, (some FieldType.int)), [], xc_154)
-- 155: HexTemplatesModel.goTo(I)I
def xc_155 : xrC := [(0, .aload_n 0, 1), (1, .aload_n 0, 1), (2, .iload_n 1, 1), (3, .invokevirtual 153, 3), (6, .ifCond .eq 7, 3), (9, .iconst 0, 1), (10, .goto 4, 3), (13, .iconst 1, 1),
  (14, .putfield 576, 3), (17, .aload_n 0, 1), (18, .getfield 576, 3), (21, .ifCond .le 5, 3), (24, .iconst 0, 1), (25, .ireturn, 1), (26, .aload_n 0, 1), (27, .iload_n 1, 1),
  (28, .putfield 598, 3), (31, .aload_n 0, 1), (32, .aload_n 0, 1), (33, .getfield 600, 3), (36, .iload_n 1, 1), (37, .iaload, 1), (38, .putfield 594, 3), (41, .iconst 0, 1),
  (42, .istore_n 2, 1), (43, .iload_n 2, 1), (44, .aload_n 0, 1), (45, .getfield 594, 3), (48, .if_icmp .ge 27, 3), (51, .aload_n 0, 1), (52, .getfield 595, 3), (55, .iload_n 2, 1),
  (56, .aload_n 0, 1), (57, .getfield 602, 3), (60, .sipush 160, 3), (63, .iload_n 1, 1), (64, .imul, 1), (65, .iload_n 2, 1), (66, .iadd, 1), (67, .iaload, 1),
  (68, .iastore, 1), (69, .iinc 2 1, 3), (72, .goto (-29), 3), (75, .aload_n 0, 1), (76, .getfield 594, 3), (79, .ireturn, 1)]
def xm_155 : xrM := ((9, 1, ⟨"HexTemplatesModel", "goTo", "(I)I"⟩), (prog_11_method_13_code, 3, (some FieldType.int)), [], xc_155)
-- 156: HexTemplatesModel.sign()I
def xc_156 : xrC := [(0, .aload_n 0, 1), (1, .getfield 605, 3), (4, .aload_n 0, 1), (5, .getfield 604, 3), (8, .if_icmp .ge 20, 3), (11, .aload_n 0, 1), (12, .getfield 581, 3), (15, .aload_n 0, 1),
  (16, .getfield 603, 3), (19, .aload_n 0, 1), (20, .getfield 605, 3), (23, .iadd, 1), (24, .iaload, 1), (25, .goto 4, 3), (28, .iconst 0, 1), (29, .ireturn, 1)]
def xm_156 : xrM := ((9, 0, ⟨"HexTemplatesModel", "sign", "()I"⟩), (prog_11_method_14_code, 1, (some FieldType.int)), [], xc_156)
-- 157: HexTemplatesModel.takes(I)V
def xc_157 : xrC := [(0, .aload_n 0, 1), (1, .aload_n 0, 1), (2, .getfield 606, 3), (5, .ifCond .eq 15, 3), (8, .aload_n 0, 1), (9, .invokevirtual 156, 3), (12, .iload_n 1, 1), (13, .if_icmp .ne 7, 3),
  (16, .iconst 1, 1), (17, .goto 4, 3), (20, .iconst 0, 1), (21, .putstatic 606, 3), (24, .aload_n 0, 1), (25, .dup, 1), (26, .getfield 605, 3), (29, .iconst 1, 1),
  (30, .iadd, 1), (31, .putfield 605, 3), (34, .return_, 1)]
def xm_157 : xrM := ((9, 1, ⟨"HexTemplatesModel", "takes", "(I)V"⟩), (prog_11_method_15_code, 2, (none)), [], xc_157)
-- 158: HexTemplatesModel.isSmall(I)Z
def xc_158 : xrC := [(0, .iload_n 0, 1), (1, .bipush 97, 2), (3, .bipush 122, 2), (5, .invokestatic 146, 3), (8, .ireturn, 1)]
def xm_158 : xrM := ((9, 1, ⟨"HexTemplatesModel", "isSmall", "(I)Z"⟩), (prog_11_method_16_code, 1, (some FieldType.boolean)), [], xc_158)
-- 159: HexTemplatesModel.isName(I)Z
def xc_159 : xrC := [(0, .iload_n 0, 1), (1, .bipush 65, 2), (3, .bipush 90, 2), (5, .invokestatic 146, 3), (8, .ifCond .eq 13, 3), (11, .iload_n 0, 1), (12, .bipush 87, 2), (14, .if_icmp .eq 7, 3),
  (17, .iconst 1, 1), (18, .goto 4, 3), (21, .iconst 0, 1), (22, .ireturn, 1)]
def xm_159 : xrM := ((9, 1, ⟨"HexTemplatesModel", "isName", "(I)Z"⟩), (prog_11_method_17_code, 1, (some FieldType.boolean)), [], xc_159)
-- 160: HexTemplatesModel.isDigit(I)Z
def xc_160 : xrC := [(0, .iload_n 0, 1), (1, .bipush 48, 2), (3, .bipush 57, 2), (5, .invokestatic 146, 3), (8, .ireturn, 1)]
def xm_160 : xrM := ((9, 1, ⟨"HexTemplatesModel", "isDigit", "(I)Z"⟩), (prog_11_method_18_code, 1, (some FieldType.boolean)), [], xc_160)
-- 161: HexTemplatesModel.number()I
def xc_161 : xrC := [(0, .iconst 0, 1), (1, .istore_n 1, 1), (2, .iconst 0, 1), (3, .istore_n 2, 1), (4, .iload_n 2, 1), (5, .iconst 3, 1), (6, .if_icmp .ge 42, 3), (9, .aload_n 0, 1),
  (10, .invokevirtual 156, 3), (13, .invokestatic 160, 3), (16, .ifCond .eq 32, 3), (19, .bipush 10, 2), (21, .iload_n 1, 1), (22, .imul, 1), (23, .aload_n 0, 1), (24, .invokevirtual 156, 3),
  (27, .iadd, 1), (28, .bipush 48, 2), (30, .isub, 1), (31, .istore_n 1, 1), (32, .aload_n 0, 1), (33, .dup, 1), (34, .getfield 605, 3), (37, .iconst 1, 1),
  (38, .iadd, 1), (39, .putfield 605, 3), (42, .iinc 2 1, 3), (45, .goto (-41), 3), (48, .aload_n 0, 1), (49, .aload_n 0, 1), (50, .getfield 606, 3), (53, .ifCond .eq 11, 3),
  (56, .iload_n 2, 1), (57, .ifCond .le 7, 3), (60, .iconst 1, 1), (61, .goto 4, 3), (64, .iconst 0, 1), (65, .putstatic 606, 3), (68, .iload_n 1, 1), (69, .ireturn, 1)]
def xm_161 : xrM := ((9, 0, ⟨"HexTemplatesModel", "number", "()I"⟩), (prog_11_method_19_code, 3, (some FieldType.int)), [], xc_161)
-- 162: HexTemplatesModel.fieldOf(III)I
def xc_162 : xrC := [(0, .iconst (-1), 1), (1, .istore 4, 2), (3, .iconst 0, 1), (4, .istore 5, 2), (6, .iload 5, 2), (8, .aload_n 0, 1), (9, .getfield 585, 3), (12, .bipush 6, 2),
  (14, .iload_n 1, 1), (15, .imul, 1), (16, .iload_n 2, 1), (17, .iadd, 1), (18, .iaload, 1), (19, .if_icmp .ge 39, 3), (22, .aload_n 0, 1), (23, .getfield 586, 3),
  (26, .bipush 8, 2), (28, .bipush 6, 2), (30, .iload_n 1, 1), (31, .imul, 1), (32, .iload_n 2, 1), (33, .iadd, 1), (34, .imul, 1), (35, .iload 5, 2),
  (37, .iadd, 1), (38, .iaload, 1), (39, .iload_n 3, 1), (40, .if_icmp .ne 8, 3), (43, .iload 5, 2), (45, .goto 5, 3), (48, .iload 4, 2), (50, .istore 4, 2),
  (52, .iinc 5 1, 3), (55, .goto (-49), 3), (58, .iload 4, 2), (60, .ireturn, 1)]
def xm_162 : xrM := ((9, 3, ⟨"HexTemplatesModel", "fieldOf", "(III)I"⟩), (prog_11_method_20_code, 6, (some FieldType.int)), [], xc_162)
-- 163: HexTemplatesModel.reads(II)V
def xc_163 : xrC := [(0, .aload_n 0, 1), (1, .invokevirtual 156, 3), (4, .invokestatic 160, 3), (7, .ifCond .eq 11, 3), (10, .aload_n 0, 1), (11, .invokevirtual 161, 3), (14, .pop, 1), (15, .goto 116, 3),
  (18, .aload_n 0, 1), (19, .invokevirtual 156, 3), (22, .invokestatic 158, 3), (25, .ifCond .eq 16, 3), (28, .aload_n 0, 1), (29, .iload_n 1, 1), (30, .iload_n 2, 1), (31, .aload_n 0, 1),
  (32, .invokevirtual 156, 3), (35, .invokevirtual 162, 3), (38, .goto 4, 3), (41, .iconst (-1), 1), (42, .istore_n 3, 1), (43, .iload_n 3, 1), (44, .iconst (-1), 1), (45, .if_icmp .ne 7, 3),
  (48, .iconst 0, 1), (49, .goto 19, 3), (52, .aload_n 0, 1), (53, .getfield 587, 3), (56, .bipush 8, 2), (58, .bipush 6, 2), (60, .iload_n 1, 1), (61, .imul, 1),
  (62, .iload_n 2, 1), (63, .iadd, 1), (64, .imul, 1), (65, .iload_n 3, 1), (66, .iadd, 1), (67, .iaload, 1), (68, .istore 4, 2), (70, .aload_n 0, 1),
  (71, .aload_n 0, 1), (72, .getfield 606, 3), (75, .ifCond .eq 42, 3), (78, .iload 4, 2), (80, .bipush 98, 2), (82, .if_icmp .eq 31, 3), (85, .iload 4, 2), (87, .bipush 119, 2),
  (89, .if_icmp .eq 24, 3), (92, .iload 4, 2), (94, .bipush 87, 2), (96, .if_icmp .eq 17, 3), (99, .iload 4, 2), (101, .bipush 114, 2), (103, .if_icmp .eq 10, 3), (106, .iload 4, 2),
  (108, .bipush 110, 2), (110, .if_icmp .ne 7, 3), (113, .iconst 1, 1), (114, .goto 4, 3), (117, .iconst 0, 1), (118, .putstatic 606, 3), (121, .aload_n 0, 1), (122, .dup, 1),
  (123, .getfield 605, 3), (126, .iconst 1, 1), (127, .iadd, 1), (128, .putfield 605, 3), (131, .return_, 1)]
def xm_163 : xrM := ((9, 2, ⟨"HexTemplatesModel", "reads", "(II)V"⟩), (prog_11_method_21_code, 5, (none)), [], xc_163)
-- 164: HexTemplatesModel.isStep(I)Z
def xc_164 : xrC := [(0, .iload_n 0, 1), (1, .bipush 43, 2), (3, .if_icmp .eq 15, 3), (6, .iload_n 0, 1), (7, .bipush 45, 2), (9, .if_icmp .eq 9, 3), (12, .iload_n 0, 1), (13, .bipush 42, 2),
  (15, .if_icmp .ne 7, 3), (18, .iconst 1, 1), (19, .goto 4, 3), (22, .iconst 0, 1), (23, .ireturn, 1)]
def xm_164 : xrM := ((9, 1, ⟨"HexTemplatesModel", "isStep", "(I)Z"⟩), (prog_11_method_22_code, 1, (some FieldType.boolean)), [], xc_164)
-- 165: HexTemplatesModel.sum(II)V
def xc_165 : xrC := [(0, .aload_n 0, 1), (1, .iload_n 1, 1), (2, .iload_n 2, 1), (3, .invokevirtual 163, 3), (6, .aload_n 0, 1), (7, .getfield 606, 3), (10, .ifCond .eq 32, 3), (13, .aload_n 0, 1),
  (14, .invokevirtual 156, 3), (17, .invokestatic 164, 3), (20, .ifCond .eq 22, 3), (23, .aload_n 0, 1), (24, .dup, 1), (25, .getfield 605, 3), (28, .iconst 1, 1), (29, .iadd, 1),
  (30, .putfield 605, 3), (33, .aload_n 0, 1), (34, .iload_n 1, 1), (35, .iload_n 2, 1), (36, .invokevirtual 163, 3), (39, .goto (-33), 3), (42, .return_, 1)]
def xm_165 : xrM := ((9, 2, ⟨"HexTemplatesModel", "sum", "(II)V"⟩), (prog_11_method_23_code, 3, (none)), [], xc_165)
-- 166: HexTemplatesModel.typed(III)V
def xc_166 : xrC := [(0, .aload_n 0, 1), (1, .invokevirtual 156, 3), (4, .istore 4, 2), (6, .aload_n 0, 1), (7, .dup, 1), (8, .getfield 605, 3), (11, .iconst 1, 1), (12, .iadd, 1),
  (13, .putfield 605, 3), (16, .aload_n 0, 1), (17, .getfield 587, 3), (20, .iload_n 3, 1), (21, .iload 4, 2), (23, .iastore, 1), (24, .aload_n 0, 1), (25, .getfield 588, 3),
  (28, .iload_n 3, 1), (29, .aload_n 0, 1), (30, .getfield 605, 3), (33, .iastore, 1), (34, .aload_n 0, 1), (35, .getfield 590, 3), (38, .iload_n 3, 1), (39, .iconst 0, 1),
  (40, .iastore, 1), (41, .iload 4, 2), (43, .bipush 114, 2), (45, .if_icmp .ne 42, 3), (48, .aload_n 0, 1), (49, .aload_n 0, 1), (50, .getfield 606, 3), (53, .ifCond .eq 17, 3),
  (56, .aload_n 0, 1), (57, .invokevirtual 156, 3), (60, .invokestatic 159, 3), (63, .ifCond .eq 7, 3), (66, .iconst 1, 1), (67, .goto 4, 3), (70, .iconst 0, 1), (71, .putstatic 606, 3),
  (74, .aload_n 0, 1), (75, .dup, 1), (76, .getfield 605, 3), (79, .iconst 1, 1), (80, .iadd, 1), (81, .putfield 605, 3), (84, .goto 262, 3), (87, .iload 4, 2),
  (89, .bipush 110, 2), (91, .if_icmp .ne 60, 3), (94, .aload_n 0, 1), (95, .getfield 589, 3), (98, .iload_n 3, 1), (99, .aload_n 0, 1), (100, .invokevirtual 156, 3), (103, .bipush 48, 2),
  (105, .isub, 1), (106, .iastore, 1), (107, .aload_n 0, 1), (108, .aload_n 0, 1), (109, .getfield 606, 3), (112, .ifCond .eq 22, 3), (115, .aload_n 0, 1), (116, .getfield 589, 3),
  (119, .iload_n 3, 1), (120, .iaload, 1), (121, .iconst 1, 1), (122, .bipush 8, 2), (124, .invokestatic 146, 3), (127, .ifCond .eq 7, 3), (130, .iconst 1, 1), (131, .goto 4, 3),
  (134, .iconst 0, 1), (135, .putstatic 606, 3), (138, .aload_n 0, 1), (139, .dup, 1), (140, .getfield 605, 3), (143, .iconst 1, 1), (144, .iadd, 1), (145, .putfield 605, 3),
  (148, .goto 198, 3), (151, .iload 4, 2), (153, .bipush 115, 2), (155, .if_icmp .ne 34, 3), (158, .aload_n 0, 1), (159, .bipush 40, 2), (161, .invokevirtual 157, 3), (164, .aload_n 0, 1),
  (165, .getfield 588, 3), (168, .iload_n 3, 1), (169, .aload_n 0, 1), (170, .getfield 605, 3), (173, .iastore, 1), (174, .aload_n 0, 1), (175, .iload_n 1, 1), (176, .iload_n 2, 1),
  (177, .invokevirtual 165, 3), (180, .aload_n 0, 1), (181, .bipush 41, 2), (183, .invokevirtual 157, 3), (186, .goto 160, 3), (189, .iload 4, 2), (191, .invokestatic 159, 3), (194, .ifCond .eq 108, 3),
  (197, .aload_n 0, 1), (198, .getfield 587, 3), (201, .iload_n 3, 1), (202, .bipush 78, 2), (204, .iastore, 1), (205, .aload_n 0, 1), (206, .getfield 588, 3), (209, .iload_n 3, 1),
  (210, .aload_n 0, 1), (211, .getfield 605, 3), (214, .iconst 1, 1), (215, .isub, 1), (216, .iastore, 1), (217, .aload_n 0, 1), (218, .getfield 606, 3), (221, .ifCond .eq 46, 3),
  (224, .aload_n 0, 1), (225, .invokevirtual 156, 3), (228, .bipush 124, 2), (230, .if_icmp .ne 37, 3), (233, .aload_n 0, 1), (234, .dup, 1), (235, .getfield 605, 3), (238, .iconst 1, 1),
  (239, .iadd, 1), (240, .putfield 605, 3), (243, .aload_n 0, 1), (244, .aload_n 0, 1), (245, .invokevirtual 156, 3), (248, .invokestatic 159, 3), (251, .putstatic 606, 3), (254, .aload_n 0, 1),
  (255, .dup, 1), (256, .getfield 605, 3), (259, .iconst 1, 1), (260, .iadd, 1), (261, .putfield 605, 3), (264, .goto (-47), 3), (267, .aload_n 0, 1), (268, .invokevirtual 156, 3),
  (271, .bipush 91, 2), (273, .if_icmp .ne 73, 3), (276, .aload_n 0, 1), (277, .dup, 1), (278, .getfield 605, 3), (281, .iconst 1, 1), (282, .iadd, 1), (283, .putfield 605, 3),
  (286, .aload_n 0, 1), (287, .iload_n 1, 1), (288, .iload_n 2, 1), (289, .iload_n 3, 1), (290, .invokevirtual 167, 3), (293, .aload_n 0, 1), (294, .bipush 93, 2), (296, .invokevirtual 157, 3),
  (299, .goto 47, 3), (302, .aload_n 0, 1), (303, .aload_n 0, 1), (304, .getfield 606, 3), (307, .ifCond .eq 35, 3), (310, .iload 4, 2), (312, .bipush 98, 2), (314, .if_icmp .eq 24, 3),
  (317, .iload 4, 2), (319, .bipush 119, 2), (321, .if_icmp .eq 17, 3), (324, .iload 4, 2), (326, .bipush 87, 2), (328, .if_icmp .eq 10, 3), (331, .iload 4, 2), (333, .bipush 122, 2),
  (335, .if_icmp .ne 7, 3), (338, .iconst 1, 1), (339, .goto 4, 3), (342, .iconst 0, 1), (343, .putstatic 606, 3), (346, .return_, 1)]
def xm_166 : xrM := ((9, 3, ⟨"HexTemplatesModel", "typed", "(III)V"⟩), (prog_11_method_24_code, 5, (none)), [], xc_166)
-- 167: HexTemplatesModel.counted(III)V
def xc_167 : xrC := [(0, .aload_n 0, 1), (1, .invokevirtual 156, 3), (4, .istore 4, 2), (6, .aload_n 0, 1), (7, .getfield 590, 3), (10, .iload_n 3, 1), (11, .iload 4, 2), (13, .bipush 42, 2),
  (15, .if_icmp .eq 17, 3), (18, .iload 4, 2), (20, .bipush 33, 2), (22, .if_icmp .eq 10, 3), (25, .iload 4, 2), (27, .bipush 63, 2), (29, .if_icmp .ne 8, 3), (32, .iload 4, 2),
  (34, .goto 5, 3), (37, .bipush 115, 2), (39, .iastore, 1), (40, .aload_n 0, 1), (41, .dup, 1), (42, .getfield 605, 3), (45, .aload_n 0, 1), (46, .getfield 590, 3),
  (49, .iload_n 3, 1), (50, .iaload, 1), (51, .bipush 115, 2), (53, .if_icmp .ne 7, 3), (56, .iconst 0, 1), (57, .goto 4, 3), (60, .iconst 1, 1), (61, .iadd, 1),
  (62, .putfield 605, 3), (65, .aload_n 0, 1), (66, .getfield 591, 3), (69, .iload_n 3, 1), (70, .aload_n 0, 1), (71, .getfield 605, 3), (74, .iastore, 1), (75, .iload 4, 2),
  (77, .bipush 33, 2), (79, .if_icmp .ne 11, 3), (82, .aload_n 0, 1), (83, .invokevirtual 161, 3), (86, .pop, 1), (87, .goto 16, 3), (90, .iload 4, 2), (92, .bipush 42, 2),
  (94, .if_icmp .eq 9, 3), (97, .aload_n 0, 1), (98, .iload_n 1, 1), (99, .iload_n 2, 1), (100, .invokevirtual 165, 3), (103, .return_, 1)]
def xm_167 : xrM := ((9, 3, ⟨"HexTemplatesModel", "counted", "(III)V"⟩), (prog_11_method_25_code, 5, (none)), [], xc_167)
-- 168: HexTemplatesModel.related(I)V
def xc_168 : xrC := [(0, .aload_n 0, 1), (1, .getfield 592, 3), (4, .iload_n 1, 1), (5, .iconst 0, 1), (6, .iastore, 1), (7, .aload_n 0, 1), (8, .getfield 606, 3), (11, .ifCond .eq 200, 3),
  (14, .aload_n 0, 1), (15, .invokevirtual 156, 3), (18, .bipush 61, 2), (20, .if_icmp .ne 191, 3), (23, .aload_n 0, 1), (24, .dup, 1), (25, .getfield 605, 3), (28, .iconst 1, 1),
  (29, .iadd, 1), (30, .putfield 605, 3), (33, .aload_n 0, 1), (34, .invokevirtual 156, 3), (37, .istore_n 2, 1), (38, .aload_n 0, 1), (39, .aload_n 0, 1), (40, .getfield 587, 3),
  (43, .iload_n 1, 1), (44, .iaload, 1), (45, .bipush 98, 2), (47, .if_icmp .eq 25, 3), (50, .aload_n 0, 1), (51, .getfield 587, 3), (54, .iload_n 1, 1), (55, .iaload, 1),
  (56, .bipush 119, 2), (58, .if_icmp .eq 14, 3), (61, .aload_n 0, 1), (62, .getfield 587, 3), (65, .iload_n 1, 1), (66, .iaload, 1), (67, .bipush 87, 2), (69, .if_icmp .ne 7, 3),
  (72, .iconst 1, 1), (73, .goto 4, 3), (76, .iconst 0, 1), (77, .putstatic 606, 3), (80, .iload_n 2, 1), (81, .invokestatic 160, 3), (84, .ifCond .eq 24, 3), (87, .aload_n 0, 1),
  (88, .getfield 592, 3), (91, .iload_n 1, 1), (92, .bipush 73, 2), (94, .iastore, 1), (95, .aload_n 0, 1), (96, .getfield 593, 3), (99, .iload_n 1, 1), (100, .aload_n 0, 1),
  (101, .invokevirtual 161, 3), (104, .iastore, 1), (105, .goto 106, 3), (108, .aload_n 0, 1), (109, .aload_n 0, 1), (110, .getfield 606, 3), (113, .ifCond .eq 31, 3), (116, .iload_n 2, 1),
  (117, .bipush 35, 2), (119, .if_icmp .eq 21, 3), (122, .iload_n 2, 1), (123, .bipush 37, 2), (125, .if_icmp .eq 15, 3), (128, .iload_n 2, 1), (129, .bipush 43, 2), (131, .if_icmp .eq 9, 3),
  (134, .iload_n 2, 1), (135, .bipush 94, 2), (137, .if_icmp .ne 7, 3), (140, .iconst 1, 1), (141, .goto 4, 3), (144, .iconst 0, 1), (145, .putstatic 606, 3), (148, .aload_n 0, 1),
  (149, .getfield 592, 3), (152, .iload_n 1, 1), (153, .iload_n 2, 1), (154, .iastore, 1), (155, .aload_n 0, 1), (156, .dup, 1), (157, .getfield 605, 3), (160, .iconst 1, 1),
  (161, .iadd, 1), (162, .putfield 605, 3), (165, .aload_n 0, 1), (166, .getfield 593, 3), (169, .iload_n 1, 1), (170, .aload_n 0, 1), (171, .invokevirtual 156, 3), (174, .iastore, 1),
  (175, .aload_n 0, 1), (176, .aload_n 0, 1), (177, .getfield 606, 3), (180, .ifCond .eq 17, 3), (183, .aload_n 0, 1), (184, .invokevirtual 156, 3), (187, .invokestatic 158, 3), (190, .ifCond .eq 7, 3),
  (193, .iconst 1, 1), (194, .goto 4, 3), (197, .iconst 0, 1), (198, .putstatic 606, 3), (201, .aload_n 0, 1), (202, .dup, 1), (203, .getfield 605, 3), (206, .iconst 1, 1),
  (207, .iadd, 1), (208, .putfield 605, 3), (211, .return_, 1)]
def xm_168 : xrM := ((9, 1, ⟨"HexTemplatesModel", "related", "(I)V"⟩), (prog_11_method_26_code, 3, (none)), [], xc_168)
-- 169: HexTemplatesModel.structure(I)V
def xc_169 : xrC := [(0, .aload_n 0, 1), (1, .getfield 582, 3), (4, .iload_n 1, 1), (5, .iaload, 1), (6, .istore_n 2, 1), (7, .aload_n 0, 1), (8, .invokevirtual 156, 3), (11, .istore_n 3, 1),
  (12, .aload_n 0, 1), (13, .aload_n 0, 1), (14, .getfield 606, 3), (17, .ifCond .eq 38, 3), (20, .iload_n 2, 1), (21, .bipush 6, 2), (23, .if_icmp .ge 32, 3), (26, .iload_n 3, 1),
  (27, .invokestatic 159, 3), (30, .ifCond .eq 25, 3), (33, .aload_n 0, 1), (34, .getfield 583, 3), (37, .bipush 26, 2), (39, .iload_n 1, 1), (40, .imul, 1), (41, .iload_n 3, 1),
  (42, .iadd, 1), (43, .bipush 65, 2), (45, .isub, 1), (46, .iaload, 1), (47, .iconst (-1), 1), (48, .if_icmp .ne 7, 3), (51, .iconst 1, 1), (52, .goto 4, 3),
  (55, .iconst 0, 1), (56, .putstatic 606, 3), (59, .aload_n 0, 1), (60, .dup, 1), (61, .getfield 605, 3), (64, .iconst 1, 1), (65, .iadd, 1), (66, .putfield 605, 3),
  (69, .aload_n 0, 1), (70, .bipush 123, 2), (72, .invokevirtual 157, 3), (75, .aload_n 0, 1), (76, .getfield 606, 3), (79, .ifCond .ne 4, 3), (82, .return_, 1), (83, .aload_n 0, 1),
  (84, .getfield 583, 3), (87, .bipush 26, 2), (89, .iload_n 1, 1), (90, .imul, 1), (91, .iload_n 3, 1), (92, .iadd, 1), (93, .bipush 65, 2), (95, .isub, 1),
  (96, .iload_n 2, 1), (97, .iastore, 1), (98, .aload_n 0, 1), (99, .getfield 584, 3), (102, .bipush 6, 2), (104, .iload_n 1, 1), (105, .imul, 1), (106, .iload_n 2, 1),
  (107, .iadd, 1), (108, .iload_n 3, 1), (109, .bipush 65, 2), (111, .isub, 1), (112, .iastore, 1), (113, .aload_n 0, 1), (114, .getfield 585, 3), (117, .bipush 6, 2),
  (119, .iload_n 1, 1), (120, .imul, 1), (121, .iload_n 2, 1), (122, .iadd, 1), (123, .iconst 0, 1), (124, .iastore, 1), (125, .iconst 0, 1), (126, .istore 4, 2),
  (128, .aload_n 0, 1), (129, .getfield 606, 3), (132, .ifCond .eq 227, 3), (135, .aload_n 0, 1), (136, .invokevirtual 156, 3), (139, .bipush 125, 2), (141, .if_icmp .eq 218, 3), (144, .aload_n 0, 1),
  (145, .getfield 585, 3), (148, .bipush 6, 2), (150, .iload_n 1, 1), (151, .imul, 1), (152, .iload_n 2, 1), (153, .iadd, 1), (154, .iaload, 1), (155, .istore 5, 2),
  (157, .bipush 8, 2), (159, .bipush 6, 2), (161, .iload_n 1, 1), (162, .imul, 1), (163, .iload_n 2, 1), (164, .iadd, 1), (165, .imul, 1), (166, .iload 5, 2),
  (168, .iadd, 1), (169, .istore 6, 2), (171, .aload_n 0, 1), (172, .iload 5, 2), (174, .bipush 8, 2), (176, .if_icmp .ge 31, 3), (179, .aload_n 0, 1), (180, .invokevirtual 156, 3),
  (183, .invokestatic 158, 3), (186, .ifCond .eq 21, 3), (189, .aload_n 0, 1), (190, .iload_n 1, 1), (191, .iload_n 2, 1), (192, .aload_n 0, 1), (193, .invokevirtual 156, 3), (196, .invokevirtual 162, 3),
  (199, .iconst (-1), 1), (200, .if_icmp .ne 7, 3), (203, .iconst 1, 1), (204, .goto 4, 3), (207, .iconst 0, 1), (208, .putstatic 606, 3), (211, .aload_n 0, 1), (212, .getfield 606, 3),
  (215, .ifCond .eq 141, 3), (218, .aload_n 0, 1), (219, .getfield 586, 3), (222, .iload 6, 2), (224, .aload_n 0, 1), (225, .invokevirtual 156, 3), (228, .iastore, 1), (229, .aload_n 0, 1),
  (230, .dup, 1), (231, .getfield 605, 3), (234, .iconst 1, 1), (235, .iadd, 1), (236, .putfield 605, 3), (239, .aload_n 0, 1), (240, .bipush 58, 2), (242, .invokevirtual 157, 3),
  (245, .aload_n 0, 1), (246, .iload_n 1, 1), (247, .iload_n 2, 1), (248, .iload 6, 2), (250, .invokevirtual 166, 3), (253, .aload_n 0, 1), (254, .iload 6, 2), (256, .invokevirtual 168, 3),
  (259, .aload_n 0, 1), (260, .bipush 59, 2), (262, .invokevirtual 157, 3), (265, .aload_n 0, 1), (266, .getfield 585, 3), (269, .bipush 6, 2), (271, .iload_n 1, 1), (272, .imul, 1),
  (273, .iload_n 2, 1), (274, .iadd, 1), (275, .dup2, 1), (276, .iaload, 1), (277, .iconst 1, 1), (278, .iadd, 1), (279, .iastore, 1), (280, .aload_n 0, 1),
  (281, .getfield 587, 3), (284, .iload 6, 2), (286, .iaload, 1), (287, .bipush 110, 2), (289, .if_icmp .ne 16, 3), (292, .iload 4, 2), (294, .aload_n 0, 1), (295, .getfield 589, 3),
  (298, .iload 6, 2), (300, .iaload, 1), (301, .iadd, 1), (302, .goto 14, 3), (305, .iload 4, 2), (307, .ifCond .ne 7, 3), (310, .iconst 0, 1), (311, .goto 5, 3),
  (314, .bipush 99, 2), (316, .istore 4, 2), (318, .aload_n 0, 1), (319, .aload_n 0, 1), (320, .getfield 606, 3), (323, .ifCond .eq 14, 3), (326, .iload 4, 2), (328, .bipush 8, 2),
  (330, .if_icmp .gt 7, 3), (333, .iconst 1, 1), (334, .goto 4, 3), (337, .iconst 0, 1), (338, .putstatic 606, 3), (341, .iload 4, 2), (343, .bipush 8, 2), (345, .if_icmp .ne 7, 3),
  (348, .iconst 0, 1), (349, .goto 5, 3), (352, .iload 4, 2), (354, .istore 4, 2), (356, .goto (-228), 3), (359, .aload_n 0, 1), (360, .bipush 125, 2), (362, .invokevirtual 157, 3),
  (365, .aload_n 0, 1), (366, .aload_n 0, 1), (367, .getfield 606, 3), (370, .ifCond .eq 12, 3), (373, .iload 4, 2), (375, .ifCond .ne 7, 3), (378, .iconst 1, 1), (379, .goto 4, 3),
  (382, .iconst 0, 1), (383, .putstatic 606, 3), (386, .iconst 0, 1), (387, .istore 5, 2), (389, .iload 5, 2), (391, .aload_n 0, 1), (392, .getfield 585, 3), (395, .bipush 6, 2),
  (397, .iload_n 1, 1), (398, .imul, 1), (399, .iload_n 2, 1), (400, .iadd, 1), (401, .iaload, 1), (402, .if_icmp .ge 130, 3), (405, .aload_n 0, 1), (406, .getfield 606, 3),
  (409, .ifCond .eq 123, 3), (412, .bipush 8, 2), (414, .bipush 6, 2), (416, .iload_n 1, 1), (417, .imul, 1), (418, .iload_n 2, 1), (419, .iadd, 1), (420, .imul, 1),
  (421, .iload 5, 2), (423, .iadd, 1), (424, .istore 6, 2), (426, .aload_n 0, 1), (427, .getfield 592, 3), (430, .iload 6, 2), (432, .iaload, 1), (433, .ifCond .eq 93, 3),
  (436, .aload_n 0, 1), (437, .getfield 592, 3), (440, .iload 6, 2), (442, .iaload, 1), (443, .bipush 73, 2), (445, .if_icmp .eq 81, 3), (448, .aload_n 0, 1), (449, .iload_n 1, 1),
  (450, .iload_n 2, 1), (451, .aload_n 0, 1), (452, .getfield 593, 3), (455, .iload 6, 2), (457, .iaload, 1), (458, .invokevirtual 162, 3), (461, .istore 7, 2), (463, .aload_n 0, 1),
  (464, .iload 7, 2), (466, .iconst (-1), 1), (467, .if_icmp .eq 46, 3), (470, .iload 7, 2), (472, .iload 5, 2), (474, .if_icmp .eq 39, 3), (477, .aload_n 0, 1), (478, .getfield 592, 3),
  (481, .iload 6, 2), (483, .iaload, 1), (484, .bipush 37, 2), (486, .if_icmp .ne 23, 3), (489, .aload_n 0, 1), (490, .getfield 590, 3), (493, .bipush 8, 2), (495, .bipush 6, 2),
  (497, .iload_n 1, 1), (498, .imul, 1), (499, .iload_n 2, 1), (500, .iadd, 1), (501, .imul, 1), (502, .iload 7, 2), (504, .iadd, 1), (505, .iaload, 1),
  (506, .ifCond .eq 7, 3), (509, .iconst 1, 1), (510, .goto 4, 3), (513, .iconst 0, 1), (514, .putstatic 606, 3), (517, .aload_n 0, 1), (518, .getfield 593, 3), (521, .iload 6, 2),
  (523, .iload 7, 2), (525, .iastore, 1), (526, .iinc 5 1, 3), (529, .goto (-140), 3), (532, .aload_n 0, 1), (533, .getfield 582, 3), (536, .iload_n 1, 1), (537, .dup2, 1),
  (538, .iaload, 1), (539, .iconst 1, 1), (540, .iadd, 1), (541, .iastore, 1), (542, .return_, 1)]
def xm_169 : xrM := ((9, 1, ⟨"HexTemplatesModel", "structure", "(I)V"⟩), (prog_11_method_27_code, 8, (none)), [], xc_169)
-- 170: HexTemplatesModel.hasAll(I)Z
def xc_170 : xrC := [(0, .aload_n 0, 1), (1, .getfield 582, 3), (4, .iload_n 1, 1), (5, .iaload, 1), (6, .ifCond .le 7, 3), (9, .iconst 1, 1), (10, .goto 4, 3), (13, .iconst 0, 1),
  (14, .istore_n 2, 1), (15, .iconst 0, 1), (16, .istore_n 3, 1), (17, .iload_n 3, 1), (18, .aload_n 0, 1), (19, .getfield 582, 3), (22, .iload_n 1, 1), (23, .iaload, 1),
  (24, .if_icmp .ge 176, 3), (27, .iconst 0, 1), (28, .istore 4, 2), (30, .iload 4, 2), (32, .aload_n 0, 1), (33, .getfield 585, 3), (36, .bipush 6, 2), (38, .iload_n 1, 1),
  (39, .imul, 1), (40, .iload_n 3, 1), (41, .iadd, 1), (42, .iaload, 1), (43, .if_icmp .ge 151, 3), (46, .bipush 8, 2), (48, .bipush 6, 2), (50, .iload_n 1, 1),
  (51, .imul, 1), (52, .iload_n 3, 1), (53, .iadd, 1), (54, .imul, 1), (55, .iload 4, 2), (57, .iadd, 1), (58, .istore 5, 2), (60, .aload_n 0, 1),
  (61, .getfield 587, 3), (64, .iload 5, 2), (66, .iaload, 1), (67, .bipush 114, 2), (69, .if_icmp .eq 15, 3), (72, .aload_n 0, 1), (73, .getfield 587, 3), (76, .iload 5, 2),
  (78, .iaload, 1), (79, .bipush 78, 2), (81, .if_icmp .ne 7, 3), (84, .iconst 1, 1), (85, .goto 4, 3), (88, .iconst 0, 1), (89, .istore 6, 2), (91, .aload_n 0, 1),
  (92, .getfield 588, 3), (95, .iload 5, 2), (97, .iaload, 1), (98, .istore 7, 2), (100, .iload 6, 2), (102, .ifCond .eq 86, 3), (105, .iload_n 2, 1), (106, .ifCond .eq 36, 3),
  (109, .aload_n 0, 1), (110, .getfield 583, 3), (113, .bipush 26, 2), (115, .iload_n 1, 1), (116, .imul, 1), (117, .aload_n 0, 1), (118, .getfield 581, 3), (121, .aload_n 0, 1),
  (122, .getfield 603, 3), (125, .iload 7, 2), (127, .iadd, 1), (128, .iaload, 1), (129, .iadd, 1), (130, .bipush 65, 2), (132, .isub, 1), (133, .iaload, 1),
  (134, .iconst (-1), 1), (135, .if_icmp .eq 7, 3), (138, .iconst 1, 1), (139, .goto 4, 3), (142, .iconst 0, 1), (143, .istore_n 2, 1), (144, .aload_n 0, 1), (145, .getfield 587, 3),
  (148, .iload 5, 2), (150, .iaload, 1), (151, .bipush 78, 2), (153, .if_icmp .ne 26, 3), (156, .aload_n 0, 1), (157, .getfield 581, 3), (160, .aload_n 0, 1), (161, .getfield 603, 3),
  (164, .iload 7, 2), (166, .iadd, 1), (167, .iconst 1, 1), (168, .iadd, 1), (169, .iaload, 1), (170, .bipush 124, 2), (172, .if_icmp .ne 7, 3), (175, .iconst 1, 1),
  (176, .goto 4, 3), (179, .iconst 0, 1), (180, .istore 6, 2), (182, .iinc 7 2, 3), (185, .goto (-85), 3), (188, .iinc 4 1, 3), (191, .goto (-161), 3), (194, .iinc 3 1, 3),
  (197, .goto (-180), 3), (200, .iload_n 2, 1), (201, .ireturn, 1)]
def xm_170 : xrM := ((9, 1, ⟨"HexTemplatesModel", "hasAll", "(I)Z"⟩), (prog_11_method_28_code, 8, (some FieldType.boolean)), [], xc_170)
-- 171: HexTemplatesModel.template(I)I
def xc_171 : xrC := [(0, .aload_n 0, 1), (1, .iload_n 1, 1), (2, .iconst 0, 1), (3, .bipush 9, 2), (5, .invokestatic 146, 3), (8, .ifCond .eq 7, 3), (11, .iconst 0, 1), (12, .goto 4, 3),
  (15, .iconst 1, 1), (16, .putfield 576, 3), (19, .aload_n 0, 1), (20, .getfield 576, 3), (23, .ifCond .le 5, 3), (26, .iconst 0, 1), (27, .ireturn, 1), (28, .aload_n 0, 1),
  (29, .getfield 577, 3), (32, .istore_n 2, 1), (33, .aload_n 0, 1), (34, .iconst 0, 1), (35, .putfield 577, 3), (38, .aload_n 0, 1), (39, .getfield 579, 3), (42, .iconst 4, 1),
  (43, .if_icmp .ne 9, 3), (46, .aload_n 0, 1), (47, .iconst 2, 1), (48, .invokevirtual 145, 3), (51, .ireturn, 1), (52, .aload_n 0, 1), (53, .getfield 579, 3), (56, .istore_n 3, 1),
  (57, .aload_n 0, 1), (58, .sipush 200, 3), (61, .iload_n 3, 1), (62, .imul, 1), (63, .putfield 603, 3), (66, .aload_n 0, 1), (67, .iload_n 2, 1), (68, .putfield 604, 3),
  (71, .aload_n 0, 1), (72, .iconst 0, 1), (73, .putfield 605, 3), (76, .iconst 0, 1), (77, .istore 4, 2), (79, .iload 4, 2), (81, .iload_n 2, 1), (82, .if_icmp .ge 28, 3),
  (85, .aload_n 0, 1), (86, .getfield 581, 3), (89, .aload_n 0, 1), (90, .getfield 603, 3), (93, .iload 4, 2), (95, .iadd, 1), (96, .aload_n 0, 1), (97, .getfield 578, 3),
  (100, .iload 4, 2), (102, .iaload, 1), (103, .iastore, 1), (104, .iinc 4 1, 3), (107, .goto (-28), 3), (110, .iconst 0, 1), (111, .istore 4, 2), (113, .iload 4, 2),
  (115, .bipush 26, 2), (117, .if_icmp .ge 22, 3), (120, .aload_n 0, 1), (121, .getfield 583, 3), (124, .bipush 26, 2), (126, .iload_n 3, 1), (127, .imul, 1), (128, .iload 4, 2),
  (130, .iadd, 1), (131, .iconst (-1), 1), (132, .iastore, 1), (133, .iinc 4 1, 3), (136, .goto (-23), 3), (139, .aload_n 0, 1), (140, .getfield 582, 3), (143, .iload_n 3, 1),
  (144, .iconst 0, 1), (145, .iastore, 1), (146, .aload_n 0, 1), (147, .iconst 1, 1), (148, .putstatic 606, 3), (151, .aload_n 0, 1), (152, .getfield 606, 3), (155, .ifCond .eq 22, 3),
  (158, .aload_n 0, 1), (159, .getfield 605, 3), (162, .aload_n 0, 1), (163, .getfield 604, 3), (166, .if_icmp .ge 11, 3), (169, .aload_n 0, 1), (170, .iload_n 3, 1), (171, .invokevirtual 169, 3),
  (174, .goto (-23), 3), (177, .aload_n 0, 1), (178, .getfield 606, 3), (181, .ifCond .eq 11, 3), (184, .aload_n 0, 1), (185, .iload_n 3, 1), (186, .invokevirtual 170, 3), (189, .ifCond .ne 9, 3),
  (192, .aload_n 0, 1), (193, .iconst 2, 1), (194, .invokevirtual 145, 3), (197, .ireturn, 1), (198, .aload_n 0, 1), (199, .getfield 580, 3), (202, .iload_n 3, 1), (203, .iload_n 1, 1),
  (204, .iastore, 1), (205, .aload_n 0, 1), (206, .dup, 1), (207, .getfield 579, 3), (210, .iconst 1, 1), (211, .iadd, 1), (212, .putfield 579, 3), (215, .iload_n 3, 1),
  (216, .ireturn, 1)]
def xm_171 : xrM := ((9, 1, ⟨"HexTemplatesModel", "template", "(I)I"⟩), (prog_11_method_29_code, 5, (some FieldType.int)), [], xc_171)
-- 172: HexTemplatesModel.term(III)I
def xc_172 : xrC := [(0, .aload_n 0, 1), (1, .invokevirtual 156, 3), (4, .invokestatic 160, 3), (7, .ifCond .eq 8, 3), (10, .aload_n 0, 1), (11, .invokevirtual 161, 3), (14, .ireturn, 1), (15, .aload_n 0, 1),
  (16, .iload_n 1, 1), (17, .iload_n 2, 1), (18, .aload_n 0, 1), (19, .invokevirtual 156, 3), (22, .invokevirtual 162, 3), (25, .istore 4, 2), (27, .aload_n 0, 1), (28, .dup, 1),
  (29, .getfield 605, 3), (32, .iconst 1, 1), (33, .iadd, 1), (34, .putfield 605, 3), (37, .aload_n 0, 1), (38, .getfield 630, 3), (41, .bipush 8, 2), (43, .iload_n 3, 1),
  (44, .imul, 1), (45, .iload 4, 2), (47, .iadd, 1), (48, .iaload, 1), (49, .ireturn, 1)]
def xm_172 : xrM := ((9, 3, ⟨"HexTemplatesModel", "term", "(III)I"⟩), (prog_11_method_30_code, 5, (some FieldType.int)), [], xc_172)
-- 173: HexTemplatesModel.sumAt(III)I
def xc_173 : xrC := [(0, .aload_n 0, 1), (1, .iload_n 2, 1), (2, .putfield 605, 3), (5, .aload_n 0, 1), (6, .sipush 200, 3), (9, .putfield 604, 3), (12, .aload_n 0, 1), (13, .iload_n 1, 1),
  (14, .aload_n 0, 1), (15, .getfield 622, 3), (18, .iload_n 3, 1), (19, .iaload, 1), (20, .iload_n 3, 1), (21, .invokevirtual 172, 3), (24, .istore 4, 2), (26, .aload_n 0, 1),
  (27, .invokevirtual 156, 3), (30, .invokestatic 164, 3), (33, .ifCond .eq 112, 3), (36, .aload_n 0, 1), (37, .invokevirtual 156, 3), (40, .istore 5, 2), (42, .aload_n 0, 1), (43, .dup, 1),
  (44, .getfield 605, 3), (47, .iconst 1, 1), (48, .iadd, 1), (49, .putfield 605, 3), (52, .aload_n 0, 1), (53, .iload_n 1, 1), (54, .aload_n 0, 1), (55, .getfield 622, 3),
  (58, .iload_n 3, 1), (59, .iaload, 1), (60, .iload_n 3, 1), (61, .invokevirtual 172, 3), (64, .istore 6, 2), (66, .iload 5, 2), (68, .bipush 43, 2), (70, .if_icmp .ne 13, 3),
  (73, .iload 4, 2), (75, .i2l, 1), (76, .iload 6, 2), (78, .i2l, 1), (79, .ladd, 1), (80, .goto 27, 3), (83, .iload 5, 2), (85, .bipush 45, 2),
  (87, .if_icmp .ne 13, 3), (90, .iload 4, 2), (92, .i2l, 1), (93, .iload 6, 2), (95, .i2l, 1), (96, .lsub, 1), (97, .goto 10, 3), (100, .iload 4, 2),
  (102, .i2l, 1), (103, .iload 6, 2), (105, .i2l, 1), (106, .lmul, 1), (107, .lstore 7, 2), (109, .lload 7, 2), (111, .goto_w 99999, 3), (114, .lcmp, 1),
  (115, .ifCond .le 8, 3), (118, .jsr_w 99999, 2), (120, .goto 20, 3), (123, .lload 7, 2), (125, .goto_w (-99999), 3), (128, .lcmp, 1), (129, .ifCond .ge 8, 3), (132, .jsr_w (-99999), 2),
  (134, .goto 6, 3), (137, .lload 7, 2), (139, .l2i, 1), (140, .istore 4, 2), (142, .goto (-116), 3), (145, .iload 4, 2), (147, .ireturn, 1)]
def xm_173 : xrM := ((9, 3, ⟨"HexTemplatesModel", "sumAt", "(III)I"⟩), (prog_11_method_31_code, 9, (some FieldType.int)), [], xc_173)
-- 174: HexTemplatesModel.makes(IIII)Z
def xc_174 : xrC := [(0, .aload_n 0, 1), (1, .getfield 611, 3), (4, .sipush 200, 3), (7, .if_icmp .ne 23, 3), (10, .aload_n 0, 1), (11, .iconst 0, 1), (12, .putfield 620, 3), (15, .aload_n 0, 1),
  (16, .iconst 5, 1), (17, .putfield 608, 3), (20, .aload_n 0, 1), (21, .aload_n 0, 1), (22, .getfield 607, 3), (25, .putfield 609, 3), (28, .iconst 0, 1), (29, .ireturn, 1),
  (30, .aload_n 0, 1), (31, .dup, 1), (32, .getfield 611, 3), (35, .iconst 1, 1), (36, .iadd, 1), (37, .putfield 611, 3), (40, .aload_n 0, 1), (41, .getfield 612, 3),
  (44, .aload_n 0, 1), (45, .getfield 610, 3), (48, .iload_n 1, 1), (49, .iastore, 1), (50, .aload_n 0, 1), (51, .getfield 613, 3), (54, .aload_n 0, 1), (55, .getfield 610, 3),
  (58, .iload_n 2, 1), (59, .iastore, 1), (60, .aload_n 0, 1), (61, .getfield 614, 3), (64, .aload_n 0, 1), (65, .getfield 610, 3), (68, .aload_n 0, 1), (69, .getfield 607, 3),
  (72, .iastore, 1), (73, .aload_n 0, 1), (74, .getfield 615, 3), (77, .aload_n 0, 1), (78, .getfield 610, 3), (81, .iconst 0, 1), (82, .iastore, 1), (83, .aload_n 0, 1),
  (84, .getfield 616, 3), (87, .aload_n 0, 1), (88, .getfield 610, 3), (91, .iconst 0, 1), (92, .iastore, 1), (93, .aload_n 0, 1), (94, .getfield 617, 3), (97, .aload_n 0, 1),
  (98, .getfield 610, 3), (101, .iload_n 3, 1), (102, .iastore, 1), (103, .aload_n 0, 1), (104, .getfield 618, 3), (107, .aload_n 0, 1), (108, .getfield 610, 3), (111, .iload 4, 2),
  (113, .iastore, 1), (114, .aload_n 0, 1), (115, .dup, 1), (116, .getfield 610, 3), (119, .iconst 1, 1), (120, .iadd, 1), (121, .putfield 610, 3), (124, .iconst 1, 1),
  (125, .ireturn, 1)]
def xm_174 : xrM := ((9, 4, ⟨"HexTemplatesModel", "makes", "(IIII)Z"⟩), (prog_11_method_32_code, 5, (some FieldType.boolean)), [], xc_174)
-- 175: HexTemplatesModel.pushes(III)V
def xc_175 : xrC := [(0, .aload_n 0, 1), (1, .getfield 621, 3), (4, .aload_n 0, 1), (5, .getfield 620, 3), (8, .iload_n 1, 1), (9, .iastore, 1), (10, .aload_n 0, 1), (11, .getfield 622, 3),
  (14, .aload_n 0, 1), (15, .getfield 620, 3), (18, .iload_n 2, 1), (19, .iastore, 1), (20, .aload_n 0, 1), (21, .getfield 623, 3), (24, .aload_n 0, 1), (25, .getfield 620, 3),
  (28, .iload_n 3, 1), (29, .iastore, 1), (30, .aload_n 0, 1), (31, .getfield 624, 3), (34, .aload_n 0, 1), (35, .getfield 620, 3), (38, .iconst 0, 1), (39, .iastore, 1),
  (40, .aload_n 0, 1), (41, .getfield 625, 3), (44, .aload_n 0, 1), (45, .getfield 620, 3), (48, .iconst 0, 1), (49, .iastore, 1), (50, .aload_n 0, 1), (51, .getfield 626, 3),
  (54, .aload_n 0, 1), (55, .getfield 620, 3), (58, .aload_n 0, 1), (59, .getfield 607, 3), (62, .iastore, 1), (63, .aload_n 0, 1), (64, .dup, 1), (65, .getfield 620, 3),
  (68, .iconst 1, 1), (69, .iadd, 1), (70, .putfield 620, 3), (73, .return_, 1)]
def xm_175 : xrM := ((9, 3, ⟨"HexTemplatesModel", "pushes", "(III)V"⟩), (prog_11_method_33_code, 4, (none)), [], xc_175)
-- 176: HexTemplatesModel.endsArray()V
def xc_176 : xrC := [(0, .aload_n 0, 1), (1, .getfield 620, 3), (4, .iconst 1, 1), (5, .isub, 1), (6, .istore_n 1, 1), (7, .aload_n 0, 1), (8, .getfield 615, 3), (11, .aload_n 0, 1),
  (12, .getfield 623, 3), (15, .iload_n 1, 1), (16, .iaload, 1), (17, .aload_n 0, 1), (18, .getfield 607, 3), (21, .aload_n 0, 1), (22, .getfield 614, 3), (25, .aload_n 0, 1),
  (26, .getfield 623, 3), (29, .iload_n 1, 1), (30, .iaload, 1), (31, .iaload, 1), (32, .isub, 1), (33, .iastore, 1), (34, .aload_n 0, 1), (35, .getfield 616, 3),
  (38, .aload_n 0, 1), (39, .getfield 623, 3), (42, .iload_n 1, 1), (43, .iaload, 1), (44, .aload_n 0, 1), (45, .getfield 624, 3), (48, .iload_n 1, 1), (49, .iaload, 1),
  (50, .iastore, 1), (51, .aload_n 0, 1), (52, .dup, 1), (53, .getfield 620, 3), (56, .iconst 1, 1), (57, .isub, 1), (58, .putfield 620, 3), (61, .aload_n 0, 1),
  (62, .getfield 624, 3), (65, .aload_n 0, 1), (66, .getfield 620, 3), (69, .iconst 1, 1), (70, .isub, 1), (71, .dup2, 1), (72, .iaload, 1), (73, .iconst 1, 1),
  (74, .iadd, 1), (75, .iastore, 1), (76, .return_, 1)]
def xm_176 : xrM := ((9, 0, ⟨"HexTemplatesModel", "endsArray", "()V"⟩), (prog_11_method_34_code, 2, (none)), [], xc_176)
-- 177: HexTemplatesModel.faults(II)V
def xc_177 : xrC := [(0, .aload_n 0, 1), (1, .getfield 620, 3), (4, .ifCond .le 161, 3), (7, .aload_n 0, 1), (8, .getfield 620, 3), (11, .iconst 1, 1), (12, .isub, 1), (13, .istore_n 3, 1),
  (14, .aload_n 0, 1), (15, .getfield 621, 3), (18, .iload_n 3, 1), (19, .iaload, 1), (20, .iconst 1, 1), (21, .if_icmp .eq 16, 3), (24, .aload_n 0, 1), (25, .dup, 1),
  (26, .getfield 620, 3), (29, .iconst 1, 1), (30, .isub, 1), (31, .putfield 620, 3), (34, .goto 128, 3), (37, .aload_n 0, 1), (38, .getfield 581, 3), (41, .aload_n 0, 1),
  (42, .getfield 603, 3), (45, .aload_n 0, 1), (46, .getfield 627, 3), (49, .iload_n 3, 1), (50, .iaload, 1), (51, .iadd, 1), (52, .iconst 1, 1), (53, .iadd, 1),
  (54, .iaload, 1), (55, .bipush 124, 2), (57, .if_icmp .ne 34, 3), (60, .aload_n 0, 1), (61, .getfield 627, 3), (64, .iload_n 3, 1), (65, .dup2, 1), (66, .iaload, 1),
  (67, .iconst 2, 1), (68, .iadd, 1), (69, .iastore, 1), (70, .aload_n 0, 1), (71, .aload_n 0, 1), (72, .getfield 626, 3), (75, .iload_n 3, 1), (76, .iaload, 1),
  (77, .putfield 607, 3), (80, .aload_n 0, 1), (81, .aload_n 0, 1), (82, .getfield 628, 3), (85, .iload_n 3, 1), (86, .iaload, 1), (87, .putfield 610, 3), (90, .return_, 1),
  (91, .aload_n 0, 1), (92, .dup, 1), (93, .getfield 620, 3), (96, .iconst 1, 1), (97, .isub, 1), (98, .putfield 620, 3), (101, .aload_n 0, 1), (102, .aload_n 0, 1),
  (103, .getfield 626, 3), (106, .iload_n 3, 1), (107, .iaload, 1), (108, .putfield 607, 3), (111, .aload_n 0, 1), (112, .aload_n 0, 1), (113, .getfield 628, 3), (116, .iload_n 3, 1),
  (117, .iaload, 1), (118, .putfield 610, 3), (121, .aload_n 0, 1), (122, .getfield 621, 3), (125, .aload_n 0, 1), (126, .getfield 620, 3), (129, .iconst 1, 1), (130, .isub, 1),
  (131, .iaload, 1), (132, .iconst 2, 1), (133, .if_icmp .ne 29, 3), (136, .aload_n 0, 1), (137, .getfield 590, 3), (140, .aload_n 0, 1), (141, .getfield 622, 3), (144, .aload_n 0, 1),
  (145, .getfield 620, 3), (148, .iconst 1, 1), (149, .isub, 1), (150, .iaload, 1), (151, .iaload, 1), (152, .bipush 42, 2), (154, .if_icmp .ne 8, 3), (157, .aload_n 0, 1),
  (158, .invokevirtual 176, 3), (161, .return_, 1), (162, .goto (-162), 3), (165, .aload_n 0, 1), (166, .iload_n 1, 1), (167, .putfield 608, 3), (170, .aload_n 0, 1), (171, .iload_n 2, 1),
  (172, .putfield 609, 3), (175, .return_, 1)]
def xm_177 : xrM := ((9, 2, ⟨"HexTemplatesModel", "faults", "(II)V"⟩), (prog_11_method_35_code, 4, (none)), [], xc_177)
-- 178: HexTemplatesModel.tries(III)V
def xc_178 : xrC := [(0, .aload_n 0, 1), (1, .iconst 1, 1), (2, .iload_n 1, 1), (3, .iload_n 2, 1), (4, .invokevirtual 175, 3), (7, .aload_n 0, 1), (8, .getfield 627, 3), (11, .aload_n 0, 1),
  (12, .getfield 620, 3), (15, .iconst 1, 1), (16, .isub, 1), (17, .aload_n 0, 1), (18, .getfield 588, 3), (21, .iload_n 1, 1), (22, .iaload, 1), (23, .iastore, 1),
  (24, .aload_n 0, 1), (25, .getfield 628, 3), (28, .aload_n 0, 1), (29, .getfield 620, 3), (32, .iconst 1, 1), (33, .isub, 1), (34, .aload_n 0, 1), (35, .getfield 610, 3),
  (38, .iastore, 1), (39, .aload_n 0, 1), (40, .getfield 629, 3), (43, .aload_n 0, 1), (44, .getfield 620, 3), (47, .iconst 1, 1), (48, .isub, 1), (49, .iload_n 3, 1),
  (50, .iconst 1, 1), (51, .iadd, 1), (52, .iastore, 1), (53, .return_, 1)]
def xm_178 : xrM := ((9, 3, ⟨"HexTemplatesModel", "tries", "(III)V"⟩), (prog_11_method_36_code, 4, (none)), [], xc_178)
-- 179: HexTemplatesModel.stepTry(I)V
def xc_179 : xrC := [(0, .aload_n 0, 1), (1, .getfield 620, 3), (4, .iconst 1, 1), (5, .isub, 1), (6, .istore_n 2, 1), (7, .aload_n 0, 1), (8, .getfield 629, 3), (11, .iload_n 2, 1),
  (12, .iaload, 1), (13, .iconst 5, 1), (14, .if_icmp .le 51, 3), (17, .aload_n 0, 1), (18, .getfield 581, 3), (21, .aload_n 0, 1), (22, .getfield 603, 3), (25, .aload_n 0, 1),
  (26, .getfield 627, 3), (29, .iload_n 2, 1), (30, .iaload, 1), (31, .iadd, 1), (32, .iconst 1, 1), (33, .iadd, 1), (34, .iaload, 1), (35, .bipush 124, 2),
  (37, .if_icmp .ne 16, 3), (40, .aload_n 0, 1), (41, .getfield 627, 3), (44, .iload_n 2, 1), (45, .dup2, 1), (46, .iaload, 1), (47, .iconst 2, 1), (48, .iadd, 1),
  (49, .iastore, 1), (50, .goto (-33), 3), (53, .aload_n 0, 1), (54, .iconst 4, 1), (55, .aload_n 0, 1), (56, .getfield 626, 3), (59, .iload_n 2, 1), (60, .iaload, 1),
  (61, .invokevirtual 177, 3), (64, .return_, 1), (65, .aload_n 0, 1), (66, .getfield 583, 3), (69, .bipush 26, 2), (71, .iload_n 1, 1), (72, .imul, 1), (73, .aload_n 0, 1),
  (74, .getfield 581, 3), (77, .aload_n 0, 1), (78, .getfield 603, 3), (81, .aload_n 0, 1), (82, .getfield 627, 3), (85, .iload_n 2, 1), (86, .iaload, 1), (87, .iadd, 1),
  (88, .iaload, 1), (89, .iadd, 1), (90, .bipush 65, 2), (92, .isub, 1), (93, .iaload, 1), (94, .istore_n 3, 1), (95, .aload_n 0, 1), (96, .getfield 590, 3),
  (99, .aload_n 0, 1), (100, .getfield 622, 3), (103, .iload_n 2, 1), (104, .iaload, 1), (105, .iaload, 1), (106, .ifCond .ne 7, 3), (109, .iconst 1, 1), (110, .goto 4, 3),
  (113, .iconst 0, 1), (114, .istore 4, 2), (116, .aload_n 0, 1), (117, .iconst 0, 1), (118, .iload 4, 2), (120, .ifCond .eq 20, 3), (123, .aload_n 0, 1), (124, .getfield 586, 3),
  (127, .aload_n 0, 1), (128, .getfield 622, 3), (131, .iload_n 2, 1), (132, .iaload, 1), (133, .iaload, 1), (134, .bipush 97, 2), (136, .isub, 1), (137, .goto 14, 3),
  (140, .aload_n 0, 1), (141, .getfield 584, 3), (144, .bipush 6, 2), (146, .iload_n 1, 1), (147, .imul, 1), (148, .iload_n 3, 1), (149, .iadd, 1), (150, .iaload, 1),
  (151, .aload_n 0, 1), (152, .getfield 623, 3), (155, .iload_n 2, 1), (156, .iaload, 1), (157, .iload 4, 2), (159, .ifCond .eq 12, 3), (162, .aload_n 0, 1), (163, .getfield 622, 3),
  (166, .iload_n 2, 1), (167, .iaload, 1), (168, .goto 4, 3), (171, .iconst (-1), 1), (172, .invokevirtual 174, 3), (175, .ifCond .eq 32, 3), (178, .aload_n 0, 1), (179, .iconst 0, 1),
  (180, .iload_n 3, 1), (181, .aload_n 0, 1), (182, .getfield 610, 3), (185, .iconst 1, 1), (186, .isub, 1), (187, .invokevirtual 175, 3), (190, .aload_n 0, 1), (191, .getfield 629, 3),
  (194, .aload_n 0, 1), (195, .getfield 620, 3), (198, .iconst 1, 1), (199, .isub, 1), (200, .aload_n 0, 1), (201, .getfield 629, 3), (204, .iload_n 2, 1), (205, .iaload, 1),
  (206, .iastore, 1), (207, .return_, 1)]
def xm_179 : xrM := ((9, 1, ⟨"HexTemplatesModel", "stepTry", "(I)V"⟩), (prog_11_method_37_code, 5, (none)), [], xc_179)
-- 180: HexTemplatesModel.stepArray(I)V
def xc_180 : xrC := [(0, .aload_n 0, 1), (1, .getfield 620, 3), (4, .iconst 1, 1), (5, .isub, 1), (6, .istore_n 2, 1), (7, .aload_n 0, 1), (8, .getfield 622, 3), (11, .iload_n 2, 1),
  (12, .iaload, 1), (13, .istore_n 3, 1), (14, .aload_n 0, 1), (15, .getfield 590, 3), (18, .iload_n 3, 1), (19, .iaload, 1), (20, .bipush 42, 2), (22, .if_icmp .eq 33, 3),
  (25, .aload_n 0, 1), (26, .getfield 590, 3), (29, .iload_n 3, 1), (30, .iaload, 1), (31, .bipush 33, 2), (33, .if_icmp .eq 22, 3), (36, .aload_n 0, 1), (37, .getfield 624, 3),
  (40, .iload_n 2, 1), (41, .iaload, 1), (42, .aload_n 0, 1), (43, .getfield 628, 3), (46, .iload_n 2, 1), (47, .iaload, 1), (48, .if_icmp .ne 7, 3), (51, .iconst 1, 1),
  (52, .goto 4, 3), (55, .iconst 0, 1), (56, .istore 4, 2), (58, .aload_n 0, 1), (59, .getfield 590, 3), (62, .iload_n 3, 1), (63, .iaload, 1), (64, .bipush 33, 2),
  (66, .if_icmp .ne 56, 3), (69, .aload_n 0, 1), (70, .getfield 607, 3), (73, .aload_n 0, 1), (74, .getfield 594, 3), (77, .if_icmp .lt 20, 3), (80, .aload_n 0, 1), (81, .iconst 1, 1),
  (82, .aload_n 0, 1), (83, .getfield 614, 3), (86, .aload_n 0, 1), (87, .getfield 623, 3), (90, .iload_n 2, 1), (91, .iaload, 1), (92, .iaload, 1), (93, .invokevirtual 177, 3),
  (96, .return_, 1), (97, .aload_n 0, 1), (98, .getfield 595, 3), (101, .aload_n 0, 1), (102, .getfield 607, 3), (105, .iaload, 1), (106, .aload_n 0, 1), (107, .getfield 628, 3),
  (110, .iload_n 2, 1), (111, .iaload, 1), (112, .if_icmp .ne 7, 3), (115, .iconst 1, 1), (116, .goto 4, 3), (119, .iconst 0, 1), (120, .istore 4, 2), (122, .iload 4, 2),
  (124, .ifCond .eq 10, 3), (127, .aload_n 0, 1), (128, .invokevirtual 176, 3), (131, .goto 20, 3), (134, .aload_n 0, 1), (135, .iload_n 3, 1), (136, .aload_n 0, 1), (137, .getfield 623, 3),
  (140, .iload_n 2, 1), (141, .iaload, 1), (142, .aload_n 0, 1), (143, .getfield 629, 3), (146, .iload_n 2, 1), (147, .iaload, 1), (148, .invokevirtual 178, 3), (151, .return_, 1)]
def xm_180 : xrM := ((9, 1, ⟨"HexTemplatesModel", "stepArray", "(I)V"⟩), (prog_11_method_38_code, 5, (none)), [], xc_180)
-- 181: HexTemplatesModel.done(I)V
def xc_181 : xrC := [(0, .aload_n 0, 1), (1, .getfield 620, 3), (4, .iconst 1, 1), (5, .isub, 1), (6, .istore_n 2, 1), (7, .aload_n 0, 1), (8, .getfield 623, 3), (11, .iload_n 2, 1),
  (12, .iaload, 1), (13, .istore_n 3, 1), (14, .aload_n 0, 1), (15, .getfield 622, 3), (18, .iload_n 2, 1), (19, .iaload, 1), (20, .istore 4, 2), (22, .aload_n 0, 1),
  (23, .getfield 615, 3), (26, .iload_n 3, 1), (27, .aload_n 0, 1), (28, .getfield 607, 3), (31, .aload_n 0, 1), (32, .getfield 614, 3), (35, .iload_n 3, 1), (36, .iaload, 1),
  (37, .isub, 1), (38, .iastore, 1), (39, .aload_n 0, 1), (40, .getfield 616, 3), (43, .iload_n 3, 1), (44, .aload_n 0, 1), (45, .getfield 584, 3), (48, .bipush 6, 2),
  (50, .iload_n 1, 1), (51, .imul, 1), (52, .iload 4, 2), (54, .iadd, 1), (55, .iaload, 1), (56, .iastore, 1), (57, .aload_n 0, 1), (58, .dup, 1),
  (59, .getfield 620, 3), (62, .iconst 1, 1), (63, .isub, 1), (64, .putfield 620, 3), (67, .aload_n 0, 1), (68, .getfield 620, 3), (71, .ifCond .ne 4, 3), (74, .return_, 1),
  (75, .aload_n 0, 1), (76, .dup, 1), (77, .getfield 620, 3), (80, .iconst 1, 1), (81, .isub, 1), (82, .putfield 620, 3), (85, .aload_n 0, 1), (86, .getfield 620, 3),
  (89, .iconst 1, 1), (90, .isub, 1), (91, .istore 5, 2), (93, .aload_n 0, 1), (94, .getfield 621, 3), (97, .iload 5, 2), (99, .iaload, 1), (100, .ifCond .ne 15, 3),
  (103, .aload_n 0, 1), (104, .getfield 624, 3), (107, .iload 5, 2), (109, .dup2, 1), (110, .iaload, 1), (111, .iconst 1, 1), (112, .iadd, 1), (113, .iastore, 1),
  (114, .return_, 1), (115, .aload_n 0, 1), (116, .getfield 590, 3), (119, .aload_n 0, 1), (120, .getfield 622, 3), (123, .iload 5, 2), (125, .iaload, 1), (126, .iaload, 1),
  (127, .istore 6, 2), (129, .iload 6, 2), (131, .bipush 42, 2), (133, .if_icmp .eq 10, 3), (136, .iload 6, 2), (138, .bipush 33, 2), (140, .if_icmp .ne 51, 3), (143, .aload_n 0, 1),
  (144, .getfield 615, 3), (147, .iload_n 3, 1), (148, .iaload, 1), (149, .ifCond .ne 42, 3), (152, .aload_n 0, 1), (153, .iload_n 3, 1), (154, .putfield 610, 3), (157, .iload 6, 2),
  (159, .bipush 42, 2), (161, .if_icmp .ne 10, 3), (164, .aload_n 0, 1), (165, .invokevirtual 176, 3), (168, .goto 34, 3), (171, .aload_n 0, 1), (172, .iconst 1, 1), (173, .aload_n 0, 1),
  (174, .getfield 614, 3), (177, .aload_n 0, 1), (178, .getfield 623, 3), (181, .iload 5, 2), (183, .iaload, 1), (184, .iaload, 1), (185, .invokevirtual 177, 3), (188, .goto 14, 3),
  (191, .aload_n 0, 1), (192, .getfield 624, 3), (195, .iload 5, 2), (197, .dup2, 1), (198, .iaload, 1), (199, .iconst 1, 1), (200, .iadd, 1), (201, .iastore, 1),
  (202, .return_, 1)]
def xm_181 : xrM := ((9, 1, ⟨"HexTemplatesModel", "done", "(I)V"⟩), (prog_11_method_39_code, 7, (none)), [], xc_181)
-- 182: HexTemplatesModel.stepFields(I)V
def xc_182 : xrC := [(0, .aload_n 0, 1), (1, .getfield 620, 3), (4, .iconst 1, 1), (5, .isub, 1), (6, .istore_n 2, 1), (7, .aload_n 0, 1), (8, .getfield 622, 3), (11, .iload_n 2, 1),
  (12, .iaload, 1), (13, .istore_n 3, 1), (14, .aload_n 0, 1), (15, .getfield 624, 3), (18, .iload_n 2, 1), (19, .iaload, 1), (20, .aload_n 0, 1), (21, .getfield 585, 3),
  (24, .bipush 6, 2), (26, .iload_n 1, 1), (27, .imul, 1), (28, .iload_n 3, 1), (29, .iadd, 1), (30, .iaload, 1), (31, .if_icmp .ne 9, 3), (34, .aload_n 0, 1),
  (35, .iload_n 1, 1), (36, .invokevirtual 181, 3), (39, .return_, 1), (40, .bipush 8, 2), (42, .bipush 6, 2), (44, .iload_n 1, 1), (45, .imul, 1), (46, .iload_n 3, 1),
  (47, .iadd, 1), (48, .imul, 1), (49, .aload_n 0, 1), (50, .getfield 624, 3), (53, .iload_n 2, 1), (54, .iaload, 1), (55, .iadd, 1), (56, .istore 4, 2),
  (58, .aload_n 0, 1), (59, .getfield 587, 3), (62, .iload 4, 2), (64, .iaload, 1), (65, .istore 5, 2), (67, .aload_n 0, 1), (68, .getfield 586, 3), (71, .iload 4, 2),
  (73, .iaload, 1), (74, .bipush 97, 2), (76, .isub, 1), (77, .istore 6, 2), (79, .iload 5, 2), (81, .bipush 78, 2), (83, .if_icmp .ne 63, 3), (86, .aload_n 0, 1),
  (87, .getfield 590, 3), (90, .iload 4, 2), (92, .iaload, 1), (93, .ifCond .ne 24, 3), (96, .aload_n 0, 1), (97, .iload 4, 2), (99, .aload_n 0, 1), (100, .getfield 623, 3),
  (103, .iload_n 2, 1), (104, .iaload, 1), (105, .aload_n 0, 1), (106, .getfield 629, 3), (109, .iload_n 2, 1), (110, .iaload, 1), (111, .invokevirtual 178, 3), (114, .goto 122, 3),
  (117, .aload_n 0, 1), (118, .iconst 1, 1), (119, .iload 6, 2), (121, .aload_n 0, 1), (122, .getfield 623, 3), (125, .iload_n 2, 1), (126, .iaload, 1), (127, .iload 4, 2),
  (129, .invokevirtual 174, 3), (132, .ifCond .eq 104, 3), (135, .aload_n 0, 1), (136, .iload_n 1, 1), (137, .iload 4, 2), (139, .iload_n 2, 1), (140, .invokevirtual 183, 3), (143, .goto 93, 3),
  (146, .iload 5, 2), (148, .bipush 115, 2), (150, .if_icmp .eq 10, 3), (153, .iload 5, 2), (155, .bipush 122, 2), (157, .if_icmp .ne 32, 3), (160, .aload_n 0, 1), (161, .iconst 5, 1),
  (162, .iload 6, 2), (164, .aload_n 0, 1), (165, .getfield 623, 3), (168, .iload_n 2, 1), (169, .iaload, 1), (170, .iload 4, 2), (172, .invokevirtual 174, 3), (175, .ifCond .eq 61, 3),
  (178, .aload_n 0, 1), (179, .iload_n 1, 1), (180, .iload 4, 2), (182, .iload_n 2, 1), (183, .invokevirtual 184, 3), (186, .goto 50, 3), (189, .aload_n 0, 1), (190, .iload 5, 2),
  (192, .bipush 114, 2), (194, .if_icmp .ne 7, 3), (197, .iconst 3, 1), (198, .goto 15, 3), (201, .iload 5, 2), (203, .bipush 110, 2), (205, .if_icmp .ne 7, 3), (208, .iconst 4, 1),
  (209, .goto 4, 3), (212, .iconst 2, 1), (213, .iload 6, 2), (215, .aload_n 0, 1), (216, .getfield 623, 3), (219, .iload_n 2, 1), (220, .iaload, 1), (221, .iload 4, 2),
  (223, .invokevirtual 174, 3), (226, .ifCond .eq 10, 3), (229, .aload_n 0, 1), (230, .iload 4, 2), (232, .iload_n 2, 1), (233, .invokevirtual 185, 3), (236, .return_, 1)]
def xm_182 : xrM := ((9, 1, ⟨"HexTemplatesModel", "stepFields", "(I)V"⟩), (prog_11_method_40_code, 7, (none)), [], xc_182)
-- 183: HexTemplatesModel.begins(III)V
def xc_183 : xrC := [(0, .aload_n 0, 1), (1, .getfield 590, 3), (4, .iload_n 2, 1), (5, .iaload, 1), (6, .istore 4, 2), (8, .iconst 0, 1), (9, .istore 5, 2), (11, .iload 4, 2),
  (13, .bipush 33, 2), (15, .if_icmp .ne 29, 3), (18, .aload_n 0, 1), (19, .aload_n 0, 1), (20, .getfield 591, 3), (23, .iload_n 2, 1), (24, .iaload, 1), (25, .putfield 605, 3),
  (28, .aload_n 0, 1), (29, .sipush 200, 3), (32, .putfield 604, 3), (35, .aload_n 0, 1), (36, .invokevirtual 161, 3), (39, .istore 5, 2), (41, .goto 24, 3), (44, .iload 4, 2),
  (46, .bipush 42, 2), (48, .if_icmp .eq 17, 3), (51, .aload_n 0, 1), (52, .iload_n 1, 1), (53, .aload_n 0, 1), (54, .getfield 591, 3), (57, .iload_n 2, 1), (58, .iaload, 1),
  (59, .iload_n 3, 1), (60, .invokevirtual 173, 3), (63, .istore 5, 2), (65, .iload 4, 2), (67, .bipush 115, 2), (69, .if_icmp .ne 24, 3), (72, .iload 5, 2), (74, .iconst 0, 1),
  (75, .bipush 20, 2), (77, .invokestatic 146, 3), (80, .ifCond .ne 13, 3), (83, .aload_n 0, 1), (84, .iconst 3, 1), (85, .aload_n 0, 1), (86, .getfield 607, 3), (89, .invokevirtual 177, 3),
  (92, .return_, 1), (93, .aload_n 0, 1), (94, .iconst 2, 1), (95, .iload_n 2, 1), (96, .aload_n 0, 1), (97, .getfield 610, 3), (100, .iconst 1, 1), (101, .isub, 1),
  (102, .invokevirtual 175, 3), (105, .aload_n 0, 1), (106, .getfield 628, 3), (109, .aload_n 0, 1), (110, .getfield 620, 3), (113, .iconst 1, 1), (114, .isub, 1), (115, .iload 4, 2),
  (117, .bipush 63, 2), (119, .if_icmp .ne 12, 3), (122, .iload 5, 2), (124, .ifCond .eq 7, 3), (127, .iconst 1, 1), (128, .goto 5, 3), (131, .iload 5, 2), (133, .iastore, 1),
  (134, .aload_n 0, 1), (135, .getfield 629, 3), (138, .aload_n 0, 1), (139, .getfield 620, 3), (142, .iconst 1, 1), (143, .isub, 1), (144, .aload_n 0, 1), (145, .getfield 629, 3),
  (148, .iload_n 3, 1), (149, .iaload, 1), (150, .iastore, 1), (151, .return_, 1)]
def xm_183 : xrM := ((9, 3, ⟨"HexTemplatesModel", "begins", "(III)V"⟩), (prog_11_method_41_code, 6, (none)), [], xc_183)
-- 184: HexTemplatesModel.string(III)V
def xc_184 : xrC := [(0, .iconst 0, 1), (1, .istore 4, 2), (3, .aload_n 0, 1), (4, .getfield 587, 3), (7, .iload_n 2, 1), (8, .iaload, 1), (9, .bipush 115, 2), (11, .if_icmp .ne 38, 3),
  (14, .aload_n 0, 1), (15, .iload_n 1, 1), (16, .aload_n 0, 1), (17, .getfield 588, 3), (20, .iload_n 2, 1), (21, .iaload, 1), (22, .iload_n 3, 1), (23, .invokevirtual 173, 3),
  (26, .istore 4, 2), (28, .iload 4, 2), (30, .iconst 0, 1), (31, .bipush 100, 2), (33, .invokestatic 146, 3), (36, .ifCond .ne 51, 3), (39, .aload_n 0, 1), (40, .iconst 3, 1),
  (41, .aload_n 0, 1), (42, .getfield 607, 3), (45, .invokevirtual 177, 3), (48, .return_, 1), (49, .aload_n 0, 1), (50, .getfield 607, 3), (53, .iload 4, 2), (55, .iadd, 1),
  (56, .aload_n 0, 1), (57, .getfield 594, 3), (60, .if_icmp .ge 24, 3), (63, .aload_n 0, 1), (64, .getfield 595, 3), (67, .aload_n 0, 1), (68, .getfield 607, 3), (71, .iload 4, 2),
  (73, .iadd, 1), (74, .iaload, 1), (75, .ifCond .eq 9, 3), (78, .iinc 4 1, 3), (81, .goto (-32), 3), (84, .iinc 4 1, 3), (87, .iload 4, 2), (89, .ifCond .le 27, 3),
  (92, .aload_n 0, 1), (93, .getfield 607, 3), (96, .iload 4, 2), (98, .iadd, 1), (99, .aload_n 0, 1), (100, .getfield 594, 3), (103, .if_icmp .le 13, 3), (106, .aload_n 0, 1),
  (107, .iconst 1, 1), (108, .aload_n 0, 1), (109, .getfield 607, 3), (112, .invokevirtual 177, 3), (115, .return_, 1), (116, .aload_n 0, 1), (117, .getfield 615, 3), (120, .aload_n 0, 1),
  (121, .getfield 610, 3), (124, .iconst 1, 1), (125, .isub, 1), (126, .iload 4, 2), (128, .iastore, 1), (129, .aload_n 0, 1), (130, .getfield 616, 3), (133, .aload_n 0, 1),
  (134, .getfield 610, 3), (137, .iconst 1, 1), (138, .isub, 1), (139, .iload 4, 2), (141, .ifCond .ne 7, 3), (144, .iconst (-1), 1), (145, .goto 12, 3), (148, .aload_n 0, 1),
  (149, .getfield 595, 3), (152, .aload_n 0, 1), (153, .getfield 607, 3), (156, .iaload, 1), (157, .iastore, 1), (158, .aload_n 0, 1), (159, .dup, 1), (160, .getfield 607, 3),
  (163, .iload 4, 2), (165, .iadd, 1), (166, .putfield 607, 3), (169, .aload_n 0, 1), (170, .getfield 624, 3), (173, .iload_n 3, 1), (174, .dup2, 1), (175, .iaload, 1),
  (176, .iconst 1, 1), (177, .iadd, 1), (178, .iastore, 1), (179, .return_, 1)]
def xm_184 : xrM := ((9, 3, ⟨"HexTemplatesModel", "string", "(III)V"⟩), (prog_11_method_42_code, 5, (none)), [], xc_184)
-- 185: HexTemplatesModel.value(II)V
def xc_185 : xrC := [(0, .aload_n 0, 1), (1, .getfield 587, 3), (4, .iload_n 1, 1), (5, .iaload, 1), (6, .istore_n 3, 1), (7, .iload_n 3, 1), (8, .bipush 119, 2), (10, .if_icmp .eq 9, 3),
  (13, .iload_n 3, 1), (14, .bipush 87, 2), (16, .if_icmp .ne 7, 3), (19, .iconst 2, 1), (20, .goto 4, 3), (23, .iconst 1, 1), (24, .istore 4, 2), (26, .aload_n 0, 1),
  (27, .getfield 607, 3), (30, .iload 4, 2), (32, .iadd, 1), (33, .aload_n 0, 1), (34, .getfield 594, 3), (37, .if_icmp .le 13, 3), (40, .aload_n 0, 1), (41, .iconst 1, 1),
  (42, .aload_n 0, 1), (43, .getfield 607, 3), (46, .invokevirtual 177, 3), (49, .return_, 1), (50, .iload_n 3, 1), (51, .bipush 119, 2), (53, .if_icmp .ne 31, 3), (56, .aload_n 0, 1),
  (57, .getfield 595, 3), (60, .aload_n 0, 1), (61, .getfield 607, 3), (64, .iaload, 1), (65, .sipush 256, 3), (68, .aload_n 0, 1), (69, .getfield 595, 3), (72, .aload_n 0, 1),
  (73, .getfield 607, 3), (76, .iconst 1, 1), (77, .iadd, 1), (78, .iaload, 1), (79, .imul, 1), (80, .iadd, 1), (81, .goto 46, 3), (84, .iload_n 3, 1),
  (85, .bipush 87, 2), (87, .if_icmp .ne 31, 3), (90, .sipush 256, 3), (93, .aload_n 0, 1), (94, .getfield 595, 3), (97, .aload_n 0, 1), (98, .getfield 607, 3), (101, .iaload, 1),
  (102, .imul, 1), (103, .aload_n 0, 1), (104, .getfield 595, 3), (107, .aload_n 0, 1), (108, .getfield 607, 3), (111, .iconst 1, 1), (112, .iadd, 1), (113, .iaload, 1),
  (114, .iadd, 1), (115, .goto 12, 3), (118, .aload_n 0, 1), (119, .getfield 595, 3), (122, .aload_n 0, 1), (123, .getfield 607, 3), (126, .iaload, 1), (127, .istore 5, 2),
  (129, .aload_n 0, 1), (130, .getfield 619, 3), (133, .aload_n 0, 1), (134, .getfield 610, 3), (137, .iconst 1, 1), (138, .isub, 1), (139, .aload_n 0, 1), (140, .getfield 625, 3),
  (143, .iload_n 2, 1), (144, .iaload, 1), (145, .iastore, 1), (146, .iload_n 3, 1), (147, .bipush 110, 2), (149, .if_icmp .ne 50, 3), (152, .iload 5, 2), (154, .bipush 8, 2),
  (156, .aload_n 0, 1), (157, .getfield 625, 3), (160, .iload_n 2, 1), (161, .iaload, 1), (162, .isub, 1), (163, .aload_n 0, 1), (164, .getfield 589, 3), (167, .iload_n 1, 1),
  (168, .iaload, 1), (169, .isub, 1), (170, .ishr, 1), (171, .iconst 1, 1), (172, .aload_n 0, 1), (173, .getfield 589, 3), (176, .iload_n 1, 1), (177, .iaload, 1),
  (178, .ishl, 1), (179, .iconst 1, 1), (180, .isub, 1), (181, .iand, 1), (182, .istore 5, 2), (184, .aload_n 0, 1), (185, .getfield 625, 3), (188, .iload_n 2, 1),
  (189, .dup2, 1), (190, .iaload, 1), (191, .aload_n 0, 1), (192, .getfield 589, 3), (195, .iload_n 1, 1), (196, .iaload, 1), (197, .iadd, 1), (198, .iastore, 1),
  (199, .aload_n 0, 1), (200, .getfield 592, 3), (203, .iload_n 1, 1), (204, .iaload, 1), (205, .bipush 73, 2), (207, .if_icmp .ne 24, 3), (210, .iload 5, 2), (212, .aload_n 0, 1),
  (213, .getfield 593, 3), (216, .iload_n 1, 1), (217, .iaload, 1), (218, .if_icmp .eq 13, 3), (221, .aload_n 0, 1), (222, .iconst 2, 1), (223, .aload_n 0, 1), (224, .getfield 607, 3),
  (227, .invokevirtual 177, 3), (230, .return_, 1), (231, .aload_n 0, 1), (232, .getfield 615, 3), (235, .aload_n 0, 1), (236, .getfield 610, 3), (239, .iconst 1, 1), (240, .isub, 1),
  (241, .iload 4, 2), (243, .iastore, 1), (244, .aload_n 0, 1), (245, .getfield 616, 3), (248, .aload_n 0, 1), (249, .getfield 610, 3), (252, .iconst 1, 1), (253, .isub, 1),
  (254, .iload 5, 2), (256, .iastore, 1), (257, .aload_n 0, 1), (258, .getfield 630, 3), (261, .bipush 8, 2), (263, .iload_n 2, 1), (264, .imul, 1), (265, .aload_n 0, 1),
  (266, .getfield 624, 3), (269, .iload_n 2, 1), (270, .iaload, 1), (271, .iadd, 1), (272, .iload 5, 2), (274, .iastore, 1), (275, .aload_n 0, 1), (276, .dup, 1),
  (277, .getfield 607, 3), (280, .iload_n 3, 1), (281, .bipush 110, 2), (283, .if_icmp .ne 18, 3), (286, .aload_n 0, 1), (287, .getfield 625, 3), (290, .iload_n 2, 1), (291, .iaload, 1),
  (292, .bipush 8, 2), (294, .if_icmp .ge 7, 3), (297, .iconst 0, 1), (298, .goto 5, 3), (301, .iload 4, 2), (303, .iadd, 1), (304, .putfield 607, 3), (307, .aload_n 0, 1),
  (308, .getfield 625, 3), (311, .iload_n 2, 1), (312, .aload_n 0, 1), (313, .getfield 625, 3), (316, .iload_n 2, 1), (317, .iaload, 1), (318, .bipush 8, 2), (320, .if_icmp .ne 7, 3),
  (323, .iconst 0, 1), (324, .goto 9, 3), (327, .aload_n 0, 1), (328, .getfield 625, 3), (331, .iload_n 2, 1), (332, .iaload, 1), (333, .iastore, 1), (334, .aload_n 0, 1),
  (335, .getfield 624, 3), (338, .iload_n 2, 1), (339, .dup2, 1), (340, .iaload, 1), (341, .iconst 1, 1), (342, .iadd, 1), (343, .iastore, 1), (344, .return_, 1)]
def xm_185 : xrM := ((9, 2, ⟨"HexTemplatesModel", "value", "(II)V"⟩), (prog_11_method_43_code, 6, (none)), [], xc_185)
-- 186: HexTemplatesModel.isRead(III)Z
def xc_186 : xrC := [(0, .aload_n 0, 1), (1, .sipush 200, 3), (4, .iload_n 1, 1), (5, .imul, 1), (6, .putfield 603, 3), (9, .aload_n 0, 1), (10, .iload_n 3, 1), (11, .putfield 607, 3),
  (14, .aload_n 0, 1), (15, .iconst 0, 1), (16, .putfield 608, 3), (19, .aload_n 0, 1), (20, .iconst (-1), 1), (21, .putfield 609, 3), (24, .aload_n 0, 1), (25, .iconst 0, 1),
  (26, .putfield 610, 3), (29, .aload_n 0, 1), (30, .iconst 0, 1), (31, .putfield 611, 3), (34, .aload_n 0, 1), (35, .iconst 0, 1), (36, .putfield 620, 3), (39, .aload_n 0, 1),
  (40, .iconst 0, 1), (41, .aload_n 0, 1), (42, .getfield 584, 3), (45, .bipush 6, 2), (47, .iload_n 1, 1), (48, .imul, 1), (49, .iload_n 2, 1), (50, .iadd, 1),
  (51, .iaload, 1), (52, .iconst (-1), 1), (53, .iconst (-1), 1), (54, .invokevirtual 174, 3), (57, .pop, 1), (58, .aload_n 0, 1), (59, .iconst 0, 1), (60, .iload_n 2, 1),
  (61, .iconst 0, 1), (62, .invokevirtual 175, 3), (65, .aload_n 0, 1), (66, .getfield 629, 3), (69, .iconst 0, 1), (70, .iconst 0, 1), (71, .iastore, 1), (72, .aload_n 0, 1),
  (73, .getfield 620, 3), (76, .ifCond .le 51, 3), (79, .aload_n 0, 1), (80, .getfield 621, 3), (83, .aload_n 0, 1), (84, .getfield 620, 3), (87, .iconst 1, 1), (88, .isub, 1),
  (89, .iaload, 1), (90, .istore 4, 2), (92, .iload 4, 2), (94, .ifCond .ne 11, 3), (97, .aload_n 0, 1), (98, .iload_n 1, 1), (99, .invokevirtual 182, 3), (102, .goto 22, 3),
  (105, .iload 4, 2), (107, .iconst 1, 1), (108, .if_icmp .ne 11, 3), (111, .aload_n 0, 1), (112, .iload_n 1, 1), (113, .invokevirtual 179, 3), (116, .goto 8, 3), (119, .aload_n 0, 1),
  (120, .iload_n 1, 1), (121, .invokevirtual 180, 3), (124, .goto (-52), 3), (127, .aload_n 0, 1), (128, .getfield 608, 3), (131, .ifCond .ne 7, 3), (134, .iconst 1, 1), (135, .goto 4, 3),
  (138, .iconst 0, 1), (139, .ireturn, 1)]
def xm_186 : xrM := ((9, 3, ⟨"HexTemplatesModel", "isRead", "(III)Z"⟩), (prog_11_method_44_code, 5, (some FieldType.boolean)), [], xc_186)
-- 187: HexTemplatesModel.chooses()I
def xc_187 : xrC := [(0, .iconst (-1), 1), (1, .istore_n 1, 1), (2, .iconst 0, 1), (3, .istore_n 2, 1), (4, .iload_n 2, 1), (5, .aload_n 0, 1), (6, .getfield 579, 3), (9, .if_icmp .ge 45, 3),
  (12, .aload_n 0, 1), (13, .iload_n 2, 1), (14, .iconst 0, 1), (15, .iconst 0, 1), (16, .invokevirtual 186, 3), (19, .ifCond .eq 27, 3), (22, .iload_n 1, 1), (23, .iconst (-1), 1),
  (24, .if_icmp .eq 18, 3), (27, .aload_n 0, 1), (28, .getfield 580, 3), (31, .iload_n 2, 1), (32, .iaload, 1), (33, .aload_n 0, 1), (34, .getfield 580, 3), (37, .iload_n 1, 1),
  (38, .iaload, 1), (39, .if_icmp .le 7, 3), (42, .iload_n 2, 1), (43, .goto 4, 3), (46, .iload_n 1, 1), (47, .istore_n 1, 1), (48, .iinc 2 1, 3), (51, .goto (-47), 3),
  (54, .aload_n 0, 1), (55, .iconst 0, 1), (56, .putfield 610, 3), (59, .iload_n 1, 1), (60, .iconst (-1), 1), (61, .if_icmp .eq 11, 3), (64, .aload_n 0, 1), (65, .iload_n 1, 1),
  (66, .iconst 0, 1), (67, .iconst 0, 1), (68, .invokevirtual 186, 3), (71, .pop, 1), (72, .iload_n 1, 1), (73, .ireturn, 1)]
def xm_187 : xrM := ((9, 0, ⟨"HexTemplatesModel", "chooses", "()I"⟩), (prog_11_method_45_code, 3, (some FieldType.int)), [], xc_187)
-- 188: HexTemplatesModel.chosen()I
def xc_188 : xrC := [(0, .aload_n 0, 1), (1, .iconst 0, 1), (2, .putfield 576, 3), (5, .aload_n 0, 1), (6, .invokevirtual 187, 3), (9, .ireturn, 1)]
def xm_188 : xrM := ((9, 0, ⟨"HexTemplatesModel", "chosen", "()I"⟩), (prog_11_method_46_code, 1, (some FieldType.int)), [], xc_188)
-- 189: HexTemplatesModel.fault(IZ)I
def xc_189 : xrC := [(0, .aload_n 0, 1), (1, .iload_n 1, 1), (2, .iconst 0, 1), (3, .aload_n 0, 1), (4, .getfield 579, 3), (7, .iconst 1, 1), (8, .isub, 1), (9, .invokestatic 146, 3),
  (12, .ifCond .eq 7, 3), (15, .iconst 0, 1), (16, .goto 4, 3), (19, .iconst 1, 1), (20, .putfield 576, 3), (23, .aload_n 0, 1), (24, .getfield 576, 3), (27, .ifCond .le 5, 3),
  (30, .iconst 0, 1), (31, .ireturn, 1), (32, .aload_n 0, 1), (33, .iload_n 1, 1), (34, .iconst 0, 1), (35, .iconst 0, 1), (36, .invokevirtual 186, 3), (39, .pop, 1),
  (40, .iload_n 2, 1), (41, .ifCond .eq 10, 3), (44, .aload_n 0, 1), (45, .getfield 609, 3), (48, .goto 7, 3), (51, .aload_n 0, 1), (52, .getfield 608, 3), (55, .ireturn, 1)]
def xm_189 : xrM := ((9, 2, ⟨"HexTemplatesModel", "fault", "(IZ)I"⟩), (prog_11_method_47_code, 3, (some FieldType.int)), [], xc_189)
-- 190: HexTemplatesModel.nodes()I
def xc_190 : xrC := [(0, .aload_n 0, 1), (1, .iconst 0, 1), (2, .putfield 576, 3), (5, .aload_n 0, 1), (6, .invokevirtual 187, 3), (9, .pop, 1), (10, .aload_n 0, 1), (11, .getfield 610, 3),
  (14, .ireturn, 1)]
def xm_190 : xrM := ((9, 0, ⟨"HexTemplatesModel", "nodes", "()I"⟩), (prog_11_method_48_code, 1, (some FieldType.int)), [], xc_190)
-- 191: HexTemplatesModel.isNode(I)Z
def xc_191 : xrC := [(0, .aload_n 0, 1), (1, .invokevirtual 187, 3), (4, .pop, 1), (5, .iload_n 1, 1), (6, .iconst 0, 1), (7, .aload_n 0, 1), (8, .getfield 610, 3), (11, .iconst 1, 1),
  (12, .isub, 1), (13, .invokestatic 146, 3), (16, .ireturn, 1)]
def xm_191 : xrM := ((9, 1, ⟨"HexTemplatesModel", "isNode", "(I)Z"⟩), (prog_11_method_49_code, 2, (some FieldType.boolean)), [], xc_191)
-- 192: HexTemplatesModel.isRelated(I)Z
def xc_192 : xrC := [(0, .aload_n 0, 1), (1, .getfield 618, 3), (4, .iload_n 1, 1), (5, .iaload, 1), (6, .iconst (-1), 1), (7, .if_icmp .eq 37, 3), (10, .aload_n 0, 1), (11, .getfield 592, 3),
  (14, .aload_n 0, 1), (15, .getfield 618, 3), (18, .iload_n 1, 1), (19, .iaload, 1), (20, .iaload, 1), (21, .ifCond .eq 23, 3), (24, .aload_n 0, 1), (25, .getfield 592, 3),
  (28, .aload_n 0, 1), (29, .getfield 618, 3), (32, .iload_n 1, 1), (33, .iaload, 1), (34, .iaload, 1), (35, .bipush 73, 2), (37, .if_icmp .eq 7, 3), (40, .iconst 1, 1),
  (41, .goto 4, 3), (44, .iconst 0, 1), (45, .ireturn, 1)]
def xm_192 : xrM := ((9, 1, ⟨"HexTemplatesModel", "isRelated", "(I)Z"⟩), (prog_11_method_50_code, 2, (some FieldType.boolean)), [], xc_192)
-- 193: HexTemplatesModel.target(I)I
def xc_193 : xrC := [(0, .bipush 8, 2), (2, .aload_n 0, 1), (3, .getfield 618, 3), (6, .iload_n 1, 1), (7, .iaload, 1), (8, .bipush 8, 2), (10, .idiv, 1), (11, .imul, 1),
  (12, .aload_n 0, 1), (13, .getfield 593, 3), (16, .aload_n 0, 1), (17, .getfield 618, 3), (20, .iload_n 1, 1), (21, .iaload, 1), (22, .iaload, 1), (23, .iadd, 1),
  (24, .istore_n 2, 1), (25, .iconst (-1), 1), (26, .istore_n 3, 1), (27, .iconst 0, 1), (28, .istore 4, 2), (30, .iload 4, 2), (32, .aload_n 0, 1), (33, .getfield 610, 3),
  (36, .if_icmp .ge 43, 3), (39, .aload_n 0, 1), (40, .getfield 617, 3), (43, .iload 4, 2), (45, .iaload, 1), (46, .aload_n 0, 1), (47, .getfield 617, 3), (50, .iload_n 1, 1),
  (51, .iaload, 1), (52, .if_icmp .ne 19, 3), (55, .aload_n 0, 1), (56, .getfield 618, 3), (59, .iload 4, 2), (61, .iaload, 1), (62, .iload_n 2, 1), (63, .if_icmp .ne 8, 3),
  (66, .iload 4, 2), (68, .goto 4, 3), (71, .iload_n 3, 1), (72, .istore_n 3, 1), (73, .iinc 4 1, 3), (76, .goto (-46), 3), (79, .iload_n 3, 1), (80, .ireturn, 1)]
def xm_193 : xrM := ((9, 1, ⟨"HexTemplatesModel", "target", "(I)I"⟩), (prog_11_method_51_code, 5, (some FieldType.int)), [], xc_193)
-- 194: HexTemplatesModel.shouldBe(I)I
def xc_194 : xrC := [(0, .aload_n 0, 1), (1, .iload_n 1, 1), (2, .invokevirtual 193, 3), (5, .istore_n 2, 1), (6, .aload_n 0, 1), (7, .getfield 592, 3), (10, .aload_n 0, 1), (11, .getfield 618, 3),
  (14, .iload_n 1, 1), (15, .iaload, 1), (16, .iaload, 1), (17, .istore_n 3, 1), (18, .iload_n 3, 1), (19, .bipush 35, 2), (21, .if_icmp .ne 12, 3), (24, .aload_n 0, 1),
  (25, .getfield 615, 3), (28, .iload_n 2, 1), (29, .iaload, 1), (30, .goto 19, 3), (33, .iload_n 3, 1), (34, .bipush 37, 2), (36, .if_icmp .ne 12, 3), (39, .aload_n 0, 1),
  (40, .getfield 616, 3), (43, .iload_n 2, 1), (44, .iaload, 1), (45, .goto 4, 3), (48, .iconst 0, 1), (49, .istore 4, 2), (51, .aload_n 0, 1), (52, .getfield 614, 3),
  (55, .iload_n 2, 1), (56, .iaload, 1), (57, .istore 5, 2), (59, .iload 5, 2), (61, .aload_n 0, 1), (62, .getfield 614, 3), (65, .iload_n 2, 1), (66, .iaload, 1),
  (67, .aload_n 0, 1), (68, .getfield 615, 3), (71, .iload_n 2, 1), (72, .iaload, 1), (73, .iadd, 1), (74, .if_icmp .ge 51, 3), (77, .iload_n 3, 1), (78, .bipush 43, 2),
  (80, .if_icmp .ne 16, 3), (83, .iload 4, 2), (85, .aload_n 0, 1), (86, .getfield 595, 3), (89, .iload 5, 2), (91, .iaload, 1), (92, .iadd, 1), (93, .goto 24, 3),
  (96, .iload_n 3, 1), (97, .bipush 94, 2), (99, .if_icmp .ne 16, 3), (102, .iload 4, 2), (104, .aload_n 0, 1), (105, .getfield 595, 3), (108, .iload 5, 2), (110, .iaload, 1),
  (111, .ixor, 1), (112, .goto 5, 3), (115, .iload 4, 2), (117, .istore 4, 2), (119, .iinc 5 1, 3), (122, .goto (-63), 3), (125, .iload 4, 2), (127, .aload_n 0, 1),
  (128, .getfield 587, 3), (131, .aload_n 0, 1), (132, .getfield 618, 3), (135, .iload_n 1, 1), (136, .iaload, 1), (137, .iaload, 1), (138, .bipush 98, 2), (140, .if_icmp .ne 9, 3),
  (143, .sipush 255, 3), (146, .goto 6, 3), (149, .jsr 65535, 3), (152, .iand, 1), (153, .ireturn, 1)]
def xm_194 : xrM := ((9, 1, ⟨"HexTemplatesModel", "shouldBe", "(I)I"⟩), (prog_11_method_52_code, 6, (some FieldType.int)), [], xc_194)
-- 195: HexTemplatesModel.wrongs()I
def xc_195 : xrC := [(0, .iconst 0, 1), (1, .istore_n 1, 1), (2, .iconst 0, 1), (3, .istore_n 2, 1), (4, .iload_n 2, 1), (5, .aload_n 0, 1), (6, .getfield 610, 3), (9, .if_icmp .ge 39, 3),
  (12, .iload_n 1, 1), (13, .aload_n 0, 1), (14, .iload_n 2, 1), (15, .invokevirtual 192, 3), (18, .ifCond .eq 21, 3), (21, .aload_n 0, 1), (22, .getfield 616, 3), (25, .iload_n 2, 1),
  (26, .iaload, 1), (27, .aload_n 0, 1), (28, .iload_n 2, 1), (29, .invokevirtual 194, 3), (32, .if_icmp .eq 7, 3), (35, .iconst 1, 1), (36, .goto 4, 3), (39, .iconst 0, 1),
  (40, .iadd, 1), (41, .istore_n 1, 1), (42, .iinc 2 1, 3), (45, .goto (-41), 3), (48, .iload_n 1, 1), (49, .ireturn, 1)]
def xm_195 : xrM := ((9, 0, ⟨"HexTemplatesModel", "wrongs", "()I"⟩), (prog_11_method_53_code, 3, (some FieldType.int)), [], xc_195)
-- 196: HexTemplatesModel.node(II)I
def xc_196 : xrC := [(0, .aload_n 0, 1), (1, .aload_n 0, 1), (2, .iload_n 1, 1), (3, .invokevirtual 191, 3), (6, .ifCond .ne 7, 3), (9, .iconst 1, 1), (10, .goto 18, 3), (13, .iload_n 2, 1),
  (14, .iconst 0, 1), (15, .bipush 6, 2), (17, .invokestatic 146, 3), (20, .ifCond .ne 7, 3), (23, .iconst 2, 1), (24, .goto 4, 3), (27, .iconst 0, 1), (28, .putfield 576, 3),
  (31, .aload_n 0, 1), (32, .getfield 576, 3), (35, .ifCond .le 5, 3), (38, .iconst 0, 1), (39, .ireturn, 1), (40, .iload_n 2, 1), (41, .tableswitch 81 0 5 #[39, 46, 53, 60, 67, 74], 39), (80, .aload_n 0, 1),
  (81, .getfield 612, 3), (84, .iload_n 1, 1), (85, .iaload, 1), (86, .ireturn, 1), (87, .aload_n 0, 1), (88, .getfield 613, 3), (91, .iload_n 1, 1), (92, .iaload, 1),
  (93, .ireturn, 1), (94, .aload_n 0, 1), (95, .getfield 614, 3), (98, .iload_n 1, 1), (99, .iaload, 1), (100, .ireturn, 1), (101, .aload_n 0, 1), (102, .getfield 615, 3),
  (105, .iload_n 1, 1), (106, .iaload, 1), (107, .ireturn, 1), (108, .aload_n 0, 1), (109, .getfield 616, 3), (112, .iload_n 1, 1), (113, .iaload, 1), (114, .ireturn, 1),
  (115, .aload_n 0, 1), (116, .getfield 617, 3), (119, .iload_n 1, 1), (120, .iaload, 1), (121, .ireturn, 1), (122, .aload_n 0, 1), (123, .iload_n 1, 1), (124, .invokevirtual 192, 3),
  (127, .ifCond .eq 21, 3), (130, .aload_n 0, 1), (131, .getfield 616, 3), (134, .iload_n 1, 1), (135, .iaload, 1), (136, .aload_n 0, 1), (137, .iload_n 1, 1), (138, .invokevirtual 194, 3),
  (141, .if_icmp .eq 7, 3), (144, .iconst 0, 1), (145, .goto 4, 3), (148, .iconst 1, 1), (149, .ireturn, 1)]
def xm_196 : xrM := ((9, 2, ⟨"HexTemplatesModel", "node", "(II)I"⟩), (prog_11_method_54_code, 3, (some FieldType.int)), [], xc_196)
-- 197: HexTemplatesModel.wrong()I
def xc_197 : xrC := [(0, .aload_n 0, 1), (1, .iconst 0, 1), (2, .putfield 576, 3), (5, .aload_n 0, 1), (6, .invokevirtual 187, 3), (9, .pop, 1), (10, .aload_n 0, 1), (11, .invokevirtual 195, 3),
  (14, .ireturn, 1)]
def xm_197 : xrM := ((9, 0, ⟨"HexTemplatesModel", "wrong", "()I"⟩), (prog_11_method_55_code, 1, (some FieldType.int)), [], xc_197)
-- 198: HexTemplatesModel.wrongByAll()I
def xc_198 : xrC := [(0, .aload_n 0, 1), (1, .invokevirtual 197, 3), (4, .ireturn, 1)]
def xm_198 : xrM := ((9, 0, ⟨"HexTemplatesModel", "wrongByAll", "()I"⟩), (prog_11_method_56_code, 1, (some FieldType.int)), [], xc_198)
-- 199: HexTemplatesModel.follow(I)I
def xc_199 : xrC := [(0, .aload_n 0, 1), (1, .aload_n 0, 1), (2, .iload_n 1, 1), (3, .invokevirtual 191, 3), (6, .ifCond .ne 7, 3), (9, .iconst 1, 1), (10, .goto 18, 3), (13, .aload_n 0, 1),
  (14, .getfield 612, 3), (17, .iload_n 1, 1), (18, .iaload, 1), (19, .iconst 3, 1), (20, .if_icmp .eq 7, 3), (23, .iconst 2, 1), (24, .goto 4, 3), (27, .iconst 0, 1),
  (28, .putfield 576, 3), (31, .aload_n 0, 1), (32, .getfield 576, 3), (35, .ifCond .le 5, 3), (38, .iconst 0, 1), (39, .ireturn, 1), (40, .aload_n 0, 1), (41, .getfield 616, 3),
  (44, .iload_n 1, 1), (45, .iaload, 1), (46, .istore_n 2, 1), (47, .aload_n 0, 1), (48, .getfield 603, 3), (51, .sipush 200, 3), (54, .idiv, 1), (55, .istore_n 3, 1),
  (56, .aload_n 0, 1), (57, .getfield 583, 3), (60, .bipush 26, 2), (62, .iload_n 3, 1), (63, .imul, 1), (64, .aload_n 0, 1), (65, .getfield 581, 3), (68, .aload_n 0, 1),
  (69, .getfield 603, 3), (72, .aload_n 0, 1), (73, .getfield 588, 3), (76, .aload_n 0, 1), (77, .getfield 618, 3), (80, .iload_n 1, 1), (81, .iaload, 1), (82, .iaload, 1),
  (83, .iadd, 1), (84, .iaload, 1), (85, .iadd, 1), (86, .bipush 65, 2), (88, .isub, 1), (89, .iaload, 1), (90, .istore 4, 2), (92, .aload_n 0, 1),
  (93, .iload_n 3, 1), (94, .iload 4, 2), (96, .iload_n 2, 1), (97, .invokevirtual 186, 3), (100, .ifCond .eq 12, 3), (103, .aload_n 0, 1), (104, .getfield 607, 3), (107, .iload_n 2, 1),
  (108, .isub, 1), (109, .goto 4, 3), (112, .iconst (-1), 1), (113, .ireturn, 1)]
def xm_199 : xrM := ((9, 1, ⟨"HexTemplatesModel", "follow", "(I)I"⟩), (prog_11_method_57_code, 5, (some FieldType.int)), [], xc_199)
-- 200: HexTemplatesModel.chain(I)I
def xc_200 : xrC := [(0, .aload_n 0, 1), (1, .aload_n 0, 1), (2, .iload_n 1, 1), (3, .invokevirtual 191, 3), (6, .ifCond .ne 7, 3), (9, .iconst 1, 1), (10, .goto 18, 3), (13, .aload_n 0, 1),
  (14, .getfield 612, 3), (17, .iload_n 1, 1), (18, .iaload, 1), (19, .iconst 3, 1), (20, .if_icmp .eq 7, 3), (23, .iconst 2, 1), (24, .goto 4, 3), (27, .iconst 0, 1),
  (28, .putfield 576, 3), (31, .aload_n 0, 1), (32, .getfield 576, 3), (35, .ifCond .le 5, 3), (38, .iconst 0, 1), (39, .ireturn, 1), (40, .aload_n 0, 1), (41, .getfield 603, 3),
  (44, .sipush 200, 3), (47, .idiv, 1), (48, .istore_n 2, 1), (49, .iload_n 1, 1), (50, .istore_n 3, 1), (51, .iconst 0, 1), (52, .istore 4, 2), (54, .iload_n 3, 1),
  (55, .iconst (-1), 1), (56, .if_icmp .eq 171, 3), (59, .aload_n 0, 1), (60, .getfield 616, 3), (63, .iload_n 3, 1), (64, .iaload, 1), (65, .istore 5, 2), (67, .aload_n 0, 1),
  (68, .getfield 583, 3), (71, .bipush 26, 2), (73, .iload_n 2, 1), (74, .imul, 1), (75, .aload_n 0, 1), (76, .getfield 581, 3), (79, .aload_n 0, 1), (80, .getfield 603, 3),
  (83, .aload_n 0, 1), (84, .getfield 588, 3), (87, .aload_n 0, 1), (88, .getfield 618, 3), (91, .iload_n 3, 1), (92, .iaload, 1), (93, .iaload, 1), (94, .iadd, 1),
  (95, .iaload, 1), (96, .iadd, 1), (97, .bipush 65, 2), (99, .isub, 1), (100, .iaload, 1), (101, .istore 6, 2), (103, .iconst 0, 1), (104, .istore 7, 2),
  (106, .iload 7, 2), (108, .iload 4, 2), (110, .if_icmp .ge 31, 3), (113, .aload_n 0, 1), (114, .getfield 633, 3), (117, .iload 7, 2), (119, .iaload, 1), (120, .sipush 1000, 3),
  (123, .iload 6, 2), (125, .imul, 1), (126, .iload 5, 2), (128, .iadd, 1), (129, .if_icmp .ne 6, 3), (132, .bipush (-2), 2), (134, .ireturn, 1), (135, .iinc 7 1, 3),
  (138, .goto (-32), 3), (141, .aload_n 0, 1), (142, .iload_n 2, 1), (143, .iload 6, 2), (145, .iload 5, 2), (147, .invokevirtual 186, 3), (150, .ifCond .ne 6, 3), (153, .iload 4, 2),
  (155, .ireturn, 1), (156, .aload_n 0, 1), (157, .getfield 633, 3), (160, .iload 4, 2), (162, .sipush 1000, 3), (165, .iload 6, 2), (167, .imul, 1), (168, .iload 5, 2),
  (170, .iadd, 1), (171, .iastore, 1), (172, .iinc 4 1, 3), (175, .iconst (-1), 1), (176, .istore_n 3, 1), (177, .aload_n 0, 1), (178, .getfield 610, 3), (181, .iconst 1, 1),
  (182, .isub, 1), (183, .istore 7, 2), (185, .iload 7, 2), (187, .ifCond .le 37, 3), (190, .aload_n 0, 1), (191, .getfield 617, 3), (194, .iload 7, 2), (196, .iaload, 1),
  (197, .ifCond .ne 19, 3), (200, .aload_n 0, 1), (201, .getfield 612, 3), (204, .iload 7, 2), (206, .iaload, 1), (207, .iconst 3, 1), (208, .if_icmp .ne 8, 3), (211, .iload 7, 2),
  (213, .goto 4, 3), (216, .iload_n 3, 1), (217, .istore_n 3, 1), (218, .iinc 7 (-1), 3), (221, .goto (-36), 3), (224, .goto (-170), 3), (227, .iload 4, 2), (229, .ireturn, 1)]
def xm_200 : xrM := ((9, 1, ⟨"HexTemplatesModel", "chain", "(I)I"⟩), (prog_11_method_58_code, 8, (some FieldType.int)), [], xc_200)
-- 201: HexTemplatesModel.find(III)I
def xc_201 : xrC := [(0, .aload_n 0, 1), (1, .iload_n 1, 1), (2, .iconst 0, 1), (3, .sipush 255, 3), (6, .invokestatic 146, 3), (9, .ifCond .eq 29, 3), (12, .iload_n 2, 1), (13, .iconst 0, 1),
  (14, .sipush 255, 3), (17, .invokestatic 146, 3), (20, .ifCond .eq 18, 3), (23, .iload_n 3, 1), (24, .iconst 0, 1), (25, .sipush 200, 3), (28, .invokestatic 146, 3), (31, .ifCond .eq 7, 3),
  (34, .iconst 0, 1), (35, .goto 4, 3), (38, .iconst 1, 1), (39, .putfield 576, 3), (42, .aload_n 0, 1), (43, .getfield 576, 3), (46, .ifCond .le 5, 3), (49, .iconst 0, 1),
  (50, .ireturn, 1), (51, .iload_n 3, 1), (52, .istore 4, 2), (54, .iload 4, 2), (56, .aload_n 0, 1), (57, .getfield 594, 3), (60, .if_icmp .ge 27, 3), (63, .aload_n 0, 1),
  (64, .getfield 595, 3), (67, .iload 4, 2), (69, .iaload, 1), (70, .iload_n 2, 1), (71, .iand, 1), (72, .iload_n 1, 1), (73, .iload_n 2, 1), (74, .iand, 1),
  (75, .if_icmp .ne 6, 3), (78, .iload 4, 2), (80, .ireturn, 1), (81, .iinc 4 1, 3), (84, .goto (-30), 3), (87, .iconst (-1), 1), (88, .ireturn, 1)]
def xm_201 : xrM := ((9, 3, ⟨"HexTemplatesModel", "find", "(III)I"⟩), (prog_11_method_59_code, 5, (some FieldType.int)), [], xc_201)
-- 202: HexTemplatesModel.findField(III)I
def xc_202 : xrC := [(0, .aload_n 0, 1), (1, .iload_n 1, 1), (2, .iconst 0, 1), (3, .bipush 25, 2), (5, .invokestatic 146, 3), (8, .ifCond .eq 29, 3), (11, .iload_n 2, 1), (12, .iconst 0, 1),
  (13, .jsr 65535, 3), (16, .invokestatic 146, 3), (19, .ifCond .eq 18, 3), (22, .iload_n 3, 1), (23, .iconst 0, 1), (24, .sipush 200, 3), (27, .invokestatic 146, 3), (30, .ifCond .eq 7, 3),
  (33, .iconst 0, 1), (34, .goto 4, 3), (37, .iconst 1, 1), (38, .putfield 576, 3), (41, .aload_n 0, 1), (42, .getfield 576, 3), (45, .ifCond .le 5, 3), (48, .iconst 0, 1),
  (49, .ireturn, 1), (50, .aload_n 0, 1), (51, .invokevirtual 187, 3), (54, .pop, 1), (55, .iload_n 3, 1), (56, .istore 4, 2), (58, .iload 4, 2), (60, .aload_n 0, 1),
  (61, .getfield 610, 3), (64, .if_icmp .ge 49, 3), (67, .aload_n 0, 1), (68, .getfield 612, 3), (71, .iload 4, 2), (73, .iaload, 1), (74, .iconst 2, 1), (75, .iconst 4, 1),
  (76, .invokestatic 146, 3), (79, .ifCond .eq 28, 3), (82, .aload_n 0, 1), (83, .getfield 613, 3), (86, .iload 4, 2), (88, .iaload, 1), (89, .iload_n 1, 1), (90, .if_icmp .ne 17, 3),
  (93, .aload_n 0, 1), (94, .getfield 616, 3), (97, .iload 4, 2), (99, .iaload, 1), (100, .iload_n 2, 1), (101, .if_icmp .ne 6, 3), (104, .iload 4, 2), (106, .ireturn, 1),
  (107, .iinc 4 1, 3), (110, .goto (-52), 3), (113, .iconst (-1), 1), (114, .ireturn, 1)]
def xm_202 : xrM := ((9, 3, ⟨"HexTemplatesModel", "findField", "(III)I"⟩), (prog_11_method_60_code, 5, (some FieldType.int)), [], xc_202)
-- 203: HexTemplatesModel.saves()V
def xc_203 : xrC := [(0, .aload_n 0, 1), (1, .aload_n 0, 1), (2, .getfield 594, 3), (5, .putfield 596, 3), (8, .iconst 0, 1), (9, .istore_n 1, 1), (10, .iload_n 1, 1), (11, .aload_n 0, 1),
  (12, .getfield 594, 3), (15, .if_icmp .ge 21, 3), (18, .aload_n 0, 1), (19, .getfield 597, 3), (22, .iload_n 1, 1), (23, .aload_n 0, 1), (24, .getfield 595, 3), (27, .iload_n 1, 1),
  (28, .iaload, 1), (29, .iastore, 1), (30, .iinc 1 1, 3), (33, .goto (-23), 3), (36, .return_, 1)]
def xm_203 : xrM := ((9, 0, ⟨"HexTemplatesModel", "saves", "()V"⟩), (prog_11_method_61_code, 2, (none)), [], xc_203)
-- 204: HexTemplatesModel.ends(ZI)I
def xc_204 : xrC := [(0, .iload_n 1, 1), (1, .ifCond .eq 8, 3), (4, .aload_n 0, 1), (5, .invokevirtual 148, 3), (8, .ireturn, 1), (9, .aload_n 0, 1), (10, .aload_n 0, 1), (11, .getfield 596, 3),
  (14, .putfield 594, 3), (17, .iconst 0, 1), (18, .istore_n 3, 1), (19, .iload_n 3, 1), (20, .aload_n 0, 1), (21, .getfield 594, 3), (24, .if_icmp .ge 21, 3), (27, .aload_n 0, 1),
  (28, .getfield 595, 3), (31, .iload_n 3, 1), (32, .aload_n 0, 1), (33, .getfield 597, 3), (36, .iload_n 3, 1), (37, .iaload, 1), (38, .iastore, 1), (39, .iinc 3 1, 3),
  (42, .goto (-23), 3), (45, .aload_n 0, 1), (46, .iload_n 2, 1), (47, .invokevirtual 145, 3), (50, .ireturn, 1)]
def xm_204 : xrM := ((9, 2, ⟨"HexTemplatesModel", "ends", "(ZI)I"⟩), (prog_11_method_62_code, 4, (some FieldType.int)), [], xc_204)
-- 205: HexTemplatesModel.writes(II)V
def xc_205 : xrC := [(0, .aload_n 0, 1), (1, .getfield 618, 3), (4, .iload_n 1, 1), (5, .iaload, 1), (6, .istore_n 3, 1), (7, .aload_n 0, 1), (8, .getfield 614, 3), (11, .iload_n 1, 1),
  (12, .iaload, 1), (13, .istore 4, 2), (15, .aload_n 0, 1), (16, .getfield 587, 3), (19, .iload_n 3, 1), (20, .iaload, 1), (21, .bipush 119, 2), (23, .if_icmp .eq 14, 3),
  (26, .aload_n 0, 1), (27, .getfield 587, 3), (30, .iload_n 3, 1), (31, .iaload, 1), (32, .bipush 87, 2), (34, .if_icmp .ne 68, 3), (37, .aload_n 0, 1), (38, .getfield 595, 3),
  (41, .iload 4, 2), (43, .aload_n 0, 1), (44, .getfield 587, 3), (47, .iload_n 3, 1), (48, .iaload, 1), (49, .bipush 119, 2), (51, .if_icmp .ne 11, 3), (54, .iload_n 2, 1),
  (55, .sipush 255, 3), (58, .iand, 1), (59, .goto 7, 3), (62, .iload_n 2, 1), (63, .bipush 8, 2), (65, .ishr, 1), (66, .iastore, 1), (67, .aload_n 0, 1),
  (68, .getfield 595, 3), (71, .iload 4, 2), (73, .iconst 1, 1), (74, .iadd, 1), (75, .aload_n 0, 1), (76, .getfield 587, 3), (79, .iload_n 3, 1), (80, .iaload, 1),
  (81, .bipush 119, 2), (83, .if_icmp .ne 10, 3), (86, .iload_n 2, 1), (87, .bipush 8, 2), (89, .ishr, 1), (90, .goto 8, 3), (93, .iload_n 2, 1), (94, .sipush 255, 3),
  (97, .iand, 1), (98, .iastore, 1), (99, .goto 78, 3), (102, .aload_n 0, 1), (103, .getfield 587, 3), (106, .iload_n 3, 1), (107, .iaload, 1), (108, .bipush 110, 2),
  (110, .if_icmp .ne 59, 3), (113, .bipush 8, 2), (115, .aload_n 0, 1), (116, .getfield 619, 3), (119, .iload_n 1, 1), (120, .iaload, 1), (121, .isub, 1), (122, .aload_n 0, 1),
  (123, .getfield 589, 3), (126, .iload_n 3, 1), (127, .iaload, 1), (128, .isub, 1), (129, .istore 5, 2), (131, .aload_n 0, 1), (132, .getfield 595, 3), (135, .iload 4, 2),
  (137, .aload_n 0, 1), (138, .getfield 595, 3), (141, .iload 4, 2), (143, .iaload, 1), (144, .iconst 1, 1), (145, .aload_n 0, 1), (146, .getfield 589, 3), (149, .iload_n 3, 1),
  (150, .iaload, 1), (151, .ishl, 1), (152, .iconst 1, 1), (153, .isub, 1), (154, .iload 5, 2), (156, .ishl, 1), (157, .iconst (-1), 1), (158, .ixor, 1),
  (159, .iand, 1), (160, .iload_n 2, 1), (161, .iload 5, 2), (163, .ishl, 1), (164, .ior, 1), (165, .iastore, 1), (166, .goto 11, 3), (169, .aload_n 0, 1),
  (170, .getfield 595, 3), (173, .iload 4, 2), (175, .iload_n 2, 1), (176, .iastore, 1), (177, .aload_n 0, 1), (178, .getfield 616, 3), (181, .iload_n 1, 1), (182, .iload_n 2, 1),
  (183, .iastore, 1), (184, .return_, 1)]
def xm_205 : xrM := ((9, 2, ⟨"HexTemplatesModel", "writes", "(II)V"⟩), (prog_11_method_63_code, 6, (none)), [], xc_205)
-- 206: HexTemplatesModel.liesIn(II)Z
def xc_206 : xrC := [(0, .iload_n 1, 1), (1, .istore_n 3, 1), (2, .iload_n 3, 1), (3, .iconst (-1), 1), (4, .if_icmp .eq 18, 3), (7, .iload_n 3, 1), (8, .iload_n 2, 1), (9, .if_icmp .eq 13, 3),
  (12, .aload_n 0, 1), (13, .getfield 617, 3), (16, .iload_n 3, 1), (17, .iaload, 1), (18, .istore_n 3, 1), (19, .goto (-17), 3), (22, .iload_n 3, 1), (23, .iload_n 2, 1),
  (24, .if_icmp .ne 7, 3), (27, .iconst 1, 1), (28, .goto 4, 3), (31, .iconst 0, 1), (32, .ireturn, 1)]
def xm_206 : xrM := ((9, 2, ⟨"HexTemplatesModel", "liesIn", "(II)Z"⟩), (prog_11_method_64_code, 4, (some FieldType.boolean)), [], xc_206)
-- 207: HexTemplatesModel.moves(IIIZI)Z
def xc_207 : xrC := [(0, .iconst 1, 1), (1, .istore 6, 2), (3, .iconst 0, 1), (4, .istore 7, 2), (6, .iload 7, 2), (8, .aload_n 0, 1), (9, .getfield 610, 3), (12, .if_icmp .ge 234, 3),
  (15, .aload_n 0, 1), (16, .getfield 612, 3), (19, .iload 7, 2), (21, .iaload, 1), (22, .iconst 3, 1), (23, .if_icmp .ne 96, 3), (26, .aload_n 0, 1), (27, .getfield 616, 3),
  (30, .iload 7, 2), (32, .iaload, 1), (33, .istore 8, 2), (35, .iload 4, 2), (37, .ifCond .eq 21, 3), (40, .iload 8, 2), (42, .iload_n 2, 1), (43, .if_icmp .lt 10, 3),
  (46, .iload 8, 2), (48, .iload_n 3, 1), (49, .iadd, 1), (50, .goto 35, 3), (53, .iload 8, 2), (55, .goto 30, 3), (58, .iload 8, 2), (60, .iload_n 2, 1),
  (61, .iload_n 3, 1), (62, .iadd, 1), (63, .if_icmp .lt 10, 3), (66, .iload 8, 2), (68, .iload_n 3, 1), (69, .isub, 1), (70, .goto 15, 3), (73, .iload 8, 2),
  (75, .iload_n 2, 1), (76, .if_icmp .le 7, 3), (79, .iload_n 2, 1), (80, .goto 5, 3), (83, .iload 8, 2), (85, .istore 9, 2), (87, .iload 6, 2), (89, .ifCond .eq 15, 3),
  (92, .iload 9, 2), (94, .sipush 255, 3), (97, .if_icmp .gt 7, 3), (100, .iconst 1, 1), (101, .goto 4, 3), (104, .iconst 0, 1), (105, .istore 6, 2), (107, .aload_n 0, 1),
  (108, .getfield 631, 3), (111, .iload 7, 2), (113, .iload 9, 2), (115, .iastore, 1), (116, .goto 124, 3), (119, .aload_n 0, 1), (120, .iload 7, 2), (122, .invokevirtual 192, 3),
  (125, .ifCond .eq 107, 3), (128, .aload_n 0, 1), (129, .iload 7, 2), (131, .invokevirtual 193, 3), (134, .istore 8, 2), (136, .aload_n 0, 1), (137, .getfield 592, 3), (140, .aload_n 0, 1),
  (141, .getfield 618, 3), (144, .iload 7, 2), (146, .iaload, 1), (147, .iaload, 1), (148, .istore 9, 2), (150, .aload_n 0, 1), (151, .getfield 631, 3), (154, .iload 7, 2),
  (156, .iload 9, 2), (158, .bipush 35, 2), (160, .if_icmp .ne 35, 3), (163, .aload_n 0, 1), (164, .iload_n 1, 1), (165, .iload 8, 2), (167, .invokevirtual 206, 3), (170, .ifCond .eq 25, 3),
  (173, .aload_n 0, 1), (174, .getfield 615, 3), (177, .iload 8, 2), (179, .iaload, 1), (180, .iload 4, 2), (182, .ifCond .eq 7, 3), (185, .iload_n 3, 1), (186, .goto 5, 3),
  (189, .iload_n 3, 1), (190, .ineg, 1), (191, .iadd, 1), (192, .goto 36, 3), (195, .iload 9, 2), (197, .bipush 37, 2), (199, .if_icmp .ne 22, 3), (202, .iload 8, 2),
  (204, .iload_n 1, 1), (205, .if_icmp .ne 16, 3), (208, .aload_n 0, 1), (209, .getfield 616, 3), (212, .iload 8, 2), (214, .iaload, 1), (215, .iload 5, 2), (217, .iadd, 1),
  (218, .goto 10, 3), (221, .aload_n 0, 1), (222, .getfield 616, 3), (225, .iload 7, 2), (227, .iaload, 1), (228, .iastore, 1), (229, .goto 11, 3), (232, .aload_n 0, 1),
  (233, .getfield 631, 3), (236, .iload 7, 2), (238, .iconst (-1), 1), (239, .iastore, 1), (240, .iinc 7 1, 3), (243, .goto (-237), 3), (246, .iconst 0, 1), (247, .istore 7, 2),
  (249, .iload 7, 2), (251, .aload_n 0, 1), (252, .getfield 610, 3), (255, .if_icmp .ge 66, 3), (258, .iload 6, 2), (260, .ifCond .eq 61, 3), (263, .aload_n 0, 1), (264, .getfield 631, 3),
  (267, .iload 7, 2), (269, .iaload, 1), (270, .iconst (-1), 1), (271, .if_icmp .eq 44, 3), (274, .aload_n 0, 1), (275, .getfield 612, 3), (278, .iload 7, 2), (280, .iaload, 1),
  (281, .iconst 3, 1), (282, .if_icmp .eq 20, 3), (285, .aload_n 0, 1), (286, .getfield 631, 3), (289, .iload 7, 2), (291, .iaload, 1), (292, .aload_n 0, 1), (293, .getfield 616, 3),
  (296, .iload 7, 2), (298, .iaload, 1), (299, .if_icmp .eq 16, 3), (302, .aload_n 0, 1), (303, .iload 7, 2), (305, .aload_n 0, 1), (306, .getfield 631, 3), (309, .iload 7, 2),
  (311, .iaload, 1), (312, .invokevirtual 205, 3), (315, .iinc 7 1, 3), (318, .goto (-69), 3), (321, .iload 6, 2), (323, .ireturn, 1)]
def xm_207 : xrM := ((9, 5, ⟨"HexTemplatesModel", "moves", "(IIIZI)Z"⟩), (prog_11_method_65_code, 10, (some FieldType.boolean)), [], xc_207)
-- 208: HexTemplatesModel.opens(II)V
def xc_208 : xrC := [(0, .aload_n 0, 1), (1, .getfield 594, 3), (4, .iconst 1, 1), (5, .isub, 1), (6, .istore_n 3, 1), (7, .iload_n 3, 1), (8, .iload_n 1, 1), (9, .if_icmp .lt 23, 3),
  (12, .aload_n 0, 1), (13, .getfield 595, 3), (16, .iload_n 3, 1), (17, .iload_n 2, 1), (18, .iadd, 1), (19, .aload_n 0, 1), (20, .getfield 595, 3), (23, .iload_n 3, 1),
  (24, .iaload, 1), (25, .iastore, 1), (26, .iinc 3 (-1), 3), (29, .goto (-22), 3), (32, .aload_n 0, 1), (33, .dup, 1), (34, .getfield 594, 3), (37, .iload_n 2, 1),
  (38, .iadd, 1), (39, .putfield 594, 3), (42, .return_, 1)]
def xm_208 : xrM := ((9, 2, ⟨"HexTemplatesModel", "opens", "(II)V"⟩), (prog_11_method_66_code, 4, (none)), [], xc_208)
-- 209: HexTemplatesModel.closes(II)V
def xc_209 : xrC := [(0, .iload_n 1, 1), (1, .iload_n 2, 1), (2, .iadd, 1), (3, .istore_n 3, 1), (4, .iload_n 3, 1), (5, .aload_n 0, 1), (6, .getfield 594, 3), (9, .if_icmp .ge 23, 3),
  (12, .aload_n 0, 1), (13, .getfield 595, 3), (16, .iload_n 3, 1), (17, .iload_n 2, 1), (18, .isub, 1), (19, .aload_n 0, 1), (20, .getfield 595, 3), (23, .iload_n 3, 1),
  (24, .iaload, 1), (25, .iastore, 1), (26, .iinc 3 1, 3), (29, .goto (-25), 3), (32, .aload_n 0, 1), (33, .dup, 1), (34, .getfield 594, 3), (37, .iload_n 2, 1),
  (38, .isub, 1), (39, .putfield 594, 3), (42, .return_, 1)]
def xm_209 : xrM := ((9, 2, ⟨"HexTemplatesModel", "closes", "(II)V"⟩), (prog_11_method_67_code, 4, (none)), [], xc_209)
-- 210: HexTemplatesModel.isLong(I)Z
def xc_210 : xrC := [(0, .aload_n 0, 1), (1, .getfield 592, 3), (4, .aload_n 0, 1), (5, .getfield 618, 3), (8, .iload_n 1, 1), (9, .iaload, 1), (10, .iaload, 1), (11, .bipush 35, 2),
  (13, .if_icmp .eq 19, 3), (16, .aload_n 0, 1), (17, .getfield 592, 3), (20, .aload_n 0, 1), (21, .getfield 618, 3), (24, .iload_n 1, 1), (25, .iaload, 1), (26, .iaload, 1),
  (27, .bipush 37, 2), (29, .if_icmp .ne 7, 3), (32, .iconst 1, 1), (33, .goto 4, 3), (36, .iconst 0, 1), (37, .ireturn, 1)]
def xm_210 : xrM := ((9, 1, ⟨"HexTemplatesModel", "isLong", "(I)Z"⟩), (prog_11_method_68_code, 2, (some FieldType.boolean)), [], xc_210)
-- 211: HexTemplatesModel.settles(I)Z
def xc_211 : xrC := [(0, .aload_n 0, 1), (1, .getfield 594, 3), (4, .sipush 160, 3), (7, .if_icmp .gt 7, 3), (10, .iconst 1, 1), (11, .goto 4, 3), (14, .iconst 0, 1), (15, .istore_n 2, 1),
  (16, .iload_n 2, 1), (17, .ifCond .ne 5, 3), (20, .iconst 0, 1), (21, .ireturn, 1), (22, .iconst 0, 1), (23, .istore_n 3, 1), (24, .iload_n 3, 1), (25, .iconst 4, 1),
  (26, .if_icmp .ge 30, 3), (29, .iload_n 2, 1), (30, .ifCond .eq 26, 3), (33, .aload_n 0, 1), (34, .iload_n 1, 1), (35, .iconst 0, 1), (36, .iconst 0, 1), (37, .invokevirtual 186, 3),
  (40, .ifCond .ne 5, 3), (43, .iconst 0, 1), (44, .ireturn, 1), (45, .aload_n 0, 1), (46, .invokevirtual 212, 3), (49, .istore_n 2, 1), (50, .iinc 3 1, 3), (53, .goto (-29), 3),
  (56, .aload_n 0, 1), (57, .iload_n 1, 1), (58, .iconst 0, 1), (59, .iconst 0, 1), (60, .invokevirtual 186, 3), (63, .ifCond .ne 5, 3), (66, .iconst 0, 1), (67, .ireturn, 1),
  (68, .iconst 0, 1), (69, .istore_n 3, 1), (70, .iload_n 3, 1), (71, .aload_n 0, 1), (72, .getfield 610, 3), (75, .if_icmp .ge 69, 3), (78, .aload_n 0, 1), (79, .iload_n 3, 1),
  (80, .invokevirtual 192, 3), (83, .istore 4, 2), (85, .iload 4, 2), (87, .ifCond .eq 27, 3), (90, .aload_n 0, 1), (91, .iload_n 3, 1), (92, .invokevirtual 210, 3), (95, .ifCond .eq 19, 3),
  (98, .aload_n 0, 1), (99, .getfield 616, 3), (102, .iload_n 3, 1), (103, .iaload, 1), (104, .aload_n 0, 1), (105, .iload_n 3, 1), (106, .invokevirtual 194, 3), (109, .if_icmp .eq 5, 3),
  (112, .iconst 0, 1), (113, .ireturn, 1), (114, .aload_n 0, 1), (115, .getfield 632, 3), (118, .iload_n 3, 1), (119, .iload 4, 2), (121, .ifCond .eq 15, 3), (124, .aload_n 0, 1),
  (125, .iload_n 3, 1), (126, .invokevirtual 210, 3), (129, .ifCond .ne 7, 3), (132, .iconst 1, 1), (133, .goto 4, 3), (136, .iconst 0, 1), (137, .bastore, 1), (138, .iinc 3 1, 3),
  (141, .goto (-71), 3), (144, .aload_n 0, 1), (145, .invokevirtual 213, 3), (148, .istore_n 3, 1), (149, .iload_n 3, 1), (150, .ifCond .lt 28, 3), (153, .aload_n 0, 1), (154, .iload_n 3, 1),
  (155, .aload_n 0, 1), (156, .iload_n 3, 1), (157, .invokevirtual 194, 3), (160, .invokevirtual 205, 3), (163, .aload_n 0, 1), (164, .getfield 632, 3), (167, .iload_n 3, 1), (168, .iconst 0, 1),
  (169, .bastore, 1), (170, .aload_n 0, 1), (171, .invokevirtual 213, 3), (174, .istore_n 3, 1), (175, .goto (-26), 3), (178, .iload_n 3, 1), (179, .iconst (-1), 1), (180, .if_icmp .ne 24, 3),
  (183, .aload_n 0, 1), (184, .iload_n 1, 1), (185, .iconst 0, 1), (186, .iconst 0, 1), (187, .invokevirtual 186, 3), (190, .ifCond .eq 14, 3), (193, .aload_n 0, 1), (194, .invokevirtual 195, 3),
  (197, .ifCond .ne 7, 3), (200, .iconst 1, 1), (201, .goto 4, 3), (204, .iconst 0, 1), (205, .ireturn, 1)]
def xm_211 : xrM := ((9, 1, ⟨"HexTemplatesModel", "settles", "(I)Z"⟩), (prog_11_method_69_code, 5, (some FieldType.boolean)), [], xc_211)
-- 212: HexTemplatesModel.putsRight()Z
def xc_212 : xrC := [(0, .iconst 0, 1), (1, .istore_n 1, 1), (2, .iconst 0, 1), (3, .istore_n 2, 1), (4, .iload_n 2, 1), (5, .aload_n 0, 1), (6, .getfield 610, 3), (9, .if_icmp .ge 45, 3),
  (12, .aload_n 0, 1), (13, .getfield 631, 3), (16, .iload_n 2, 1), (17, .aload_n 0, 1), (18, .iload_n 2, 1), (19, .invokevirtual 192, 3), (22, .ifCond .eq 19, 3), (25, .aload_n 0, 1),
  (26, .iload_n 2, 1), (27, .invokevirtual 210, 3), (30, .ifCond .eq 11, 3), (33, .aload_n 0, 1), (34, .iload_n 2, 1), (35, .invokevirtual 194, 3), (38, .goto 9, 3), (41, .aload_n 0, 1),
  (42, .getfield 616, 3), (45, .iload_n 2, 1), (46, .iaload, 1), (47, .iastore, 1), (48, .iinc 2 1, 3), (51, .goto (-47), 3), (54, .iconst 0, 1), (55, .istore_n 2, 1),
  (56, .iload_n 2, 1), (57, .aload_n 0, 1), (58, .getfield 610, 3), (61, .if_icmp .ge 45, 3), (64, .aload_n 0, 1), (65, .iload_n 2, 1), (66, .invokevirtual 192, 3), (69, .ifCond .eq 31, 3),
  (72, .aload_n 0, 1), (73, .getfield 631, 3), (76, .iload_n 2, 1), (77, .iaload, 1), (78, .aload_n 0, 1), (79, .getfield 616, 3), (82, .iload_n 2, 1), (83, .iaload, 1),
  (84, .if_icmp .eq 16, 3), (87, .aload_n 0, 1), (88, .iload_n 2, 1), (89, .aload_n 0, 1), (90, .getfield 631, 3), (93, .iload_n 2, 1), (94, .iaload, 1), (95, .invokevirtual 205, 3),
  (98, .iconst 1, 1), (99, .istore_n 1, 1), (100, .iinc 2 1, 3), (103, .goto (-47), 3), (106, .iload_n 1, 1), (107, .ireturn, 1)]
def xm_212 : xrM := ((9, 0, ⟨"HexTemplatesModel", "putsRight", "()Z"⟩), (prog_11_method_70_code, 3, (some FieldType.boolean)), [], xc_212)
-- 213: HexTemplatesModel.first()I
def xc_213 : xrC := [(0, .iconst (-1), 1), (1, .istore_n 1, 1), (2, .iconst 0, 1), (3, .istore_n 2, 1), (4, .aload_n 0, 1), (5, .getfield 610, 3), (8, .iconst 1, 1), (9, .isub, 1),
  (10, .istore_n 3, 1), (11, .iload_n 3, 1), (12, .ifCond .lt 98, 3), (15, .aload_n 0, 1), (16, .getfield 632, 3), (19, .iload_n 3, 1), (20, .baload, 1), (21, .ifCond .eq 83, 3),
  (24, .aload_n 0, 1), (25, .iload_n 3, 1), (26, .invokevirtual 193, 3), (29, .istore 4, 2), (31, .iconst 1, 1), (32, .istore 5, 2), (34, .iconst 0, 1), (35, .istore 6, 2),
  (37, .iload 6, 2), (39, .aload_n 0, 1), (40, .getfield 610, 3), (43, .if_icmp .ge 48, 3), (46, .iload 5, 2), (48, .ifCond .eq 34, 3), (51, .aload_n 0, 1), (52, .getfield 632, 3),
  (55, .iload 6, 2), (57, .baload, 1), (58, .ifCond .eq 20, 3), (61, .iload 6, 2), (63, .iload_n 3, 1), (64, .if_icmp .eq 14, 3), (67, .aload_n 0, 1), (68, .iload 6, 2),
  (70, .iload 4, 2), (72, .invokevirtual 206, 3), (75, .ifCond .ne 7, 3), (78, .iconst 1, 1), (79, .goto 4, 3), (82, .iconst 0, 1), (83, .istore 5, 2), (85, .iinc 6 1, 3),
  (88, .goto (-51), 3), (91, .iconst 1, 1), (92, .istore_n 2, 1), (93, .iload 5, 2), (95, .ifCond .eq 7, 3), (98, .iload_n 3, 1), (99, .goto 4, 3), (102, .iload_n 1, 1),
  (103, .istore_n 1, 1), (104, .iinc 3 (-1), 3), (107, .goto (-96), 3), (110, .iload_n 1, 1), (111, .iconst (-1), 1), (112, .if_icmp .ne 12, 3), (115, .iload_n 2, 1), (116, .ifCond .eq 8, 3),
  (119, .bipush (-2), 2), (121, .goto 4, 3), (124, .iload_n 1, 1), (125, .ireturn, 1)]
def xm_213 : xrM := ((9, 0, ⟨"HexTemplatesModel", "first", "()I"⟩), (prog_11_method_71_code, 7, (some FieldType.int)), [], xc_213)
-- 214: HexTemplatesModel.set(II)I
def xc_214 : xrC := [(0, .aload_n 0, 1), (1, .aload_n 0, 1), (2, .iload_n 1, 1), (3, .invokevirtual 191, 3), (6, .ifCond .eq 7, 3), (9, .iconst 0, 1), (10, .goto 4, 3), (13, .iconst 1, 1),
  (14, .putfield 576, 3), (17, .aload_n 0, 1), (18, .getfield 576, 3), (21, .ifCond .le 5, 3), (24, .iconst 0, 1), (25, .ireturn, 1), (26, .aload_n 0, 1), (27, .getfield 603, 3),
  (30, .sipush 200, 3), (33, .idiv, 1), (34, .istore_n 3, 1), (35, .aload_n 0, 1), (36, .getfield 612, 3), (39, .iload_n 1, 1), (40, .iaload, 1), (41, .iconst 2, 1),
  (42, .iconst 4, 1), (43, .invokestatic 146, 3), (46, .ifCond .eq 16, 3), (49, .aload_n 0, 1), (50, .getfield 599, 3), (53, .bipush 30, 2), (55, .if_icmp .ge 7, 3), (58, .iconst 1, 1),
  (59, .goto 4, 3), (62, .iconst 0, 1), (63, .istore 4, 2), (65, .aload_n 0, 1), (66, .getfield 618, 3), (69, .iload_n 1, 1), (70, .iaload, 1), (71, .istore 5, 2),
  (73, .iload 4, 2), (75, .ifCond .ne 7, 3), (78, .iconst 0, 1), (79, .goto 62, 3), (82, .aload_n 0, 1), (83, .getfield 587, 3), (86, .iload 5, 2), (88, .iaload, 1),
  (89, .bipush 110, 2), (91, .if_icmp .ne 17, 3), (94, .iconst 1, 1), (95, .aload_n 0, 1), (96, .getfield 589, 3), (99, .iload 5, 2), (101, .iaload, 1), (102, .ishl, 1),
  (103, .iconst 1, 1), (104, .isub, 1), (105, .goto 36, 3), (108, .aload_n 0, 1), (109, .getfield 587, 3), (112, .iload 5, 2), (114, .iaload, 1), (115, .bipush 119, 2),
  (117, .if_icmp .eq 15, 3), (120, .aload_n 0, 1), (121, .getfield 587, 3), (124, .iload 5, 2), (126, .iaload, 1), (127, .bipush 87, 2), (129, .if_icmp .ne 9, 3), (132, .jsr 65535, 3),
  (135, .goto 6, 3), (138, .sipush 255, 3), (141, .istore 6, 2), (143, .iload 4, 2), (145, .ifCond .eq 23, 3), (148, .aload_n 0, 1), (149, .getfield 592, 3), (152, .iload 5, 2),
  (154, .iaload, 1), (155, .ifCond .ne 13, 3), (158, .iload_n 2, 1), (159, .iconst 0, 1), (160, .iload 6, 2), (162, .invokestatic 146, 3), (165, .ifCond .ne 9, 3), (168, .aload_n 0, 1),
  (169, .iconst 2, 1), (170, .invokevirtual 145, 3), (173, .ireturn, 1), (174, .aload_n 0, 1), (175, .invokevirtual 203, 3), (178, .aload_n 0, 1), (179, .iload_n 1, 1), (180, .iload_n 2, 1),
  (181, .invokevirtual 205, 3), (184, .aload_n 0, 1), (185, .aload_n 0, 1), (186, .iload_n 3, 1), (187, .invokevirtual 211, 3), (190, .iconst 2, 1), (191, .invokevirtual 204, 3), (194, .ireturn, 1)]
def xm_214 : xrM := ((9, 2, ⟨"HexTemplatesModel", "set", "(II)I"⟩), (prog_11_method_72_code, 7, (some FieldType.int)), [], xc_214)
-- 215: HexTemplatesModel.places(I)I
def xc_215 : xrC := [(0, .aload_n 0, 1), (1, .getfield 587, 3), (4, .aload_n 0, 1), (5, .getfield 618, 3), (8, .iload_n 1, 1), (9, .iaload, 1), (10, .iaload, 1), (11, .bipush 122, 2),
  (13, .if_icmp .ne 14, 3), (16, .aload_n 0, 1), (17, .getfield 615, 3), (20, .iload_n 1, 1), (21, .iaload, 1), (22, .iconst 1, 1), (23, .isub, 1), (24, .goto 9, 3),
  (27, .aload_n 0, 1), (28, .getfield 615, 3), (31, .iload_n 1, 1), (32, .iaload, 1), (33, .ireturn, 1)]
def xm_215 : xrM := ((9, 1, ⟨"HexTemplatesModel", "places", "(I)I"⟩), (prog_11_method_73_code, 2, (some FieldType.int)), [], xc_215)
-- 216: HexTemplatesModel.insert(III)I
def xc_216 : xrC := [(0, .aload_n 0, 1), (1, .aload_n 0, 1), (2, .iload_n 1, 1), (3, .invokevirtual 191, 3), (6, .ifCond .ne 7, 3), (9, .iconst 1, 1), (10, .goto 19, 3), (13, .iload_n 3, 1),
  (14, .iconst 0, 1), (15, .sipush 255, 3), (18, .invokestatic 146, 3), (21, .ifCond .ne 7, 3), (24, .iconst 2, 1), (25, .goto 4, 3), (28, .iconst 0, 1), (29, .putfield 576, 3),
  (32, .aload_n 0, 1), (33, .getfield 576, 3), (36, .ifCond .le 5, 3), (39, .iconst 0, 1), (40, .ireturn, 1), (41, .aload_n 0, 1), (42, .getfield 603, 3), (45, .sipush 200, 3),
  (48, .idiv, 1), (49, .istore 4, 2), (51, .aload_n 0, 1), (52, .getfield 612, 3), (55, .iload_n 1, 1), (56, .iaload, 1), (57, .iconst 5, 1), (58, .if_icmp .ne 16, 3),
  (61, .aload_n 0, 1), (62, .getfield 599, 3), (65, .bipush 30, 2), (67, .if_icmp .ge 7, 3), (70, .iconst 1, 1), (71, .goto 4, 3), (74, .iconst 0, 1), (75, .istore 5, 2),
  (77, .iload 5, 2), (79, .ifCond .eq 36, 3), (82, .iload_n 2, 1), (83, .iconst 0, 1), (84, .aload_n 0, 1), (85, .iload_n 1, 1), (86, .invokevirtual 215, 3), (89, .invokestatic 146, 3),
  (92, .ifCond .eq 23, 3), (95, .iload_n 3, 1), (96, .ifCond .ne 25, 3), (99, .aload_n 0, 1), (100, .getfield 587, 3), (103, .aload_n 0, 1), (104, .getfield 618, 3), (107, .iload_n 1, 1),
  (108, .iaload, 1), (109, .iaload, 1), (110, .bipush 122, 2), (112, .if_icmp .ne 9, 3), (115, .aload_n 0, 1), (116, .iconst 3, 1), (117, .invokevirtual 145, 3), (120, .ireturn, 1),
  (121, .aload_n 0, 1), (122, .invokevirtual 203, 3), (125, .aload_n 0, 1), (126, .getfield 614, 3), (129, .iload_n 1, 1), (130, .iaload, 1), (131, .iload_n 2, 1), (132, .iadd, 1),
  (133, .istore 6, 2), (135, .aload_n 0, 1), (136, .iload_n 1, 1), (137, .iload 6, 2), (139, .iconst 1, 1), (140, .iconst 1, 1), (141, .iconst 0, 1), (142, .invokevirtual 207, 3),
  (145, .istore 5, 2), (147, .aload_n 0, 1), (148, .iload 6, 2), (150, .iconst 1, 1), (151, .invokevirtual 208, 3), (154, .aload_n 0, 1), (155, .getfield 595, 3), (158, .iload 6, 2),
  (160, .iload_n 3, 1), (161, .iastore, 1), (162, .aload_n 0, 1), (163, .iload 5, 2), (165, .ifCond .eq 16, 3), (168, .aload_n 0, 1), (169, .iload 4, 2), (171, .invokevirtual 211, 3),
  (174, .ifCond .eq 7, 3), (177, .iconst 1, 1), (178, .goto 4, 3), (181, .iconst 0, 1), (182, .iconst 3, 1), (183, .invokevirtual 204, 3), (186, .ireturn, 1)]
def xm_216 : xrM := ((9, 3, ⟨"HexTemplatesModel", "insert", "(III)I"⟩), (prog_11_method_74_code, 7, (some FieldType.int)), [], xc_216)
-- 217: HexTemplatesModel.remove(II)I
def xc_217 : xrC := [(0, .aload_n 0, 1), (1, .aload_n 0, 1), (2, .iload_n 1, 1), (3, .invokevirtual 191, 3), (6, .ifCond .eq 7, 3), (9, .iconst 0, 1), (10, .goto 4, 3), (13, .iconst 1, 1),
  (14, .putfield 576, 3), (17, .aload_n 0, 1), (18, .getfield 576, 3), (21, .ifCond .le 5, 3), (24, .iconst 0, 1), (25, .ireturn, 1), (26, .aload_n 0, 1), (27, .getfield 603, 3),
  (30, .sipush 200, 3), (33, .idiv, 1), (34, .istore_n 3, 1), (35, .aload_n 0, 1), (36, .getfield 612, 3), (39, .iload_n 1, 1), (40, .iaload, 1), (41, .iconst 5, 1),
  (42, .if_icmp .ne 16, 3), (45, .aload_n 0, 1), (46, .getfield 599, 3), (49, .bipush 30, 2), (51, .if_icmp .ge 7, 3), (54, .iconst 1, 1), (55, .goto 4, 3), (58, .iconst 0, 1),
  (59, .istore 4, 2), (61, .iload 4, 2), (63, .ifCond .eq 18, 3), (66, .iload_n 2, 1), (67, .iconst 0, 1), (68, .aload_n 0, 1), (69, .iload_n 1, 1), (70, .invokevirtual 215, 3),
  (73, .iconst 1, 1), (74, .isub, 1), (75, .invokestatic 146, 3), (78, .ifCond .ne 9, 3), (81, .aload_n 0, 1), (82, .iconst 2, 1), (83, .invokevirtual 145, 3), (86, .ireturn, 1),
  (87, .aload_n 0, 1), (88, .invokevirtual 203, 3), (91, .aload_n 0, 1), (92, .getfield 614, 3), (95, .iload_n 1, 1), (96, .iaload, 1), (97, .iload_n 2, 1), (98, .iadd, 1),
  (99, .istore 5, 2), (101, .aload_n 0, 1), (102, .iload_n 1, 1), (103, .iload 5, 2), (105, .iconst 1, 1), (106, .iconst 0, 1), (107, .iconst 0, 1), (108, .invokevirtual 207, 3),
  (111, .istore 4, 2), (113, .aload_n 0, 1), (114, .iload 5, 2), (116, .iconst 1, 1), (117, .invokevirtual 209, 3), (120, .aload_n 0, 1), (121, .iload 4, 2), (123, .ifCond .eq 15, 3),
  (126, .aload_n 0, 1), (127, .iload_n 3, 1), (128, .invokevirtual 211, 3), (131, .ifCond .eq 7, 3), (134, .iconst 1, 1), (135, .goto 4, 3), (138, .iconst 0, 1), (139, .iconst 2, 1),
  (140, .invokevirtual 204, 3), (143, .ireturn, 1)]
def xm_217 : xrM := ((9, 2, ⟨"HexTemplatesModel", "remove", "(II)I"⟩), (prog_11_method_75_code, 6, (some FieldType.int)), [], xc_217)
-- 218: HexTemplatesModel.elementOf(II)I
def xc_218 : xrC := [(0, .iconst (-1), 1), (1, .istore_n 3, 1), (2, .iconst 0, 1), (3, .istore 4, 2), (5, .iload_n 1, 1), (6, .iconst 1, 1), (7, .iadd, 1), (8, .istore 5, 2),
  (10, .iload 5, 2), (12, .aload_n 0, 1), (13, .getfield 610, 3), (16, .if_icmp .ge 40, 3), (19, .iload_n 2, 1), (20, .ifCond .lt 36, 3), (23, .aload_n 0, 1), (24, .getfield 617, 3),
  (27, .iload 5, 2), (29, .iaload, 1), (30, .iload_n 1, 1), (31, .if_icmp .ne 19, 3), (34, .iload 4, 2), (36, .iload_n 2, 1), (37, .if_icmp .ne 8, 3), (40, .iload 5, 2),
  (42, .goto 4, 3), (45, .iload_n 3, 1), (46, .istore_n 3, 1), (47, .iinc 4 1, 3), (50, .iinc 5 1, 3), (53, .goto (-43), 3), (56, .iload_n 3, 1), (57, .ireturn, 1)]
def xm_218 : xrM := ((9, 2, ⟨"HexTemplatesModel", "elementOf", "(II)I"⟩), (prog_11_method_76_code, 6, (some FieldType.int)), [], xc_218)
-- 219: HexTemplatesModel.element(IIZ)I
def xc_219 : xrC := [(0, .aload_n 0, 1), (1, .aload_n 0, 1), (2, .iload_n 1, 1), (3, .invokevirtual 191, 3), (6, .ifCond .eq 7, 3), (9, .iconst 0, 1), (10, .goto 4, 3), (13, .iconst 1, 1),
  (14, .putfield 576, 3), (17, .aload_n 0, 1), (18, .getfield 576, 3), (21, .ifCond .le 5, 3), (24, .iconst 0, 1), (25, .ireturn, 1), (26, .aload_n 0, 1), (27, .getfield 603, 3),
  (30, .sipush 200, 3), (33, .idiv, 1), (34, .istore 4, 2), (36, .aload_n 0, 1), (37, .getfield 612, 3), (40, .iload_n 1, 1), (41, .iaload, 1), (42, .iconst 1, 1),
  (43, .if_icmp .ne 12, 3), (46, .aload_n 0, 1), (47, .iload_n 1, 1), (48, .iload_n 2, 1), (49, .invokevirtual 218, 3), (52, .goto 4, 3), (55, .iconst (-1), 1), (56, .istore 5, 2),
  (58, .iload 5, 2), (60, .iconst (-1), 1), (61, .if_icmp .eq 12, 3), (64, .aload_n 0, 1), (65, .getfield 599, 3), (68, .bipush 30, 2), (70, .if_icmp .ne 9, 3), (73, .aload_n 0, 1),
  (74, .iconst 2, 1), (75, .invokevirtual 145, 3), (78, .ireturn, 1), (79, .aload_n 0, 1), (80, .invokevirtual 203, 3), (83, .aload_n 0, 1), (84, .getfield 615, 3), (87, .iload 5, 2),
  (89, .iaload, 1), (90, .istore 6, 2), (92, .aload_n 0, 1), (93, .getfield 614, 3), (96, .iload 5, 2), (98, .iaload, 1), (99, .istore 7, 2), (101, .iload_n 3, 1),
  (102, .ifCond .eq 11, 3), (105, .iload 7, 2), (107, .iload 6, 2), (109, .iadd, 1), (110, .goto 5, 3), (113, .iload 7, 2), (115, .istore 8, 2), (117, .aload_n 0, 1),
  (118, .iload_n 1, 1), (119, .iload 8, 2), (121, .iload 6, 2), (123, .iload_n 3, 1), (124, .iload_n 3, 1), (125, .ifCond .eq 7, 3), (128, .iconst 1, 1), (129, .goto 4, 3),
  (132, .iconst (-1), 1), (133, .invokevirtual 207, 3), (136, .istore 9, 2), (138, .iload_n 3, 1), (139, .ifCond .eq 50, 3), (142, .aload_n 0, 1), (143, .iload 8, 2), (145, .iload 6, 2),
  (147, .invokevirtual 208, 3), (150, .iconst 0, 1), (151, .istore 10, 2), (153, .iload 10, 2), (155, .iload 6, 2), (157, .if_icmp .ge 29, 3), (160, .aload_n 0, 1), (161, .getfield 595, 3),
  (164, .iload 8, 2), (166, .iload 10, 2), (168, .iadd, 1), (169, .aload_n 0, 1), (170, .getfield 595, 3), (173, .iload 7, 2), (175, .iload 10, 2), (177, .iadd, 1),
  (178, .iaload, 1), (179, .iastore, 1), (180, .iinc 10 1, 3), (183, .goto (-30), 3), (186, .goto 11, 3), (189, .aload_n 0, 1), (190, .iload 8, 2), (192, .iload 6, 2),
  (194, .invokevirtual 209, 3), (197, .aload_n 0, 1), (198, .iload 9, 2), (200, .ifCond .eq 16, 3), (203, .aload_n 0, 1), (204, .iload 4, 2), (206, .invokevirtual 211, 3), (209, .ifCond .eq 7, 3),
  (212, .iconst 1, 1), (213, .goto 4, 3), (216, .iconst 0, 1), (217, .iconst 2, 1), (218, .invokevirtual 204, 3), (221, .ireturn, 1)]
def xm_219 : xrM := ((9, 3, ⟨"HexTemplatesModel", "element", "(IIZ)I"⟩), (prog_11_method_77_code, 11, (some FieldType.int)), [], xc_219)
-- 220: HexTemplatesModel.repair()I
def xc_220 : xrC := [(0, .aload_n 0, 1), (1, .iconst 0, 1), (2, .putfield 576, 3), (5, .aload_n 0, 1), (6, .invokevirtual 187, 3), (9, .istore_n 1, 1), (10, .iload_n 1, 1), (11, .iconst (-1), 1),
  (12, .if_icmp .eq 12, 3), (15, .aload_n 0, 1), (16, .getfield 599, 3), (19, .bipush 30, 2), (21, .if_icmp .ne 9, 3), (24, .aload_n 0, 1), (25, .iconst 1, 1), (26, .invokevirtual 145, 3),
  (29, .ireturn, 1), (30, .aload_n 0, 1), (31, .invokevirtual 203, 3), (34, .aload_n 0, 1), (35, .aload_n 0, 1), (36, .iload_n 1, 1), (37, .invokevirtual 211, 3), (40, .iconst 1, 1),
  (41, .invokevirtual 204, 3), (44, .ireturn, 1)]
def xm_220 : xrM := ((9, 0, ⟨"HexTemplatesModel", "repair", "()I"⟩), (prog_11_method_78_code, 2, (some FieldType.int)), [], xc_220)
-- 221: HexTemplatesModel.byteOf(II)I
def xc_221 : xrC := [(0, .aload_n 0, 1), (1, .getfield 602, 3), (4, .sipush 160, 3), (7, .iload_n 1, 1), (8, .imul, 1), (9, .iload_n 2, 1), (10, .iadd, 1), (11, .iaload, 1),
  (12, .ireturn, 1)]
def xm_221 : xrM := ((9, 2, ⟨"HexTemplatesModel", "byteOf", "(II)I"⟩), (prog_11_method_79_code, 3, (some FieldType.int)), [], xc_221)
-- 222: HexTemplatesModel.ahead(II)I
def xc_222 : xrC := [(0, .iconst 0, 1), (1, .istore_n 3, 1), (2, .iload_n 3, 1), (3, .aload_n 0, 1), (4, .getfield 600, 3), (7, .iload_n 1, 1), (8, .iaload, 1), (9, .if_icmp .ge 34, 3),
  (12, .iload_n 3, 1), (13, .aload_n 0, 1), (14, .getfield 600, 3), (17, .iload_n 2, 1), (18, .iaload, 1), (19, .if_icmp .ge 24, 3), (22, .aload_n 0, 1), (23, .iload_n 1, 1),
  (24, .iload_n 3, 1), (25, .invokevirtual 221, 3), (28, .aload_n 0, 1), (29, .iload_n 2, 1), (30, .iload_n 3, 1), (31, .invokevirtual 221, 3), (34, .if_icmp .ne 9, 3), (37, .iinc 3 1, 3),
  (40, .goto (-38), 3), (43, .iload_n 3, 1), (44, .ireturn, 1)]
def xm_222 : xrM := ((9, 2, ⟨"HexTemplatesModel", "ahead", "(II)I"⟩), (prog_11_method_80_code, 4, (some FieldType.int)), [], xc_222)
-- 223: HexTemplatesModel.behind(III)I
def xc_223 : xrC := [(0, .iconst 0, 1), (1, .istore 4, 2), (3, .iload 4, 2), (5, .aload_n 0, 1), (6, .getfield 600, 3), (9, .iload_n 1, 1), (10, .iaload, 1), (11, .iload_n 3, 1),
  (12, .isub, 1), (13, .if_icmp .ge 57, 3), (16, .iload 4, 2), (18, .aload_n 0, 1), (19, .getfield 600, 3), (22, .iload_n 2, 1), (23, .iaload, 1), (24, .iload_n 3, 1),
  (25, .isub, 1), (26, .if_icmp .ge 44, 3), (29, .aload_n 0, 1), (30, .iload_n 1, 1), (31, .aload_n 0, 1), (32, .getfield 600, 3), (35, .iload_n 1, 1), (36, .iaload, 1),
  (37, .iconst 1, 1), (38, .isub, 1), (39, .iload 4, 2), (41, .isub, 1), (42, .invokevirtual 221, 3), (45, .aload_n 0, 1), (46, .iload_n 2, 1), (47, .aload_n 0, 1),
  (48, .getfield 600, 3), (51, .iload_n 2, 1), (52, .iaload, 1), (53, .iconst 1, 1), (54, .isub, 1), (55, .iload 4, 2), (57, .isub, 1), (58, .invokevirtual 221, 3),
  (61, .if_icmp .ne 9, 3), (64, .iinc 4 1, 3), (67, .goto (-64), 3), (70, .iload 4, 2), (72, .ireturn, 1)]
def xm_223 : xrM := ((9, 3, ⟨"HexTemplatesModel", "behind", "(III)I"⟩), (prog_11_method_81_code, 5, (some FieldType.int)), [], xc_223)
-- 224: HexTemplatesModel.hunk(III)I
def xc_224 : xrC := [(0, .aload_n 0, 1), (1, .aload_n 0, 1), (2, .iload_n 1, 1), (3, .invokevirtual 153, 3), (6, .ifCond .eq 11, 3), (9, .aload_n 0, 1), (10, .iload_n 2, 1), (11, .invokevirtual 153, 3),
  (14, .ifCond .ne 7, 3), (17, .iconst 1, 1), (18, .goto 17, 3), (21, .iload_n 3, 1), (22, .iconst 0, 1), (23, .iconst 2, 1), (24, .invokestatic 146, 3), (27, .ifCond .ne 7, 3),
  (30, .iconst 2, 1), (31, .goto 4, 3), (34, .iconst 0, 1), (35, .putfield 576, 3), (38, .aload_n 0, 1), (39, .getfield 576, 3), (42, .ifCond .le 5, 3), (45, .iconst 0, 1),
  (46, .ireturn, 1), (47, .aload_n 0, 1), (48, .iload_n 1, 1), (49, .iload_n 2, 1), (50, .invokevirtual 222, 3), (53, .istore 4, 2), (55, .aload_n 0, 1), (56, .iload_n 1, 1),
  (57, .iload_n 2, 1), (58, .iload 4, 2), (60, .invokevirtual 223, 3), (63, .istore 5, 2), (65, .iload_n 3, 1), (66, .ifCond .ne 8, 3), (69, .iload 4, 2), (71, .goto 29, 3),
  (74, .iload_n 3, 1), (75, .iconst 1, 1), (76, .if_icmp .ne 12, 3), (79, .aload_n 0, 1), (80, .getfield 600, 3), (83, .iload_n 1, 1), (84, .iaload, 1), (85, .goto 9, 3),
  (88, .aload_n 0, 1), (89, .getfield 600, 3), (92, .iload_n 2, 1), (93, .iaload, 1), (94, .iload 4, 2), (96, .isub, 1), (97, .iload 5, 2), (99, .isub, 1),
  (100, .ireturn, 1)]
def xm_224 : xrM := ((9, 3, ⟨"HexTemplatesModel", "hunk", "(III)I"⟩), (prog_11_method_82_code, 6, (some FieldType.int)), [], xc_224)
-- 225: HexTemplatesModel.fits(IIII)Z
def xc_225 : xrC := [(0, .iload_n 2, 1), (1, .iload 4, 2), (3, .iadd, 1), (4, .ifCond .lt 18, 3), (7, .iload_n 3, 1), (8, .iload 4, 2), (10, .iadd, 1), (11, .aload_n 0, 1),
  (12, .getfield 594, 3), (15, .if_icmp .gt 7, 3), (18, .iconst 1, 1), (19, .goto 4, 3), (22, .iconst 0, 1), (23, .istore 5, 2), (25, .iload_n 2, 1), (26, .istore 6, 2),
  (28, .iload 6, 2), (30, .iload_n 3, 1), (31, .if_icmp .ge 41, 3), (34, .iload 5, 2), (36, .ifCond .eq 36, 3), (39, .aload_n 0, 1), (40, .iload_n 1, 1), (41, .iload 6, 2),
  (43, .invokevirtual 221, 3), (46, .aload_n 0, 1), (47, .getfield 595, 3), (50, .iload 6, 2), (52, .iload 4, 2), (54, .iadd, 1), (55, .iaload, 1), (56, .if_icmp .ne 7, 3),
  (59, .iconst 1, 1), (60, .goto 4, 3), (63, .iconst 0, 1), (64, .istore 5, 2), (66, .iinc 6 1, 3), (69, .goto (-41), 3), (72, .iload 5, 2), (74, .ireturn, 1)]
def xm_225 : xrM := ((9, 4, ⟨"HexTemplatesModel", "fits", "(IIII)Z"⟩), (prog_11_method_83_code, 7, (some FieldType.boolean)), [], xc_225)
-- 226: HexTemplatesModel.patch(II)I
def xc_226 : xrC := [(0, .aload_n 0, 1), (1, .aload_n 0, 1), (2, .iload_n 1, 1), (3, .invokevirtual 153, 3), (6, .ifCond .eq 15, 3), (9, .aload_n 0, 1), (10, .iload_n 2, 1), (11, .invokevirtual 153, 3),
  (14, .ifCond .eq 7, 3), (17, .iconst 0, 1), (18, .goto 4, 3), (21, .iconst 1, 1), (22, .putfield 576, 3), (25, .aload_n 0, 1), (26, .getfield 576, 3), (29, .ifCond .le 5, 3),
  (32, .iconst 0, 1), (33, .ireturn, 1), (34, .aload_n 0, 1), (35, .iload_n 1, 1), (36, .iload_n 2, 1), (37, .invokevirtual 222, 3), (40, .istore_n 3, 1), (41, .aload_n 0, 1),
  (42, .iload_n 1, 1), (43, .iload_n 2, 1), (44, .iload_n 3, 1), (45, .invokevirtual 223, 3), (48, .istore 4, 2), (50, .aload_n 0, 1), (51, .getfield 600, 3), (54, .iload_n 1, 1),
  (55, .iaload, 1), (56, .iload_n 3, 1), (57, .isub, 1), (58, .iload 4, 2), (60, .isub, 1), (61, .istore 5, 2), (63, .aload_n 0, 1), (64, .getfield 600, 3),
  (67, .iload_n 2, 1), (68, .iaload, 1), (69, .iload_n 3, 1), (70, .isub, 1), (71, .iload 4, 2), (73, .isub, 1), (74, .istore 6, 2), (76, .iload_n 3, 1),
  (77, .iconst 2, 1), (78, .if_icmp .ge 7, 3), (81, .iconst 0, 1), (82, .goto 6, 3), (85, .iload_n 3, 1), (86, .iconst 2, 1), (87, .isub, 1), (88, .istore 7, 2),
  (90, .iload_n 3, 1), (91, .iload 5, 2), (93, .iadd, 1), (94, .iconst 2, 1), (95, .iadd, 1), (96, .aload_n 0, 1), (97, .getfield 600, 3), (100, .iload_n 1, 1),
  (101, .iaload, 1), (102, .if_icmp .le 12, 3), (105, .aload_n 0, 1), (106, .getfield 600, 3), (109, .iload_n 1, 1), (110, .iaload, 1), (111, .goto 9, 3), (114, .iload_n 3, 1),
  (115, .iload 5, 2), (117, .iadd, 1), (118, .iconst 2, 1), (119, .iadd, 1), (120, .istore 8, 2), (122, .sipush 999, 3), (125, .istore 9, 2), (127, .iconst 0, 1),
  (128, .istore 10, 2), (130, .iload 10, 2), (132, .sipush 200, 3), (135, .if_icmp .gt 61, 3), (138, .iload 9, 2), (140, .sipush 999, 3), (143, .if_icmp .ne 53, 3), (146, .aload_n 0, 1),
  (147, .iload_n 1, 1), (148, .iload 7, 2), (150, .iload 8, 2), (152, .iload 10, 2), (154, .ineg, 1), (155, .invokevirtual 225, 3), (158, .ifCond .eq 9, 3), (161, .iload 10, 2),
  (163, .ineg, 1), (164, .goto 24, 3), (167, .aload_n 0, 1), (168, .iload_n 1, 1), (169, .iload 7, 2), (171, .iload 8, 2), (173, .iload 10, 2), (175, .invokevirtual 225, 3),
  (178, .ifCond .eq 8, 3), (181, .iload 10, 2), (183, .goto 5, 3), (186, .iload 9, 2), (188, .istore 9, 2), (190, .iinc 10 1, 3), (193, .goto (-63), 3), (196, .iload 9, 2),
  (198, .sipush 999, 3), (201, .if_icmp .eq 28, 3), (204, .aload_n 0, 1), (205, .getfield 594, 3), (208, .iload 5, 2), (210, .isub, 1), (211, .iload 6, 2), (213, .iadd, 1),
  (214, .sipush 160, 3), (217, .if_icmp .gt 12, 3), (220, .aload_n 0, 1), (221, .getfield 599, 3), (224, .bipush 30, 2), (226, .if_icmp .ne 9, 3), (229, .aload_n 0, 1), (230, .iconst 2, 1),
  (231, .invokevirtual 145, 3), (234, .ireturn, 1), (235, .aload_n 0, 1), (236, .invokevirtual 203, 3), (239, .aload_n 0, 1), (240, .iload_n 3, 1), (241, .iload 9, 2), (243, .iadd, 1),
  (244, .iload 5, 2), (246, .invokevirtual 209, 3), (249, .aload_n 0, 1), (250, .iload_n 3, 1), (251, .iload 9, 2), (253, .iadd, 1), (254, .iload 6, 2), (256, .invokevirtual 208, 3),
  (259, .iconst 0, 1), (260, .istore 10, 2), (262, .iload 10, 2), (264, .iload 6, 2), (266, .if_icmp .ge 30, 3), (269, .aload_n 0, 1), (270, .getfield 595, 3), (273, .iload_n 3, 1),
  (274, .iload 9, 2), (276, .iadd, 1), (277, .iload 10, 2), (279, .iadd, 1), (280, .aload_n 0, 1), (281, .iload_n 2, 1), (282, .iload_n 3, 1), (283, .iload 10, 2),
  (285, .iadd, 1), (286, .invokevirtual 221, 3), (289, .iastore, 1), (290, .iinc 10 1, 3), (293, .goto (-31), 3), (296, .aload_n 0, 1), (297, .invokevirtual 148, 3), (300, .ireturn, 1)]
def xm_226 : xrM := ((9, 2, ⟨"HexTemplatesModel", "patch", "(II)I"⟩), (prog_11_method_84_code, 11, (some FieldType.int)), [], xc_226)
-- 227: java/lang/Math.max(II)I
def xc_227 : xrC := [(0, .iload_n 0, 1), (1, .iload_n 1, 1), (2, .if_icmp .lt 7, 3), (5, .iload_n 0, 1), (6, .goto 4, 3), (9, .iload_n 1, 1), (10, .ireturn, 1)]
def xm_227 : xrM := ((99, 2, ⟨"java/lang/Math", "max", "(II)I"⟩), (prog_16_method_65_code, 2, (some FieldType.int)), [], xc_227)
-- 228: java/lang/Math.max(JJ)J
def xc_228 : xrC := [(0, .lload_n 0, 1), (1, .lload_n 2, 1), (2, .lcmp, 1), (3, .ifCond .lt 7, 3), (6, .lload_n 0, 1), (7, .goto 4, 3), (10, .lload_n 2, 1), (11, .lreturn, 1)]
def xm_228 : xrM := ((99, 2, ⟨"java/lang/Math", "max", "(JJ)J"⟩), (prog_16_method_66_code, 4, (some FieldType.long)), [], xc_228)
-- 229: java/lang/Math.min(II)I
def xc_229 : xrC := [(0, .iload_n 0, 1), (1, .iload_n 1, 1), (2, .if_icmp .gt 7, 3), (5, .iload_n 0, 1), (6, .goto 4, 3), (9, .iload_n 1, 1), (10, .ireturn, 1)]
def xm_229 : xrM := ((99, 2, ⟨"java/lang/Math", "min", "(II)I"⟩), (prog_16_method_69_code, 2, (some FieldType.int)), [], xc_229)
-- 230: java/lang/Math.min(JJ)J
def xc_230 : xrC := [(0, .lload_n 0, 1), (1, .lload_n 2, 1), (2, .lcmp, 1), (3, .ifCond .gt 7, 3), (6, .lload_n 0, 1), (7, .goto 4, 3), (10, .lload_n 2, 1), (11, .lreturn, 1)]
def xm_230 : xrM := ((99, 2, ⟨"java/lang/Math", "min", "(JJ)J"⟩), (prog_16_method_70_code, 4, (some FieldType.long)), [], xc_230)
-- 231: HexTemplatesLaw.feed(LHexTemplates;JI[J)I
def xc_231 : xrC := [(0, .aload 4, 2), (2, .iconst 0, 1), (3, .aload_n 0, 1), (4, .lload_n 1, 1), (5, .iload_n 3, 1), (6, .invokevirtual 105, 3), (9, .i2l, 1), (10, .lastore, 1),
  (11, .goto 11, 3), (14, .astore 5, 2), (16, .iconst 1, 1), (17, .ireturn, 1), (18, .astore 5, 2), (20, .iconst 2, 1), (21, .ireturn, 1), (22, .iconst 0, 1),
  (23, .ireturn, 1)]
def xm_231 : xrM := ((99, 4, ⟨"HexTemplatesLaw", "feed", "(LHexTemplates;JI[J)I"⟩), (method_3_code, 6, (some FieldType.int)), [(0, 11, 14, 13, 0), (0, 11, 18, 15, 1)], xc_231)
-- 232: HexTemplatesLaw.give(LHexTemplates;[J)I
def xc_232 : xrC := [(0, .aload_n 1, 1), (1, .iconst 0, 1), (2, .aload_n 0, 1), (3, .invokevirtual 106, 3), (6, .i2l, 1), (7, .lastore, 1), (8, .goto 6, 3), (11, .astore_n 2, 1),
  (12, .iconst 1, 1), (13, .ireturn, 1), (14, .iconst 0, 1), (15, .ireturn, 1)]
def xm_232 : xrM := ((99, 2, ⟨"HexTemplatesLaw", "give", "(LHexTemplates;[J)I"⟩), (method_4_code, 3, (some FieldType.int)), [(0, 8, 11, 15, 1)], xc_232)
-- 233: HexTemplatesLaw.template(LHexTemplates;I[J)I
def xc_233 : xrC := [(0, .aload_n 2, 1), (1, .iconst 0, 1), (2, .aload_n 0, 1), (3, .iload_n 1, 1), (4, .invokevirtual 107, 3), (7, .i2l, 1), (8, .lastore, 1), (9, .goto 9, 3),
  (12, .astore_n 3, 1), (13, .iconst 1, 1), (14, .ireturn, 1), (15, .astore_n 3, 1), (16, .iconst 2, 1), (17, .ireturn, 1), (18, .iconst 0, 1), (19, .ireturn, 1)]
def xm_233 : xrM := ((99, 3, ⟨"HexTemplatesLaw", "template", "(LHexTemplates;I[J)I"⟩), (method_5_code, 4, (some FieldType.int)), [(0, 9, 12, 13, 0), (0, 9, 15, 15, 1)], xc_233)
-- 234: HexTemplatesLaw.byteAt(LHexTemplates;I[J)I
def xc_234 : xrC := [(0, .aload_n 2, 1), (1, .iconst 0, 1), (2, .aload_n 0, 1), (3, .iload_n 1, 1), (4, .invokevirtual 109, 3), (7, .i2l, 1), (8, .lastore, 1), (9, .goto 6, 3),
  (12, .astore_n 3, 1), (13, .iconst 1, 1), (14, .ireturn, 1), (15, .iconst 0, 1), (16, .ireturn, 1)]
def xm_234 : xrM := ((99, 3, ⟨"HexTemplatesLaw", "byteAt", "(LHexTemplates;I[J)I"⟩), (method_6_code, 4, (some FieldType.int)), [(0, 9, 12, 28, 2)], xc_234)
-- 235: HexTemplatesLaw.parent(LHexTemplates;I[J)I
def xc_235 : xrC := [(0, .aload_n 2, 1), (1, .iconst 0, 1), (2, .aload_n 0, 1), (3, .iload_n 1, 1), (4, .invokevirtual 111, 3), (7, .i2l, 1), (8, .lastore, 1), (9, .goto 6, 3),
  (12, .astore_n 3, 1), (13, .iconst 1, 1), (14, .ireturn, 1), (15, .iconst 0, 1), (16, .ireturn, 1)]
def xm_235 : xrM := ((99, 3, ⟨"HexTemplatesLaw", "parent", "(LHexTemplates;I[J)I"⟩), (method_7_code, 4, (some FieldType.int)), [(0, 9, 12, 28, 2)], xc_235)
-- 236: HexTemplatesLaw.goTo(LHexTemplates;I[J)I
def xc_236 : xrC := [(0, .aload_n 2, 1), (1, .iconst 0, 1), (2, .aload_n 0, 1), (3, .iload_n 1, 1), (4, .invokevirtual 112, 3), (7, .i2l, 1), (8, .lastore, 1), (9, .goto 6, 3),
  (12, .astore_n 3, 1), (13, .iconst 1, 1), (14, .ireturn, 1), (15, .iconst 0, 1), (16, .ireturn, 1)]
def xm_236 : xrM := ((99, 3, ⟨"HexTemplatesLaw", "goTo", "(LHexTemplates;I[J)I"⟩), (method_8_code, 4, (some FieldType.int)), [(0, 9, 12, 28, 2)], xc_236)
-- 237: HexTemplatesLaw.fault(LHexTemplates;IZ[J)I
def xc_237 : xrC := [(0, .aload_n 3, 1), (1, .iconst 0, 1), (2, .aload_n 0, 1), (3, .iload_n 1, 1), (4, .iload_n 2, 1), (5, .invokevirtual 114, 3), (8, .i2l, 1), (9, .lastore, 1),
  (10, .goto 7, 3), (13, .astore 4, 2), (15, .iconst 1, 1), (16, .ireturn, 1), (17, .iconst 0, 1), (18, .ireturn, 1)]
def xm_237 : xrM := ((99, 4, ⟨"HexTemplatesLaw", "fault", "(LHexTemplates;IZ[J)I"⟩), (method_9_code, 5, (some FieldType.int)), [(0, 10, 13, 28, 2)], xc_237)
-- 238: HexTemplatesLaw.node(LHexTemplates;II[J)I
def xc_238 : xrC := [(0, .aload_n 3, 1), (1, .iconst 0, 1), (2, .aload_n 0, 1), (3, .iload_n 1, 1), (4, .iload_n 2, 1), (5, .invokevirtual 116, 3), (8, .i2l, 1), (9, .lastore, 1),
  (10, .goto 11, 3), (13, .astore 4, 2), (15, .iconst 1, 1), (16, .ireturn, 1), (17, .astore 4, 2), (19, .iconst 2, 1), (20, .ireturn, 1), (21, .iconst 0, 1),
  (22, .ireturn, 1)]
def xm_238 : xrM := ((99, 4, ⟨"HexTemplatesLaw", "node", "(LHexTemplates;II[J)I"⟩), (method_10_code, 5, (some FieldType.int)), [(0, 10, 13, 28, 2), (0, 10, 17, 13, 0)], xc_238)
-- 239: HexTemplatesLaw.follow(LHexTemplates;I[J)I
def xc_239 : xrC := [(0, .aload_n 2, 1), (1, .iconst 0, 1), (2, .aload_n 0, 1), (3, .iload_n 1, 1), (4, .invokevirtual 119, 3), (7, .i2l, 1), (8, .lastore, 1), (9, .goto 9, 3),
  (12, .astore_n 3, 1), (13, .iconst 1, 1), (14, .ireturn, 1), (15, .astore_n 3, 1), (16, .iconst 2, 1), (17, .ireturn, 1), (18, .iconst 0, 1), (19, .ireturn, 1)]
def xm_239 : xrM := ((99, 3, ⟨"HexTemplatesLaw", "follow", "(LHexTemplates;I[J)I"⟩), (method_11_code, 4, (some FieldType.int)), [(0, 9, 12, 28, 2), (0, 9, 15, 15, 1)], xc_239)
-- 240: HexTemplatesLaw.chain(LHexTemplates;I[J)I
def xc_240 : xrC := [(0, .aload_n 2, 1), (1, .iconst 0, 1), (2, .aload_n 0, 1), (3, .iload_n 1, 1), (4, .invokevirtual 120, 3), (7, .i2l, 1), (8, .lastore, 1), (9, .goto 9, 3),
  (12, .astore_n 3, 1), (13, .iconst 1, 1), (14, .ireturn, 1), (15, .astore_n 3, 1), (16, .iconst 2, 1), (17, .ireturn, 1), (18, .iconst 0, 1), (19, .ireturn, 1)]
def xm_240 : xrM := ((99, 3, ⟨"HexTemplatesLaw", "chain", "(LHexTemplates;I[J)I"⟩), (method_12_code, 4, (some FieldType.int)), [(0, 9, 12, 28, 2), (0, 9, 15, 15, 1)], xc_240)
-- 241: HexTemplatesLaw.find(LHexTemplates;III[J)I
def xc_241 : xrC := [(0, .aload 4, 2), (2, .iconst 0, 1), (3, .aload_n 0, 1), (4, .iload_n 1, 1), (5, .iload_n 2, 1), (6, .iload_n 3, 1), (7, .invokevirtual 121, 3), (10, .i2l, 1),
  (11, .lastore, 1), (12, .goto 7, 3), (15, .astore 5, 2), (17, .iconst 1, 1), (18, .ireturn, 1), (19, .iconst 0, 1), (20, .ireturn, 1)]
def xm_241 : xrM := ((99, 5, ⟨"HexTemplatesLaw", "find", "(LHexTemplates;III[J)I"⟩), (method_13_code, 6, (some FieldType.int)), [(0, 12, 15, 13, 0)], xc_241)
-- 242: HexTemplatesLaw.findField(LHexTemplates;III[J)I
def xc_242 : xrC := [(0, .aload 4, 2), (2, .iconst 0, 1), (3, .aload_n 0, 1), (4, .iload_n 1, 1), (5, .iload_n 2, 1), (6, .iload_n 3, 1), (7, .invokevirtual 122, 3), (10, .i2l, 1),
  (11, .lastore, 1), (12, .goto 7, 3), (15, .astore 5, 2), (17, .iconst 1, 1), (18, .ireturn, 1), (19, .iconst 0, 1), (20, .ireturn, 1)]
def xm_242 : xrM := ((99, 5, ⟨"HexTemplatesLaw", "findField", "(LHexTemplates;III[J)I"⟩), (method_14_code, 6, (some FieldType.int)), [(0, 12, 15, 13, 0)], xc_242)
-- 243: HexTemplatesLaw.set(LHexTemplates;II[J)I
def xc_243 : xrC := [(0, .aload_n 3, 1), (1, .iconst 0, 1), (2, .aload_n 0, 1), (3, .iload_n 1, 1), (4, .iload_n 2, 1), (5, .invokevirtual 123, 3), (8, .i2l, 1), (9, .lastore, 1),
  (10, .goto 11, 3), (13, .astore 4, 2), (15, .iconst 1, 1), (16, .ireturn, 1), (17, .astore 4, 2), (19, .iconst 2, 1), (20, .ireturn, 1), (21, .iconst 0, 1),
  (22, .ireturn, 1)]
def xm_243 : xrM := ((99, 4, ⟨"HexTemplatesLaw", "set", "(LHexTemplates;II[J)I"⟩), (method_15_code, 5, (some FieldType.int)), [(0, 10, 13, 28, 2), (0, 10, 17, 15, 1)], xc_243)
-- 244: HexTemplatesLaw.insert(LHexTemplates;III[J)I
def xc_244 : xrC := [(0, .aload 4, 2), (2, .iconst 0, 1), (3, .aload_n 0, 1), (4, .iload_n 1, 1), (5, .iload_n 2, 1), (6, .iload_n 3, 1), (7, .invokevirtual 124, 3), (10, .i2l, 1),
  (11, .lastore, 1), (12, .goto 15, 3), (15, .astore 5, 2), (17, .iconst 1, 1), (18, .ireturn, 1), (19, .astore 5, 2), (21, .iconst 2, 1), (22, .ireturn, 1),
  (23, .astore 5, 2), (25, .iconst 3, 1), (26, .ireturn, 1), (27, .iconst 0, 1), (28, .ireturn, 1)]
def xm_244 : xrM := ((99, 5, ⟨"HexTemplatesLaw", "insert", "(LHexTemplates;III[J)I"⟩), (method_16_code, 6, (some FieldType.int)), [(0, 12, 15, 28, 2), (0, 12, 19, 13, 0), (0, 12, 23, 15, 1)], xc_244)
-- 245: HexTemplatesLaw.remove(LHexTemplates;II[J)I
def xc_245 : xrC := [(0, .aload_n 3, 1), (1, .iconst 0, 1), (2, .aload_n 0, 1), (3, .iload_n 1, 1), (4, .iload_n 2, 1), (5, .invokevirtual 125, 3), (8, .i2l, 1), (9, .lastore, 1),
  (10, .goto 11, 3), (13, .astore 4, 2), (15, .iconst 1, 1), (16, .ireturn, 1), (17, .astore 4, 2), (19, .iconst 2, 1), (20, .ireturn, 1), (21, .iconst 0, 1),
  (22, .ireturn, 1)]
def xm_245 : xrM := ((99, 4, ⟨"HexTemplatesLaw", "remove", "(LHexTemplates;II[J)I"⟩), (method_17_code, 5, (some FieldType.int)), [(0, 10, 13, 28, 2), (0, 10, 17, 15, 1)], xc_245)
-- 246: HexTemplatesLaw.element(LHexTemplates;IIZ[J)I
def xc_246 : xrC := [(0, .aload 4, 2), (2, .iconst 0, 1), (3, .aload_n 0, 1), (4, .iload_n 1, 1), (5, .iload_n 2, 1), (6, .iload_n 3, 1), (7, .invokevirtual 126, 3), (10, .i2l, 1),
  (11, .lastore, 1), (12, .goto 11, 3), (15, .astore 5, 2), (17, .iconst 1, 1), (18, .ireturn, 1), (19, .astore 5, 2), (21, .iconst 2, 1), (22, .ireturn, 1),
  (23, .iconst 0, 1), (24, .ireturn, 1)]
def xm_246 : xrM := ((99, 5, ⟨"HexTemplatesLaw", "element", "(LHexTemplates;IIZ[J)I"⟩), (method_18_code, 6, (some FieldType.int)), [(0, 12, 15, 28, 2), (0, 12, 19, 15, 1)], xc_246)
-- 247: HexTemplatesLaw.repair(LHexTemplates;[J)I
def xc_247 : xrC := [(0, .aload_n 1, 1), (1, .iconst 0, 1), (2, .aload_n 0, 1), (3, .invokevirtual 127, 3), (6, .i2l, 1), (7, .lastore, 1), (8, .goto 6, 3), (11, .astore_n 2, 1),
  (12, .iconst 1, 1), (13, .ireturn, 1), (14, .iconst 0, 1), (15, .ireturn, 1)]
def xm_247 : xrM := ((99, 2, ⟨"HexTemplatesLaw", "repair", "(LHexTemplates;[J)I"⟩), (method_19_code, 3, (some FieldType.int)), [(0, 8, 11, 15, 1)], xc_247)
-- 248: HexTemplatesLaw.hunk(LHexTemplates;III[J)I
def xc_248 : xrC := [(0, .aload 4, 2), (2, .iconst 0, 1), (3, .aload_n 0, 1), (4, .iload_n 1, 1), (5, .iload_n 2, 1), (6, .iload_n 3, 1), (7, .invokevirtual 128, 3), (10, .i2l, 1),
  (11, .lastore, 1), (12, .goto 11, 3), (15, .astore 5, 2), (17, .iconst 1, 1), (18, .ireturn, 1), (19, .astore 5, 2), (21, .iconst 2, 1), (22, .ireturn, 1),
  (23, .iconst 0, 1), (24, .ireturn, 1)]
def xm_248 : xrM := ((99, 5, ⟨"HexTemplatesLaw", "hunk", "(LHexTemplates;III[J)I"⟩), (method_20_code, 6, (some FieldType.int)), [(0, 12, 15, 28, 2), (0, 12, 19, 13, 0)], xc_248)
-- 249: HexTemplatesLaw.patch(LHexTemplates;II[J)I
def xc_249 : xrC := [(0, .aload_n 3, 1), (1, .iconst 0, 1), (2, .aload_n 0, 1), (3, .iload_n 1, 1), (4, .iload_n 2, 1), (5, .invokevirtual 129, 3), (8, .i2l, 1), (9, .lastore, 1),
  (10, .goto 11, 3), (13, .astore 4, 2), (15, .iconst 1, 1), (16, .ireturn, 1), (17, .astore 4, 2), (19, .iconst 2, 1), (20, .ireturn, 1), (21, .iconst 0, 1),
  (22, .ireturn, 1)]
def xm_249 : xrM := ((99, 4, ⟨"HexTemplatesLaw", "patch", "(LHexTemplates;II[J)I"⟩), (method_21_code, 5, (some FieldType.int)), [(0, 10, 13, 28, 2), (0, 10, 17, 15, 1)], xc_249)
