/-! the methods, as the runner has them -/
-- 0: HexTemplatesLaw.law([I)Z
def xc_0 : xrC := [(0, .new 8, 3), (3, .dup, 1), (4, .invokespecial 104, 3), (7, .astore_n 1, 1), (8, .bipush 21, 2), (10, .newarray .int, 2), (12, .astore_n 2, 1), (13, .bipush 64, 2),
  (15, .newarray .int, 2), (17, .astore_n 3, 1), (18, .iconst 4, 1), (19, .newarray .int, 2), (21, .astore 4, 2), (23, .aload_n 1, 1), (24, .bipush 65, 2), (26, .bipush 123, 2),
  (28, .bipush 109, 2), (30, .bipush 58, 2), (32, .bipush 98, 2), (34, .bipush 61, 2), (36, .bipush 55, 2), (38, .bipush 55, 2), (40, .invokestatic 92, 3), (43, .aload_n 1, 1),
  (44, .bipush 59, 2), (46, .bipush 108, 2), (48, .bipush 58, 2), (50, .bipush 98, 2), (52, .bipush 61, 2), (54, .bipush 35, 2), (56, .bipush 100, 2), (58, .bipush 59, 2),
  (60, .invokestatic 92, 3), (63, .aload_n 1, 1), (64, .bipush 110, 2), (66, .bipush 58, 2), (68, .bipush 98, 2), (70, .bipush 61, 2), (72, .bipush 37, 2), (74, .bipush 101, 2),
  (76, .bipush 59, 2), (78, .bipush 100, 2), (80, .invokestatic 92, 3), (83, .aload_n 1, 1), (84, .bipush 58, 2), (86, .bipush 115, 2), (88, .bipush 40, 2), (90, .bipush 108, 2),
  (92, .bipush 41, 2), (94, .bipush 59, 2), (96, .bipush 101, 2), (98, .bipush 58, 2), (100, .invokestatic 92, 3), (103, .aload_n 1, 1), (104, .bipush 66, 2), (106, .bipush 91, 2),
  (108, .bipush 110, 2), (110, .bipush 93, 2), (112, .bipush 59, 2), (114, .bipush 99, 2), (116, .bipush 58, 2), (118, .bipush 98, 2), (120, .invokestatic 92, 3), (123, .aload_n 1, 1),
  (124, .bipush 61, 2), (126, .bipush 43, 2), (128, .bipush 100, 2), (130, .bipush 59, 2), (132, .bipush 120, 2), (134, .bipush 58, 2), (136, .bipush 98, 2), (138, .bipush 61, 2),
  (140, .invokestatic 92, 3), (143, .aload_n 1, 1), (144, .bipush 94, 2), (146, .bipush 101, 2), (148, .bipush 59, 2), (150, .bipush 114, 2), (152, .bipush 58, 2), (154, .bipush 114, 2),
  (156, .bipush 66, 2), (158, .bipush 59, 2), (160, .invokestatic 92, 3), (163, .aload_n 1, 1), (164, .bipush 125, 2), (166, .bipush 66, 2), (168, .bipush 123, 2), (170, .bipush 116, 2),
  (172, .bipush 58, 2), (174, .bipush 98, 2), (176, .bipush 61, 2), (178, .bipush 35, 2), (180, .invokestatic 92, 3), (183, .aload_n 1, 1), (184, .bipush 118, 2), (186, .bipush 59, 2),
  (188, .bipush 118, 2), (190, .bipush 58, 2), (192, .bipush 115, 2), (194, .bipush 40, 2), (196, .bipush 116, 2), (198, .bipush 41, 2), (200, .invokestatic 92, 3), (203, .aload_n 1, 1),
  (204, .bipush 59, 2), (206, .bipush 125, 2), (208, .iconst 0, 1), (209, .iconst 0, 1), (210, .iconst 0, 1), (211, .iconst 0, 1), (212, .iconst 0, 1), (213, .iconst 0, 1),
  (214, .invokestatic 92, 3), (217, .aload_n 1, 1), (218, .iconst 3, 1), (219, .invokevirtual 107, 3), (222, .ifCond .ne 7, 3), (225, .iconst 1, 1), (226, .goto 4, 3), (229, .iconst 0, 1),
  (230, .istore 5, 2), (232, .aload 4, 2), (234, .iconst 0, 1), (235, .aload_n 0, 1), (236, .iconst 0, 1), (237, .invokestatic 89, 3), (240, .bipush 6, 2), (242, .invokestatic 90, 3),
  (245, .iastore, 1), (246, .aload 4, 2), (248, .iconst 1, 1), (249, .aload_n 0, 1), (250, .iconst 0, 1), (251, .invokestatic 89, 3), (254, .iconst 3, 1), (255, .ishr, 1),
  (256, .iconst 4, 1), (257, .invokestatic 90, 3), (260, .iastore, 1), (261, .aload 4, 2), (263, .iconst 2, 1), (264, .aload_n 0, 1), (265, .iconst 0, 1), (266, .invokestatic 89, 3),
  (269, .iconst 5, 1), (270, .ishr, 1), (271, .iconst 4, 1), (272, .invokestatic 90, 3), (275, .ifCond .ne 23, 3), (278, .sipush 250, 3), (281, .aload_n 0, 1), (282, .iconst 0, 1),
  (283, .invokestatic 89, 3), (286, .bipush 7, 2), (288, .ishr, 1), (289, .bipush 6, 2), (291, .invokestatic 90, 3), (294, .iadd, 1), (295, .goto 16, 3), (298, .aload_n 0, 1),
  (299, .iconst 0, 1), (300, .invokestatic 89, 3), (303, .bipush 7, 2), (305, .ishr, 1), (306, .bipush 30, 2), (308, .invokestatic 90, 3), (311, .iastore, 1), (312, .iconst 0, 1),
  (313, .istore 6, 2), (315, .iload 6, 2), (317, .aload 4, 2), (319, .iconst 0, 1), (320, .iaload, 1), (321, .if_icmp .ge 27, 3), (324, .aload_n 2, 1), (325, .iload 6, 2),
  (327, .aload_n 0, 1), (328, .iconst 1, 1), (329, .iload 6, 2), (331, .iadd, 1), (332, .invokestatic 89, 3), (335, .sipush 256, 3), (338, .invokestatic 90, 3), (341, .iastore, 1),
  (342, .iinc 6 1, 3), (345, .goto (-30), 3), (348, .iconst 0, 1), (349, .istore 6, 2), (351, .iload 6, 2), (353, .aload 4, 2), (355, .iconst 1, 1), (356, .iaload, 1),
  (357, .if_icmp .ge 82, 3), (360, .aload_n 3, 1), (361, .bipush 56, 2), (363, .iload 6, 2), (365, .iadd, 1), (366, .aload_n 0, 1), (367, .bipush 7, 2), (369, .iload 6, 2),
  (371, .iadd, 1), (372, .invokestatic 89, 3), (375, .iconst 4, 1), (376, .invokestatic 90, 3), (379, .iastore, 1), (380, .iconst 0, 1), (381, .istore 7, 2), (383, .iload 7, 2),
  (385, .aload_n 3, 1), (386, .bipush 56, 2), (388, .iload 6, 2), (390, .iadd, 1), (391, .iaload, 1), (392, .if_icmp .ge 41, 3), (395, .aload_n 3, 1), (396, .bipush 8, 2),
  (398, .iload 6, 2), (400, .imul, 1), (401, .iload 7, 2), (403, .iadd, 1), (404, .aload_n 0, 1), (405, .bipush 7, 2), (407, .iload 6, 2), (409, .iadd, 1),
  (410, .invokestatic 89, 3), (413, .iconst 3, 1), (414, .iconst 5, 1), (415, .iload 7, 2), (417, .imul, 1), (418, .iadd, 1), (419, .ishr, 1), (420, .sipush 256, 3),
  (423, .invokestatic 90, 3), (426, .iastore, 1), (427, .iinc 7 1, 3), (430, .goto (-47), 3), (433, .iinc 6 1, 3), (436, .goto (-85), 3), (439, .aload 4, 2), (441, .iconst 1, 1),
  (442, .iaload, 1), (443, .aload_n 3, 1), (444, .aload 4, 2), (446, .invokestatic 111, 3), (449, .iconst 5, 1), (450, .iadd, 1), (451, .istore 6, 2), (453, .iconst 0, 1),
  (454, .istore 7, 2), (456, .iload 7, 2), (458, .iload 6, 2), (460, .if_icmp .ge 43, 3), (463, .iload 5, 2), (465, .ifCond .eq 29, 3), (468, .aload_n 1, 1), (469, .iload 7, 2),
  (471, .aload_n 2, 1), (472, .aload_n 3, 1), (473, .aload 4, 2), (475, .invokestatic 112, 3), (478, .i2l, 1), (479, .iconst 1, 1), (480, .invokevirtual 105, 3), (483, .iload 7, 2),
  (485, .iconst 1, 1), (486, .iadd, 1), (487, .if_icmp .ne 7, 3), (490, .iconst 1, 1), (491, .goto 4, 3), (494, .iconst 0, 1), (495, .istore 5, 2), (497, .iinc 7 1, 3),
  (500, .goto (-44), 3), (503, .iload 5, 2), (505, .ifCond .eq 14, 3), (508, .aload_n 1, 1), (509, .invokevirtual 106, 3), (512, .ifCond .ne 7, 3), (515, .iconst 1, 1), (516, .goto 4, 3),
  (519, .iconst 0, 1), (520, .istore 5, 2), (522, .iconst 0, 1), (523, .istore 7, 2), (525, .iload 7, 2), (527, .bipush 36, 2), (529, .if_icmp .ge 387, 3), (532, .iload 5, 2),
  (534, .ifCond .eq 382, 3), (537, .aload_n 0, 1), (538, .bipush 11, 2), (540, .iload 7, 2), (542, .iadd, 1), (543, .invokestatic 89, 3), (546, .istore 8, 2), (548, .iload 8, 2),
  (550, .bipush 8, 2), (552, .invokestatic 90, 3), (555, .istore 9, 2), (557, .iload 8, 2), (559, .iconst 4, 1), (560, .ishr, 1), (561, .istore 10, 2), (563, .iload 9, 2),
  (565, .iconst 3, 1), (566, .if_icmp .ge 19, 3), (569, .aload_n 1, 1), (570, .iconst 1, 1), (571, .iload 10, 2), (573, .aload_n 2, 1), (574, .aload_n 3, 1), (575, .aload 4, 2),
  (577, .invokestatic 143, 3), (580, .istore 5, 2), (582, .goto 301, 3), (585, .iload 9, 2), (587, .iconst 3, 1), (588, .if_icmp .ne 19, 3), (591, .aload_n 1, 1), (592, .iconst 0, 1),
  (593, .iload 10, 2), (595, .aload_n 2, 1), (596, .aload_n 3, 1), (597, .aload 4, 2), (599, .invokestatic 143, 3), (602, .istore 5, 2), (604, .goto 279, 3), (607, .iload 9, 2),
  (609, .bipush 6, 2), (611, .if_icmp .ge 28, 3), (614, .aload_n 1, 1), (615, .iload 9, 2), (617, .iconst 4, 1), (618, .if_icmp .ne 7, 3), (621, .iconst 1, 1), (622, .goto 4, 3),
  (625, .iconst 0, 1), (626, .iload 10, 2), (628, .aload_n 3, 1), (629, .aload 4, 2), (631, .invokestatic 144, 3), (634, .istore 5, 2), (636, .goto 247, 3), (639, .iload 9, 2),
  (641, .bipush 6, 2), (643, .if_icmp .ne 125, 3), (646, .iload 10, 2), (648, .sipush 300, 3), (651, .invokestatic 90, 3), (654, .bipush 10, 2), (656, .isub, 1), (657, .istore 11, 2),
  (659, .iload 11, 2), (661, .ifCond .lt 24, 3), (664, .iload 11, 2), (666, .sipush 256, 3), (669, .if_icmp .ge 16, 3), (672, .aload 4, 2), (674, .iconst 3, 1), (675, .iaload, 1),
  (676, .bipush 29, 2), (678, .if_icmp .ge 7, 3), (681, .iconst 1, 1), (682, .goto 4, 3), (685, .iconst 0, 1), (686, .istore 12, 2), (688, .aload 4, 2), (690, .iconst 2, 1),
  (691, .iload 12, 2), (693, .ifCond .eq 8, 3), (696, .iload 11, 2), (698, .goto 7, 3), (701, .aload 4, 2), (703, .iconst 2, 1), (704, .iaload, 1), (705, .iastore, 1),
  (706, .aload 4, 2), (708, .iconst 3, 1), (709, .dup2, 1), (710, .iaload, 1), (711, .iload 12, 2), (713, .ifCond .eq 7, 3), (716, .iconst 1, 1), (717, .goto 4, 3),
  (720, .iconst 0, 1), (721, .iadd, 1), (722, .iastore, 1), (723, .aload_n 1, 1), (724, .iconst 3, 1), (725, .bipush 8, 2), (727, .iconst 3, 1), (728, .aload 4, 2),
  (730, .iconst 1, 1), (731, .iaload, 1), (732, .imul, 1), (733, .iadd, 1), (734, .iload 11, 2), (736, .iconst 0, 1), (737, .invokestatic 91, 3), (740, .iload 12, 2),
  (742, .ifCond .eq 10, 3), (745, .aload 4, 2), (747, .iconst 3, 1), (748, .iaload, 1), (749, .goto 6, 3), (752, .sipush (-1003), 3), (755, .if_icmp .ne 7, 3), (758, .iconst 1, 1),
  (759, .goto 4, 3), (762, .iconst 0, 1), (763, .istore 5, 2), (765, .goto 118, 3), (768, .aload 4, 2), (770, .iconst 3, 1), (771, .iaload, 1), (772, .bipush 29, 2),
  (774, .if_icmp .ge 7, 3), (777, .iconst 1, 1), (778, .goto 4, 3), (781, .iconst 0, 1), (782, .istore 11, 2), (784, .aload 4, 2), (786, .iconst 3, 1), (787, .dup2, 1),
  (788, .iaload, 1), (789, .iload 11, 2), (791, .ifCond .eq 16, 3), (794, .iload 10, 2), (796, .iconst 3, 1), (797, .invokestatic 90, 3), (800, .ifCond .ne 7, 3), (803, .iconst 1, 1),
  (804, .goto 4, 3), (807, .iconst 0, 1), (808, .iadd, 1), (809, .iastore, 1), (810, .iload 10, 2), (812, .iconst 3, 1), (813, .invokestatic 90, 3), (816, .ifCond .le 34, 3),
  (819, .aload_n 1, 1), (820, .iconst 3, 1), (821, .iconst 1, 1), (822, .iload 10, 2), (824, .iconst 2, 1), (825, .ishr, 1), (826, .iconst 3, 1), (827, .invokestatic 90, 3),
  (830, .iadd, 1), (831, .iconst 5, 1), (832, .iconst 0, 1), (833, .invokestatic 91, 3), (836, .sipush (-1003), 3), (839, .if_icmp .ne 7, 3), (842, .iconst 1, 1), (843, .goto 38, 3),
  (846, .iconst 0, 1), (847, .goto 34, 3), (850, .aload_n 1, 1), (851, .iconst 4, 1), (852, .iconst 0, 1), (853, .iconst 0, 1), (854, .iconst 0, 1), (855, .invokestatic 91, 3),
  (858, .iload 11, 2), (860, .ifCond .eq 10, 3), (863, .aload 4, 2), (865, .iconst 3, 1), (866, .iaload, 1), (867, .goto 6, 3), (870, .sipush (-1003), 3), (873, .if_icmp .ne 7, 3),
  (876, .iconst 1, 1), (877, .goto 4, 3), (880, .iconst 0, 1), (881, .istore 5, 2), (883, .iload 5, 2), (885, .ifCond .eq 22, 3), (888, .aload_n 1, 1), (889, .iload 10, 2),
  (891, .iconst 3, 1), (892, .ishr, 1), (893, .aload_n 2, 1), (894, .aload_n 3, 1), (895, .aload 4, 2), (897, .invokestatic 129, 3), (900, .ifCond .eq 7, 3), (903, .iconst 1, 1),
  (904, .goto 4, 3), (907, .iconst 0, 1), (908, .istore 5, 2), (910, .iinc 7 1, 3), (913, .goto (-388), 3), (916, .iload 5, 2), (918, .ireturn, 1)]
def xm_0 : xrM := ((99, 1, ⟨"HexTemplatesLaw", "law", "([I)Z"⟩), (code, 13, (some .boolean)), [], xc_0)
-- 1: HexTemplates$Bytes.<init>(I)V
def xc_1 : xrC := [(0, .aload_n 0, 1), (1, .monitorexit, 3), (4, .aload_n 0, 1), (5, .iconst 0, 1), (6, .putfield 1, 3), (9, .aload_n 0, 1), (10, .iload_n 1, 1), (11, .ifCond .ge 7, 3),
  (14, .iconst 0, 1), (15, .goto 4, 3), (18, .iload_n 1, 1), (19, .newarray .int, 2), (21, .invokedynamic 0, 3), (24, .return_, 1)]
def xm_1 : xrM := ((0, 1, ⟨"HexTemplates$Bytes", "<init>", "(I)V"⟩), (prog_2_method_1_code, 2, (none)), [], xc_1)
-- 2: HexTemplates$Bytes.get(I)I
def xc_2 : xrC := [(0, .iload_n 1, 1), (1, .ifCond .lt 20, 3), (4, .iload_n 1, 1), (5, .aload_n 0, 1), (6, .getfield 1, 3), (9, .if_icmp .ge 12, 3), (12, .aload_n 0, 1), (13, .getfield 0, 3),
  (16, .iload_n 1, 1), (17, .iaload, 1), (18, .goto 4, 3), (21, .iconst 0, 1), (22, .ireturn, 1)]
def xm_2 : xrM := ((0, 1, ⟨"HexTemplates$Bytes", "get", "(I)I"⟩), (prog_2_method_2_code, 2, (some FieldType.int)), [], xc_2)
-- 3: HexTemplates$Bytes.put(II)V
def xc_3 : xrC := [(0, .iload_n 1, 1), (1, .ifCond .lt 18, 3), (4, .iload_n 1, 1), (5, .aload_n 0, 1), (6, .getfield 1, 3), (9, .if_icmp .ge 10, 3), (12, .aload_n 0, 1), (13, .getfield 0, 3),
  (16, .iload_n 1, 1), (17, .iload_n 2, 1), (18, .iastore, 1), (19, .return_, 1)]
def xm_3 : xrM := ((0, 2, ⟨"HexTemplates$Bytes", "put", "(II)V"⟩), (prog_2_method_3_code, 3, (none)), [], xc_3)
-- 4: HexTemplates$Bytes.append(I)V
def xc_4 : xrC := [(0, .aload_n 0, 1), (1, .getfield 1, 3), (4, .aload_n 0, 1), (5, .getfield 0, 3), (8, .arraylength, 1), (9, .if_icmp .ge 23, 3), (12, .aload_n 0, 1), (13, .getfield 0, 3),
  (16, .aload_n 0, 1), (17, .getfield 1, 3), (20, .iload_n 1, 1), (21, .iastore, 1), (22, .aload_n 0, 1), (23, .dup, 1), (24, .getfield 1, 3), (27, .iconst 1, 1),
  (28, .iadd, 1), (29, .putfield 1, 3), (32, .return_, 1)]
def xm_4 : xrM := ((0, 1, ⟨"HexTemplates$Bytes", "append", "(I)V"⟩), (prog_2_method_4_code, 2, (none)), [], xc_4)
-- 5: HexTemplates$Bytes.copy(LHexTemplates$Bytes;)V
def xc_5 : xrC := [(0, .aload_n 0, 1), (1, .aload_n 1, 1), (2, .getfield 1, 3), (5, .aload_n 0, 1), (6, .getfield 0, 3), (9, .arraylength, 1), (10, .invokestatic 24, 3), (13, .putfield 1, 3),
  (16, .iconst 0, 1), (17, .istore_n 2, 1), (18, .iload_n 2, 1), (19, .aload_n 0, 1), (20, .getfield 1, 3), (23, .if_icmp .ge 21, 3), (26, .aload_n 0, 1), (27, .getfield 0, 3),
  (30, .iload_n 2, 1), (31, .aload_n 1, 1), (32, .getfield 0, 3), (35, .iload_n 2, 1), (36, .iaload, 1), (37, .iastore, 1), (38, .iinc 2 1, 3), (41, .goto (-23), 3),
  (44, .return_, 1)]
def xm_5 : xrM := ((0, 1, ⟨"HexTemplates$Bytes", "copy", "(LHexTemplates$Bytes;)V"⟩), (prog_2_method_5_code, 3, (none)), [], xc_5)
-- 6: HexTemplates$Bytes.open(II)Z
def xc_6 : xrC := [(0, .iload_n 1, 1), (1, .ifCond .lt 29, 3), (4, .iload_n 1, 1), (5, .aload_n 0, 1), (6, .getfield 1, 3), (9, .if_icmp .gt 21, 3), (12, .iload_n 2, 1), (13, .ifCond .lt 17, 3),
  (16, .iload_n 2, 1), (17, .aload_n 0, 1), (18, .getfield 0, 3), (21, .arraylength, 1), (22, .aload_n 0, 1), (23, .getfield 1, 3), (26, .isub, 1), (27, .if_icmp .le 5, 3),
  (30, .iconst 0, 1), (31, .ireturn, 1), (32, .aload_n 0, 1), (33, .getfield 1, 3), (36, .iconst 1, 1), (37, .isub, 1), (38, .istore_n 3, 1), (39, .iload_n 3, 1),
  (40, .iload_n 1, 1), (41, .if_icmp .lt 23, 3), (44, .aload_n 0, 1), (45, .getfield 0, 3), (48, .iload_n 3, 1), (49, .iload_n 2, 1), (50, .iadd, 1), (51, .aload_n 0, 1),
  (52, .getfield 0, 3), (55, .iload_n 3, 1), (56, .iaload, 1), (57, .iastore, 1), (58, .iinc 3 (-1), 3), (61, .goto (-22), 3), (64, .aload_n 0, 1), (65, .dup, 1),
  (66, .getfield 1, 3), (69, .iload_n 2, 1), (70, .iadd, 1), (71, .putfield 1, 3), (74, .iconst 1, 1), (75, .ireturn, 1)]
def xm_6 : xrM := ((0, 2, ⟨"HexTemplates$Bytes", "open", "(II)Z"⟩), (prog_2_method_6_code, 4, (some FieldType.boolean)), [], xc_6)
-- 7: HexTemplates$Bytes.close(II)V
def xc_7 : xrC := [(0, .iload_n 1, 1), (1, .ifCond .lt 17, 3), (4, .iload_n 2, 1), (5, .ifCond .lt 13, 3), (8, .iload_n 2, 1), (9, .aload_n 0, 1), (10, .getfield 1, 3), (13, .iload_n 1, 1),
  (14, .isub, 1), (15, .if_icmp .le 4, 3), (18, .return_, 1), (19, .iload_n 1, 1), (20, .iload_n 2, 1), (21, .iadd, 1), (22, .istore_n 3, 1), (23, .iload_n 3, 1),
  (24, .aload_n 0, 1), (25, .getfield 1, 3), (28, .if_icmp .ge 23, 3), (31, .aload_n 0, 1), (32, .getfield 0, 3), (35, .iload_n 3, 1), (36, .iload_n 2, 1), (37, .isub, 1),
  (38, .aload_n 0, 1), (39, .getfield 0, 3), (42, .iload_n 3, 1), (43, .iaload, 1), (44, .iastore, 1), (45, .iinc 3 1, 3), (48, .goto (-25), 3), (51, .aload_n 0, 1),
  (52, .dup, 1), (53, .getfield 1, 3), (56, .iload_n 2, 1), (57, .isub, 1), (58, .putfield 1, 3), (61, .return_, 1)]
def xm_7 : xrM := ((0, 2, ⟨"HexTemplates$Bytes", "close", "(II)V"⟩), (prog_2_method_7_code, 4, (none)), [], xc_7)
-- 8: HexTemplates$Bytes.repeat(II)V
def xc_8 : xrC := [(0, .iload_n 1, 1), (1, .istore_n 3, 1), (2, .iload_n 3, 1), (3, .iload_n 1, 1), (4, .iload_n 2, 1), (5, .iadd, 1), (6, .if_icmp .ge 21, 3), (9, .aload_n 0, 1),
  (10, .iload_n 3, 1), (11, .iload_n 2, 1), (12, .iadd, 1), (13, .aload_n 0, 1), (14, .iload_n 3, 1), (15, .invokevirtual 2, 3), (18, .invokevirtual 3, 3), (21, .iinc 3 1, 3),
  (24, .goto (-22), 3), (27, .return_, 1)]
def xm_8 : xrM := ((0, 2, ⟨"HexTemplates$Bytes", "repeat", "(II)V"⟩), (prog_2_method_8_code, 4, (none)), [], xc_8)
-- 9: HexTemplates$Editor.<init>()V
def xc_9 : xrC := [(0, .aload_n 0, 1), (1, .monitorexit, 3), (4, .aload_n 0, 1), (5, .new 0, 3), (8, .dup, 1), (9, .sipush 160, 3), (12, .invokespecial 1, 3), (15, .invokedynamic 64, 3),
  (18, .aload_n 0, 1), (19, .sipush 200, 3), (22, .newarray .boolean, 2), (24, .invokedynamic 65, 3), (27, .return_, 1)]
def xm_9 : xrM := ((1, 0, ⟨"HexTemplates$Editor", "<init>", "()V"⟩), (prog_3_method_1_code, 1, (none)), [], xc_9)
-- 10: HexTemplates$Editor.begin(LHexTemplates$Bytes;)V
def xc_10 : xrC := [(0, .aload_n 0, 1), (1, .getfield 64, 3), (4, .aload_n 1, 1), (5, .invokevirtual 5, 3), (8, .return_, 1)]
def xm_10 : xrM := ((1, 1, ⟨"HexTemplates$Editor", "begin", "(LHexTemplates$Bytes;)V"⟩), (prog_3_method_2_code, 2, (none)), [], xc_10)
-- 11: HexTemplates$Editor.write(LHexTemplates$Reader;II)V
def xc_11 : xrC := [(0, .aload_n 1, 1), (1, .getfield 320, 3), (4, .getfield 194, 3), (7, .iload_n 2, 1), (8, .iaload, 1), (9, .istore 4, 2), (11, .aload_n 1, 1), (12, .iload_n 2, 1),
  (13, .invokevirtual 81, 3), (16, .lookupswitch 148 #[(87, 68), (110, 100), (119, 36)], 36), (52, .aload_n 0, 1), (53, .getfield 64, 3), (56, .iload 4, 2), (58, .iload_n 3, 1), (59, .sipush 255, 3), (62, .iand, 1),
  (63, .invokevirtual 3, 3), (66, .aload_n 0, 1), (67, .getfield 64, 3), (70, .iload 4, 2), (72, .iconst 1, 1), (73, .iadd, 1), (74, .iload_n 3, 1), (75, .bipush 8, 2),
  (77, .ishr, 1), (78, .invokevirtual 3, 3), (81, .goto 93, 3), (84, .aload_n 0, 1), (85, .getfield 64, 3), (88, .iload 4, 2), (90, .iload_n 3, 1), (91, .bipush 8, 2),
  (93, .ishr, 1), (94, .invokevirtual 3, 3), (97, .aload_n 0, 1), (98, .getfield 64, 3), (101, .iload 4, 2), (103, .iconst 1, 1), (104, .iadd, 1), (105, .iload_n 3, 1),
  (106, .sipush 255, 3), (109, .iand, 1), (110, .invokevirtual 3, 3), (113, .goto 61, 3), (116, .aload_n 1, 1), (117, .iload_n 2, 1), (118, .invokevirtual 84, 3), (121, .istore 5, 2),
  (123, .aload_n 0, 1), (124, .getfield 64, 3), (127, .iload 4, 2), (129, .invokevirtual 2, 3), (132, .aload_n 1, 1), (133, .iload_n 2, 1), (134, .invokevirtual 83, 3), (137, .iload 5, 2),
  (139, .ishl, 1), (140, .iconst (-1), 1), (141, .ixor, 1), (142, .iand, 1), (143, .istore 6, 2), (145, .aload_n 0, 1), (146, .getfield 64, 3), (149, .iload 4, 2),
  (151, .iload 6, 2), (153, .iload_n 3, 1), (154, .iload 5, 2), (156, .ishl, 1), (157, .ior, 1), (158, .invokevirtual 3, 3), (161, .goto 13, 3), (164, .aload_n 0, 1),
  (165, .getfield 64, 3), (168, .iload 4, 2), (170, .iload_n 3, 1), (171, .invokevirtual 3, 3), (174, .return_, 1)]
def xm_11 : xrM := ((1, 3, ⟨"HexTemplates$Editor", "write", "(LHexTemplates$Reader;II)V"⟩), (prog_3_method_3_code, 7, (none)), [], xc_11)
-- 12: HexTemplates$Editor.putIn(LHexTemplates$Reader;III)Z
def xc_12 : xrC := [(0, .aload_n 1, 1), (1, .getfield 320, 3), (4, .astore 5, 2), (6, .aload_n 0, 1), (7, .getfield 64, 3), (10, .getfield 1, 3), (13, .iload 4, 2), (15, .iadd, 1),
  (16, .sipush 160, 3), (19, .if_icmp .le 5, 3), (22, .iconst 0, 1), (23, .ireturn, 1), (24, .iconst 0, 1), (25, .istore 6, 2), (27, .iload 6, 2), (29, .aload 5, 2),
  (31, .getfield 199, 3), (34, .if_icmp .ge 70, 3), (37, .aload 5, 2), (39, .getfield 192, 3), (42, .iload 6, 2), (44, .iaload, 1), (45, .iconst 3, 1), (46, .if_icmp .ne 52, 3),
  (49, .aload 5, 2), (51, .getfield 196, 3), (54, .iload 6, 2), (56, .iaload, 1), (57, .iload_n 3, 1), (58, .if_icmp .lt 40, 3), (61, .aload 5, 2), (63, .getfield 196, 3),
  (66, .iload 6, 2), (68, .iaload, 1), (69, .iload 4, 2), (71, .iadd, 1), (72, .sipush 255, 3), (75, .if_icmp .le 5, 3), (78, .iconst 0, 1), (79, .ireturn, 1),
  (80, .aload_n 0, 1), (81, .aload_n 1, 1), (82, .iload 6, 2), (84, .aload 5, 2), (86, .getfield 196, 3), (89, .iload 6, 2), (91, .iaload, 1), (92, .iload 4, 2),
  (94, .iadd, 1), (95, .invokevirtual 11, 3), (98, .iinc 6 1, 3), (101, .goto (-74), 3), (104, .aload_n 0, 1), (105, .aload_n 1, 1), (106, .iload_n 2, 1), (107, .iload 4, 2),
  (109, .iconst 1, 1), (110, .invokevirtual 14, 3), (113, .aload_n 0, 1), (114, .getfield 64, 3), (117, .iload_n 3, 1), (118, .iload 4, 2), (120, .invokevirtual 6, 3), (123, .ireturn, 1)]
def xm_12 : xrM := ((1, 4, ⟨"HexTemplates$Editor", "putIn", "(LHexTemplates$Reader;III)Z"⟩), (prog_3_method_4_code, 7, (some FieldType.boolean)), [], xc_12)
-- 13: HexTemplates$Editor.takeOut(LHexTemplates$Reader;III)V
def xc_13 : xrC := [(0, .aload_n 1, 1), (1, .getfield 320, 3), (4, .astore 5, 2), (6, .iconst 0, 1), (7, .istore 6, 2), (9, .iload 6, 2), (11, .aload 5, 2), (13, .getfield 199, 3),
  (16, .if_icmp .ge 55, 3), (19, .aload 5, 2), (21, .getfield 192, 3), (24, .iload 6, 2), (26, .iaload, 1), (27, .iconst 3, 1), (28, .if_icmp .ne 37, 3), (31, .aload 5, 2),
  (33, .getfield 196, 3), (36, .iload 6, 2), (38, .iaload, 1), (39, .iload_n 3, 1), (40, .if_icmp .le 25, 3), (43, .aload_n 0, 1), (44, .aload_n 1, 1), (45, .iload 6, 2),
  (47, .aload 5, 2), (49, .getfield 196, 3), (52, .iload 6, 2), (54, .iaload, 1), (55, .iload 4, 2), (57, .isub, 1), (58, .iload_n 3, 1), (59, .invokestatic 22, 3),
  (62, .invokevirtual 11, 3), (65, .iinc 6 1, 3), (68, .goto (-59), 3), (71, .aload_n 0, 1), (72, .aload_n 1, 1), (73, .iload_n 2, 1), (74, .iload 4, 2), (76, .ineg, 1),
  (77, .iconst (-1), 1), (78, .invokevirtual 14, 3), (81, .aload_n 0, 1), (82, .getfield 64, 3), (85, .iload_n 3, 1), (86, .iload 4, 2), (88, .invokevirtual 7, 3), (91, .return_, 1)]
def xm_13 : xrM := ((1, 4, ⟨"HexTemplates$Editor", "takeOut", "(LHexTemplates$Reader;III)V"⟩), (prog_3_method_5_code, 7, (none)), [], xc_13)
-- 14: HexTemplates$Editor.tellNewLengths(LHexTemplates$Reader;III)V
def xc_14 : xrC := [(0, .aload_n 1, 1), (1, .getfield 320, 3), (4, .astore 5, 2), (6, .iconst 0, 1), (7, .istore 6, 2), (9, .iload 6, 2), (11, .aload 5, 2), (13, .getfield 199, 3),
  (16, .if_icmp .ge 91, 3), (19, .aload_n 1, 1), (20, .iload 6, 2), (22, .invokevirtual 76, 3), (25, .istore 7, 2), (27, .aload_n 1, 1), (28, .iload 6, 2), (30, .invokevirtual 77, 3),
  (33, .istore 8, 2), (35, .iload 7, 2), (37, .bipush 35, 2), (39, .if_icmp .ne 31, 3), (42, .aload 5, 2), (44, .iload 8, 2), (46, .iload_n 2, 1), (47, .invokevirtual 34, 3),
  (50, .ifCond .eq 20, 3), (53, .aload_n 0, 1), (54, .aload_n 1, 1), (55, .iload 6, 2), (57, .aload 5, 2), (59, .getfield 195, 3), (62, .iload 8, 2), (64, .iaload, 1),
  (65, .iload_n 3, 1), (66, .iadd, 1), (67, .invokevirtual 11, 3), (70, .iload 7, 2), (72, .bipush 37, 2), (74, .if_icmp .ne 27, 3), (77, .iload 8, 2), (79, .iload_n 2, 1),
  (80, .if_icmp .ne 21, 3), (83, .aload_n 0, 1), (84, .aload_n 1, 1), (85, .iload 6, 2), (87, .aload 5, 2), (89, .getfield 196, 3), (92, .iload 8, 2), (94, .iaload, 1),
  (95, .iload 4, 2), (97, .iadd, 1), (98, .invokevirtual 11, 3), (101, .iinc 6 1, 3), (104, .goto (-95), 3), (107, .return_, 1)]
def xm_14 : xrM := ((1, 4, ⟨"HexTemplates$Editor", "tellNewLengths", "(LHexTemplates$Reader;III)V"⟩), (prog_3_method_6_code, 9, (none)), [], xc_14)
-- 15: HexTemplates$Editor.settleCounts(LHexTemplates$Reader;LHexTemplates$Template;)Z
def xc_15 : xrC := [(0, .iconst 0, 1), (1, .istore_n 3, 1), (2, .iload_n 3, 1), (3, .iconst 4, 1), (4, .if_icmp .gt 35, 3), (7, .aload_n 1, 1), (8, .aload_n 2, 1), (9, .aload_n 0, 1),
  (10, .getfield 64, 3), (13, .iconst 0, 1), (14, .iconst 0, 1), (15, .invokevirtual 56, 3), (18, .ifCond .ne 5, 3), (21, .iconst 0, 1), (22, .ireturn, 1), (23, .aload_n 0, 1),
  (24, .aload_n 1, 1), (25, .invokevirtual 16, 3), (28, .ifCond .ne 5, 3), (31, .iconst 1, 1), (32, .ireturn, 1), (33, .iinc 3 1, 3), (36, .goto (-34), 3), (39, .iconst 0, 1),
  (40, .ireturn, 1)]
def xm_15 : xrM := ((1, 2, ⟨"HexTemplates$Editor", "settleCounts", "(LHexTemplates$Reader;LHexTemplates$Template;)Z"⟩), (prog_3_method_7_code, 4, (some FieldType.boolean)), [], xc_15)
-- 16: HexTemplates$Editor.mendCounts(LHexTemplates$Reader;)I
def xc_16 : xrC := [(0, .iconst 0, 1), (1, .istore_n 2, 1), (2, .iconst 0, 1), (3, .istore_n 3, 1), (4, .iload_n 3, 1), (5, .aload_n 1, 1), (6, .getfield 320, 3), (9, .getfield 199, 3),
  (12, .if_icmp .ge 62, 3), (15, .aload_n 1, 1), (16, .iload_n 3, 1), (17, .invokevirtual 76, 3), (20, .istore 4, 2), (22, .aload_n 1, 1), (23, .iload_n 3, 1), (24, .invokevirtual 78, 3),
  (27, .istore 5, 2), (29, .iload 4, 2), (31, .bipush 35, 2), (33, .if_icmp .eq 10, 3), (36, .iload 4, 2), (38, .bipush 37, 2), (40, .if_icmp .ne 28, 3), (43, .aload_n 1, 1),
  (44, .getfield 320, 3), (47, .getfield 196, 3), (50, .iload_n 3, 1), (51, .iaload, 1), (52, .iload 5, 2), (54, .if_icmp .eq 14, 3), (57, .aload_n 0, 1), (58, .aload_n 1, 1),
  (59, .iload_n 3, 1), (60, .iload 5, 2), (62, .invokevirtual 11, 3), (65, .iinc 2 1, 3), (68, .iinc 3 1, 3), (71, .goto (-67), 3), (74, .iload_n 2, 1), (75, .ireturn, 1)]
def xm_16 : xrM := ((1, 1, ⟨"HexTemplates$Editor", "mendCounts", "(LHexTemplates$Reader;)I"⟩), (prog_3_method_8_code, 6, (some FieldType.int)), [], xc_16)
-- 17: HexTemplates$Editor.settleSums(LHexTemplates$Reader;)Z
def xc_17 : xrC := [(0, .aload_n 1, 1), (1, .getfield 320, 3), (4, .astore_n 2, 1), (5, .iconst 0, 1), (6, .istore_n 3, 1), (7, .iconst 0, 1), (8, .istore 4, 2), (10, .iload 4, 2),
  (12, .aload_n 2, 1), (13, .getfield 199, 3), (16, .if_icmp .ge 61, 3), (19, .aload_n 1, 1), (20, .iload 4, 2), (22, .invokevirtual 76, 3), (25, .istore 5, 2), (27, .aload_n 0, 1),
  (28, .getfield 65, 3), (31, .iload 4, 2), (33, .iload 5, 2), (35, .bipush 43, 2), (37, .if_icmp .eq 10, 3), (40, .iload 5, 2), (42, .bipush 94, 2), (44, .if_icmp .ne 7, 3),
  (47, .iconst 1, 1), (48, .goto 4, 3), (51, .iconst 0, 1), (52, .bastore, 1), (53, .iload_n 3, 1), (54, .aload_n 0, 1), (55, .getfield 65, 3), (58, .iload 4, 2),
  (60, .baload, 1), (61, .ifCond .eq 7, 3), (64, .iconst 1, 1), (65, .goto 4, 3), (68, .iconst 0, 1), (69, .iadd, 1), (70, .istore_n 3, 1), (71, .iinc 4 1, 3),
  (74, .goto (-64), 3), (77, .iload_n 3, 1), (78, .istore 4, 2), (80, .iload 4, 2), (82, .ifCond .le 45, 3), (85, .aload_n 0, 1), (86, .aload_n 1, 1), (87, .invokevirtual 18, 3),
  (90, .istore 5, 2), (92, .iload 5, 2), (94, .iconst (-1), 1), (95, .if_icmp .ne 5, 3), (98, .iconst 0, 1), (99, .ireturn, 1), (100, .aload_n 0, 1), (101, .aload_n 1, 1),
  (102, .iload 5, 2), (104, .aload_n 1, 1), (105, .iload 5, 2), (107, .invokevirtual 78, 3), (110, .invokevirtual 11, 3), (113, .aload_n 0, 1), (114, .getfield 65, 3), (117, .iload 5, 2),
  (119, .iconst 0, 1), (120, .bastore, 1), (121, .iinc 4 (-1), 3), (124, .goto (-44), 3), (127, .iconst 1, 1), (128, .ireturn, 1)]
def xm_17 : xrM := ((1, 1, ⟨"HexTemplates$Editor", "settleSums", "(LHexTemplates$Reader;)Z"⟩), (prog_3_method_9_code, 6, (some FieldType.boolean)), [], xc_17)
-- 18: HexTemplates$Editor.firstReady(LHexTemplates$Reader;)I
def xc_18 : xrC := [(0, .iconst 0, 1), (1, .istore_n 2, 1), (2, .iload_n 2, 1), (3, .aload_n 1, 1), (4, .getfield 320, 3), (7, .getfield 199, 3), (10, .if_icmp .ge 36, 3), (13, .aload_n 0, 1),
  (14, .getfield 65, 3), (17, .iload_n 2, 1), (18, .baload, 1), (19, .ifCond .eq 21, 3), (22, .aload_n 0, 1), (23, .aload_n 1, 1), (24, .getfield 320, 3), (27, .aload_n 1, 1),
  (28, .iload_n 2, 1), (29, .invokevirtual 77, 3), (32, .invokevirtual 19, 3), (35, .ifCond .ne 5, 3), (38, .iload_n 2, 1), (39, .ireturn, 1), (40, .iinc 2 1, 3), (43, .goto (-41), 3),
  (46, .iconst (-1), 1), (47, .ireturn, 1)]
def xm_18 : xrM := ((1, 1, ⟨"HexTemplates$Editor", "firstReady", "(LHexTemplates$Reader;)I"⟩), (prog_3_method_10_code, 3, (some FieldType.int)), [], xc_18)
-- 19: HexTemplates$Editor.hasLeftIn(LHexTemplates$Nodes;I)Z
def xc_19 : xrC := [(0, .iload_n 2, 1), (1, .istore_n 3, 1), (2, .aload_n 1, 1), (3, .iload_n 3, 1), (4, .invokevirtual 27, 3), (7, .ifCond .eq 42, 3), (10, .aload_n 1, 1), (11, .getfield 194, 3),
  (14, .iload_n 3, 1), (15, .iaload, 1), (16, .aload_n 1, 1), (17, .getfield 194, 3), (20, .iload_n 2, 1), (21, .iaload, 1), (22, .aload_n 1, 1), (23, .getfield 195, 3),
  (26, .iload_n 2, 1), (27, .iaload, 1), (28, .iadd, 1), (29, .if_icmp .ge 20, 3), (32, .aload_n 0, 1), (33, .getfield 65, 3), (36, .iload_n 3, 1), (37, .baload, 1),
  (38, .ifCond .eq 5, 3), (41, .iconst 1, 1), (42, .ireturn, 1), (43, .iinc 3 1, 3), (46, .goto (-44), 3), (49, .iconst 0, 1), (50, .ireturn, 1)]
def xm_19 : xrM := ((1, 2, ⟨"HexTemplates$Editor", "hasLeftIn", "(LHexTemplates$Nodes;I)Z"⟩), (prog_3_method_11_code, 4, (some FieldType.boolean)), [], xc_19)
-- 20: HexTemplates$Editor.stands(LHexTemplates$Reader;LHexTemplates$Template;)Z
def xc_20 : xrC := [(0, .aload_n 1, 1), (1, .aload_n 2, 1), (2, .aload_n 0, 1), (3, .getfield 64, 3), (6, .iconst 0, 1), (7, .iconst 0, 1), (8, .invokevirtual 56, 3), (11, .ifCond .eq 14, 3),
  (14, .aload_n 1, 1), (15, .invokevirtual 80, 3), (18, .ifCond .ne 7, 3), (21, .iconst 1, 1), (22, .goto 4, 3), (25, .iconst 0, 1), (26, .ireturn, 1)]
def xm_20 : xrM := ((1, 2, ⟨"HexTemplates$Editor", "stands", "(LHexTemplates$Reader;LHexTemplates$Template;)Z"⟩), (prog_3_method_12_code, 3, (some FieldType.boolean)), [], xc_20)
-- 21: HexTemplates$Hunk.<init>()V
def xc_21 : xrC := [(0, .aload_n 0, 1), (1, .monitorexit, 3), (4, .aload_n 0, 1), (5, .iconst 0, 1), (6, .putfield 128, 3), (9, .aload_n 0, 1), (10, .iconst 0, 1), (11, .putfield 129, 3),
  (14, .aload_n 0, 1), (15, .iconst 0, 1), (16, .putfield 130, 3), (19, .return_, 1)]
def xm_21 : xrM := ((2, 0, ⟨"HexTemplates$Hunk", "<init>", "()V"⟩), (prog_4_method_1_code, 1, (none)), [], xc_21)
-- 22: java/lang/Math.max(II)I
def xc_22 : xrC := [(0, .iload_n 0, 1), (1, .iload_n 1, 1), (2, .if_icmp .lt 7, 3), (5, .iload_n 0, 1), (6, .goto 4, 3), (9, .iload_n 1, 1), (10, .ireturn, 1)]
def xm_22 : xrM := ((99, 2, ⟨"java/lang/Math", "max", "(II)I"⟩), (prog_16_method_65_code, 2, (some FieldType.int)), [], xc_22)
-- 23: java/lang/Math.max(JJ)J
def xc_23 : xrC := [(0, .lload_n 0, 1), (1, .lload_n 2, 1), (2, .lcmp, 1), (3, .ifCond .lt 7, 3), (6, .lload_n 0, 1), (7, .goto 4, 3), (10, .lload_n 2, 1), (11, .lreturn, 1)]
def xm_23 : xrM := ((99, 2, ⟨"java/lang/Math", "max", "(JJ)J"⟩), (prog_16_method_66_code, 4, (some FieldType.long)), [], xc_23)
-- 24: java/lang/Math.min(II)I
def xc_24 : xrC := [(0, .iload_n 0, 1), (1, .iload_n 1, 1), (2, .if_icmp .gt 7, 3), (5, .iload_n 0, 1), (6, .goto 4, 3), (9, .iload_n 1, 1), (10, .ireturn, 1)]
def xm_24 : xrM := ((99, 2, ⟨"java/lang/Math", "min", "(II)I"⟩), (prog_16_method_69_code, 2, (some FieldType.int)), [], xc_24)
-- 25: java/lang/Math.min(JJ)J
def xc_25 : xrC := [(0, .lload_n 0, 1), (1, .lload_n 2, 1), (2, .lcmp, 1), (3, .ifCond .gt 7, 3), (6, .lload_n 0, 1), (7, .goto 4, 3), (10, .lload_n 2, 1), (11, .lreturn, 1)]
def xm_25 : xrM := ((99, 2, ⟨"java/lang/Math", "min", "(JJ)J"⟩), (prog_16_method_70_code, 4, (some FieldType.long)), [], xc_25)
-- 26: HexTemplates$Nodes.<init>()V
def xc_26 : xrC := [(0, .aload_n 0, 1), (1, .monitorexit, 3), (4, .aload_n 0, 1), (5, .sipush 200, 3), (8, .newarray .int, 2), (10, .invokedynamic 192, 3), (13, .aload_n 0, 1), (14, .sipush 200, 3),
  (17, .newarray .int, 2), (19, .invokedynamic 193, 3), (22, .aload_n 0, 1), (23, .sipush 200, 3), (26, .newarray .int, 2), (28, .invokedynamic 194, 3), (31, .aload_n 0, 1), (32, .sipush 200, 3),
  (35, .newarray .int, 2), (37, .invokedynamic 195, 3), (40, .aload_n 0, 1), (41, .sipush 200, 3), (44, .newarray .int, 2), (46, .invokedynamic 196, 3), (49, .aload_n 0, 1), (50, .sipush 200, 3),
  (53, .newarray .int, 2), (55, .invokedynamic 197, 3), (58, .aload_n 0, 1), (59, .sipush 200, 3), (62, .newarray .int, 2), (64, .invokedynamic 198, 3), (67, .aload_n 0, 1), (68, .iconst 0, 1),
  (69, .putfield 199, 3), (72, .return_, 1)]
def xm_26 : xrM := ((3, 0, ⟨"HexTemplates$Nodes", "<init>", "()V"⟩), (prog_5_method_1_code, 1, (none)), [], xc_26)
-- 27: HexTemplates$Nodes.has(I)Z
def xc_27 : xrC := [(0, .iload_n 1, 1), (1, .ifCond .lt 15, 3), (4, .iload_n 1, 1), (5, .aload_n 0, 1), (6, .getfield 199, 3), (9, .if_icmp .ge 7, 3), (12, .iconst 1, 1), (13, .goto 4, 3),
  (16, .iconst 0, 1), (17, .ireturn, 1)]
def xm_27 : xrM := ((3, 1, ⟨"HexTemplates$Nodes", "has", "(I)Z"⟩), (prog_5_method_2_code, 2, (some FieldType.boolean)), [], xc_27)
-- 28: HexTemplates$Nodes.add(IIII)I
def xc_28 : xrC := [(0, .aload_n 0, 1), (1, .getfield 199, 3), (4, .sipush 200, 3), (7, .if_icmp .lt 5, 3), (10, .iconst (-1), 1), (11, .ireturn, 1), (12, .aload_n 0, 1), (13, .getfield 192, 3),
  (16, .aload_n 0, 1), (17, .getfield 199, 3), (20, .iload_n 1, 1), (21, .iastore, 1), (22, .aload_n 0, 1), (23, .getfield 198, 3), (26, .aload_n 0, 1), (27, .getfield 199, 3),
  (30, .iload_n 2, 1), (31, .iastore, 1), (32, .aload_n 0, 1), (33, .getfield 194, 3), (36, .aload_n 0, 1), (37, .getfield 199, 3), (40, .iload_n 3, 1), (41, .iastore, 1),
  (42, .aload_n 0, 1), (43, .getfield 197, 3), (46, .aload_n 0, 1), (47, .getfield 199, 3), (50, .iload 4, 2), (52, .iastore, 1), (53, .aload_n 0, 1), (54, .dup, 1),
  (55, .getfield 199, 3), (58, .iconst 1, 1), (59, .iadd, 1), (60, .putfield 199, 3), (63, .aload_n 0, 1), (64, .getfield 199, 3), (67, .iconst 1, 1), (68, .isub, 1),
  (69, .ireturn, 1)]
def xm_28 : xrM := ((3, 4, ⟨"HexTemplates$Nodes", "add", "(IIII)I"⟩), (prog_5_method_3_code, 5, (some FieldType.int)), [], xc_28)
-- 29: HexTemplates$Nodes.tell(IIII)V
def xc_29 : xrC := [(0, .aload_n 0, 1), (1, .iload_n 1, 1), (2, .invokevirtual 27, 3), (5, .ifCond .eq 25, 3), (8, .aload_n 0, 1), (9, .getfield 193, 3), (12, .iload_n 1, 1), (13, .iload_n 2, 1),
  (14, .iastore, 1), (15, .aload_n 0, 1), (16, .getfield 195, 3), (19, .iload_n 1, 1), (20, .iload_n 3, 1), (21, .iastore, 1), (22, .aload_n 0, 1), (23, .getfield 196, 3),
  (26, .iload_n 1, 1), (27, .iload 4, 2), (29, .iastore, 1), (30, .return_, 1)]
def xm_29 : xrM := ((3, 4, ⟨"HexTemplates$Nodes", "tell", "(IIII)V"⟩), (prog_5_method_4_code, 5, (none)), [], xc_29)
-- 30: HexTemplates$Nodes.isNumeric(I)Z
def xc_30 : xrC := [(0, .aload_n 0, 1), (1, .iload_n 1, 1), (2, .invokevirtual 27, 3), (5, .ifCond .eq 37, 3), (8, .aload_n 0, 1), (9, .getfield 192, 3), (12, .iload_n 1, 1), (13, .iaload, 1),
  (14, .iconst 2, 1), (15, .if_icmp .eq 23, 3), (18, .aload_n 0, 1), (19, .getfield 192, 3), (22, .iload_n 1, 1), (23, .iaload, 1), (24, .iconst 3, 1), (25, .if_icmp .eq 13, 3),
  (28, .aload_n 0, 1), (29, .getfield 192, 3), (32, .iload_n 1, 1), (33, .iaload, 1), (34, .iconst 4, 1), (35, .if_icmp .ne 7, 3), (38, .iconst 1, 1), (39, .goto 4, 3),
  (42, .iconst 0, 1), (43, .ireturn, 1)]
def xm_30 : xrM := ((3, 1, ⟨"HexTemplates$Nodes", "isNumeric", "(I)Z"⟩), (prog_5_method_5_code, 2, (some FieldType.boolean)), [], xc_30)
-- 31: HexTemplates$Nodes.fieldIn(II)I
def xc_31 : xrC := [(0, .iload_n 1, 1), (1, .iconst 1, 1), (2, .iadd, 1), (3, .istore_n 3, 1), (4, .iload_n 3, 1), (5, .aload_n 0, 1), (6, .getfield 199, 3), (9, .if_icmp .ge 31, 3),
  (12, .aload_n 0, 1), (13, .getfield 197, 3), (16, .iload_n 3, 1), (17, .iaload, 1), (18, .iload_n 1, 1), (19, .if_icmp .ne 15, 3), (22, .aload_n 0, 1), (23, .getfield 198, 3),
  (26, .iload_n 3, 1), (27, .iaload, 1), (28, .iload_n 2, 1), (29, .if_icmp .ne 5, 3), (32, .iload_n 3, 1), (33, .ireturn, 1), (34, .iinc 3 1, 3), (37, .goto (-33), 3),
  (40, .iconst (-1), 1), (41, .ireturn, 1)]
def xm_31 : xrM := ((3, 2, ⟨"HexTemplates$Nodes", "fieldIn", "(II)I"⟩), (prog_5_method_6_code, 4, (some FieldType.int)), [], xc_31)
-- 32: HexTemplates$Nodes.firstReferenceIn(I)I
def xc_32 : xrC := [(0, .iload_n 1, 1), (1, .iconst 1, 1), (2, .iadd, 1), (3, .istore_n 2, 1), (4, .iload_n 2, 1), (5, .aload_n 0, 1), (6, .getfield 199, 3), (9, .if_icmp .ge 31, 3),
  (12, .aload_n 0, 1), (13, .getfield 197, 3), (16, .iload_n 2, 1), (17, .iaload, 1), (18, .iload_n 1, 1), (19, .if_icmp .ne 15, 3), (22, .aload_n 0, 1), (23, .getfield 192, 3),
  (26, .iload_n 2, 1), (27, .iaload, 1), (28, .iconst 3, 1), (29, .if_icmp .ne 5, 3), (32, .iload_n 2, 1), (33, .ireturn, 1), (34, .iinc 2 1, 3), (37, .goto (-33), 3),
  (40, .iconst (-1), 1), (41, .ireturn, 1)]
def xm_32 : xrM := ((3, 1, ⟨"HexTemplates$Nodes", "firstReferenceIn", "(I)I"⟩), (prog_5_method_7_code, 3, (some FieldType.int)), [], xc_32)
-- 33: HexTemplates$Nodes.elementAt(II)I
def xc_33 : xrC := [(0, .aload_n 0, 1), (1, .iload_n 1, 1), (2, .invokevirtual 27, 3), (5, .ifCond .eq 17, 3), (8, .aload_n 0, 1), (9, .getfield 192, 3), (12, .iload_n 1, 1), (13, .iaload, 1),
  (14, .iconst 1, 1), (15, .if_icmp .ne 7, 3), (18, .iload_n 2, 1), (19, .ifCond .ge 5, 3), (22, .iconst (-1), 1), (23, .ireturn, 1), (24, .iload_n 2, 1), (25, .istore_n 3, 1),
  (26, .iload_n 1, 1), (27, .iconst 1, 1), (28, .iadd, 1), (29, .istore 4, 2), (31, .iload 4, 2), (33, .aload_n 0, 1), (34, .getfield 199, 3), (37, .if_icmp .ge 30, 3),
  (40, .aload_n 0, 1), (41, .getfield 197, 3), (44, .iload 4, 2), (46, .iaload, 1), (47, .iload_n 1, 1), (48, .if_icmp .ne 13, 3), (51, .iload_n 3, 1), (52, .ifCond .ne 6, 3),
  (55, .iload 4, 2), (57, .ireturn, 1), (58, .iinc 3 (-1), 3), (61, .iinc 4 1, 3), (64, .goto (-33), 3), (67, .iconst (-1), 1), (68, .ireturn, 1)]
def xm_33 : xrM := ((3, 2, ⟨"HexTemplates$Nodes", "elementAt", "(II)I"⟩), (prog_5_method_8_code, 5, (some FieldType.int)), [], xc_33)
-- 34: HexTemplates$Nodes.holds(II)Z
def xc_34 : xrC := [(0, .iload_n 2, 1), (1, .istore_n 3, 1), (2, .iconst 0, 1), (3, .istore 4, 2), (5, .iload 4, 2), (7, .sipush 200, 3), (10, .if_icmp .ge 31, 3), (13, .aload_n 0, 1),
  (14, .iload_n 3, 1), (15, .invokevirtual 27, 3), (18, .ifCond .eq 23, 3), (21, .iload_n 3, 1), (22, .iload_n 1, 1), (23, .if_icmp .ne 5, 3), (26, .iconst 1, 1), (27, .ireturn, 1),
  (28, .aload_n 0, 1), (29, .getfield 197, 3), (32, .iload_n 3, 1), (33, .iaload, 1), (34, .istore_n 3, 1), (35, .iinc 4 1, 3), (38, .goto (-33), 3), (41, .iconst 0, 1),
  (42, .ireturn, 1)]
def xm_34 : xrM := ((3, 2, ⟨"HexTemplates$Nodes", "holds", "(II)Z"⟩), (prog_5_method_9_code, 5, (some FieldType.boolean)), [], xc_34)
-- 35: HexTemplates$Parser.<init>()V
def xc_35 : xrC := [(0, .aload_n 0, 1), (1, .monitorexit, 3), (4, .aload_n 0, 1), (5, .aconst_null, 1), (6, .invokedynamic 256, 3), (9, .aload_n 0, 1), (10, .aconst_null, 1), (11, .invokedynamic 257, 3),
  (14, .aload_n 0, 1), (15, .iconst 0, 1), (16, .putfield 258, 3), (19, .aload_n 0, 1), (20, .iconst (-1), 1), (21, .putfield 259, 3), (24, .aload_n 0, 1), (25, .iconst 0, 1),
  (26, .putfield 260, 3), (29, .aload_n 0, 1), (30, .iconst 0, 1), (31, .putfield 261, 3), (34, .return_, 1)]
def xm_35 : xrM := ((4, 0, ⟨"HexTemplates$Parser", "<init>", "()V"⟩), (prog_6_method_1_code, 1, (none)), [], xc_35)
-- 36: HexTemplates$Parser.parse(LHexTemplates$Bytes;LHexTemplates$Template;)Z
def xc_36 : xrC := [(0, .aload_n 0, 1), (1, .aload_n 1, 1), (2, .aload_n 2, 1), (3, .invokevirtual 37, 3), (6, .iconst 0, 1), (7, .istore_n 3, 1), (8, .iload_n 3, 1), (9, .bipush 6, 2),
  (11, .if_icmp .ge 77, 3), (14, .aload_n 0, 1), (15, .getfield 259, 3), (18, .iconst (-1), 1), (19, .if_icmp .eq 69, 3), (22, .aload_n 0, 1), (23, .iload_n 3, 1), (24, .invokevirtual 42, 3),
  (27, .ifCond .ne 5, 3), (30, .iconst 0, 1), (31, .ireturn, 1), (32, .iconst 0, 1), (33, .istore 4, 2), (35, .iload 4, 2), (37, .bipush 8, 2), (39, .if_icmp .ge 34, 3),
  (42, .aload_n 0, 1), (43, .getfield 259, 3), (46, .bipush 125, 2), (48, .if_icmp .eq 25, 3), (51, .aload_n 0, 1), (52, .iload_n 3, 1), (53, .bipush 8, 2), (55, .imul, 1),
  (56, .iload 4, 2), (58, .iadd, 1), (59, .invokevirtual 46, 3), (62, .ifCond .ne 5, 3), (65, .iconst 0, 1), (66, .ireturn, 1), (67, .iinc 4 1, 3), (70, .goto (-35), 3),
  (73, .aload_n 0, 1), (74, .invokevirtual 43, 3), (77, .ifCond .ne 5, 3), (80, .iconst 0, 1), (81, .ireturn, 1), (82, .iinc 3 1, 3), (85, .goto (-77), 3), (88, .aload_n 0, 1),
  (89, .getfield 259, 3), (92, .iconst (-1), 1), (93, .if_icmp .ne 24, 3), (96, .aload_n 0, 1), (97, .getfield 257, 3), (100, .getfield 449, 3), (103, .ifCond .le 14, 3), (106, .aload_n 0, 1),
  (107, .invokevirtual 44, 3), (110, .ifCond .eq 7, 3), (113, .iconst 1, 1), (114, .goto 4, 3), (117, .iconst 0, 1), (118, .ireturn, 1)]
def xm_36 : xrM := ((4, 2, ⟨"HexTemplates$Parser", "parse", "(LHexTemplates$Bytes;LHexTemplates$Template;)Z"⟩), (prog_6_method_2_code, 5, (some FieldType.boolean)), [], xc_36)
-- 37: HexTemplates$Parser.begin(LHexTemplates$Bytes;LHexTemplates$Template;)V
def xc_37 : xrC := [(0, .aload_n 0, 1), (1, .aload_n 1, 1), (2, .invokedynamic 256, 3), (5, .aload_n 0, 1), (6, .aload_n 2, 1), (7, .invokedynamic 257, 3), (10, .aload_n 0, 1), (11, .getfield 257, 3),
  (14, .invokevirtual 96, 3), (17, .aload_n 0, 1), (18, .iconst 0, 1), (19, .putfield 261, 3), (22, .aload_n 0, 1), (23, .iconst (-1), 1), (24, .putfield 258, 3), (27, .aload_n 0, 1),
  (28, .invokevirtual 38, 3), (31, .return_, 1)]
def xm_37 : xrM := ((4, 2, ⟨"HexTemplates$Parser", "begin", "(LHexTemplates$Bytes;LHexTemplates$Template;)V"⟩), (prog_6_method_3_code, 3, (none)), [], xc_37)
-- 38: HexTemplates$Parser.advance()V
def xc_38 : xrC := [(0, .aload_n 0, 1), (1, .dup, 1), (2, .getfield 258, 3), (5, .iconst 1, 1), (6, .iadd, 1), (7, .putfield 258, 3), (10, .aload_n 0, 1), (11, .aload_n 0, 1),
  (12, .getfield 258, 3), (15, .ifCond .lt 32, 3), (18, .aload_n 0, 1), (19, .getfield 258, 3), (22, .aload_n 0, 1), (23, .getfield 256, 3), (26, .getfield 1, 3), (29, .if_icmp .ge 18, 3),
  (32, .aload_n 0, 1), (33, .getfield 256, 3), (36, .getfield 0, 3), (39, .aload_n 0, 1), (40, .getfield 258, 3), (43, .iaload, 1), (44, .goto 4, 3), (47, .iconst (-1), 1),
  (48, .putfield 259, 3), (51, .return_, 1)]
def xm_38 : xrM := ((4, 0, ⟨"HexTemplates$Parser", "advance", "()V"⟩), (prog_6_method_4_code, 1, (none)), [], xc_38)
-- 39: HexTemplates$Parser.accept(I)Z
def xc_39 : xrC := [(0, .aload_n 0, 1), (1, .getfield 259, 3), (4, .iload_n 1, 1), (5, .if_icmp .eq 5, 3), (8, .iconst 0, 1), (9, .ireturn, 1), (10, .aload_n 0, 1), (11, .invokevirtual 38, 3),
  (14, .iconst 1, 1), (15, .ireturn, 1)]
def xm_39 : xrM := ((4, 1, ⟨"HexTemplates$Parser", "accept", "(I)Z"⟩), (prog_6_method_5_code, 2, (some FieldType.boolean)), [], xc_39)
-- 40: HexTemplates$Parser.isName()Z
def xc_40 : xrC := [(0, .aload_n 0, 1), (1, .getfield 259, 3), (4, .bipush 65, 2), (6, .if_icmp .lt 25, 3), (9, .aload_n 0, 1), (10, .getfield 259, 3), (13, .bipush 90, 2), (15, .if_icmp .gt 16, 3),
  (18, .aload_n 0, 1), (19, .getfield 259, 3), (22, .bipush 87, 2), (24, .if_icmp .eq 7, 3), (27, .iconst 1, 1), (28, .goto 4, 3), (31, .iconst 0, 1), (32, .ireturn, 1)]
def xm_40 : xrM := ((4, 0, ⟨"HexTemplates$Parser", "isName", "()Z"⟩), (prog_6_method_6_code, 1, (some FieldType.boolean)), [], xc_40)
-- 41: HexTemplates$Parser.isDigit()Z
def xc_41 : xrC := [(0, .aload_n 0, 1), (1, .getfield 259, 3), (4, .bipush 48, 2), (6, .if_icmp .lt 16, 3), (9, .aload_n 0, 1), (10, .getfield 259, 3), (13, .bipush 57, 2), (15, .if_icmp .gt 7, 3),
  (18, .iconst 1, 1), (19, .goto 4, 3), (22, .iconst 0, 1), (23, .ireturn, 1)]
def xm_41 : xrM := ((4, 0, ⟨"HexTemplates$Parser", "isDigit", "()Z"⟩), (prog_6_method_7_code, 1, (some FieldType.boolean)), [], xc_41)
-- 42: HexTemplates$Parser.openStructure(I)Z
def xc_42 : xrC := [(0, .aload_n 0, 1), (1, .invokevirtual 40, 3), (4, .ifCond .eq 21, 3), (7, .aload_n 0, 1), (8, .getfield 257, 3), (11, .aload_n 0, 1), (12, .getfield 259, 3), (15, .bipush 65, 2),
  (17, .isub, 1), (18, .invokevirtual 97, 3), (21, .iconst (-1), 1), (22, .if_icmp .eq 5, 3), (25, .iconst 0, 1), (26, .ireturn, 1), (27, .aload_n 0, 1), (28, .iload_n 1, 1),
  (29, .putfield 260, 3), (32, .aload_n 0, 1), (33, .getfield 257, 3), (36, .getfield 452, 3), (39, .iload_n 1, 1), (40, .aload_n 0, 1), (41, .getfield 259, 3), (44, .bipush 65, 2),
  (46, .isub, 1), (47, .iastore, 1), (48, .aload_n 0, 1), (49, .getfield 257, 3), (52, .getfield 453, 3), (55, .iload_n 1, 1), (56, .iconst 0, 1), (57, .iastore, 1),
  (58, .aload_n 0, 1), (59, .getfield 257, 3), (62, .dup, 1), (63, .getfield 449, 3), (66, .iconst 1, 1), (67, .iadd, 1), (68, .putfield 449, 3), (71, .aload_n 0, 1),
  (72, .invokevirtual 38, 3), (75, .aload_n 0, 1), (76, .bipush 123, 2), (78, .invokevirtual 39, 3), (81, .ireturn, 1)]
def xm_42 : xrM := ((4, 1, ⟨"HexTemplates$Parser", "openStructure", "(I)Z"⟩), (prog_6_method_8_code, 2, (some FieldType.boolean)), [], xc_42)
-- 43: HexTemplates$Parser.closeStructure()Z
def xc_43 : xrC := [(0, .iconst 0, 1), (1, .istore_n 1, 1), (2, .iload_n 1, 1), (3, .aload_n 0, 1), (4, .getfield 257, 3), (7, .getfield 453, 3), (10, .aload_n 0, 1), (11, .getfield 260, 3),
  (14, .iaload, 1), (15, .if_icmp .ge 19, 3), (18, .aload_n 0, 1), (19, .iload_n 1, 1), (20, .invokevirtual 45, 3), (23, .ifCond .ne 5, 3), (26, .iconst 0, 1), (27, .ireturn, 1),
  (28, .iinc 1 1, 3), (31, .goto (-29), 3), (34, .aload_n 0, 1), (35, .getfield 261, 3), (38, .ifCond .ne 16, 3), (41, .aload_n 0, 1), (42, .bipush 125, 2), (44, .invokevirtual 39, 3),
  (47, .ifCond .eq 7, 3), (50, .iconst 1, 1), (51, .goto 4, 3), (54, .iconst 0, 1), (55, .ireturn, 1)]
def xm_43 : xrM := ((4, 0, ⟨"HexTemplates$Parser", "closeStructure", "()Z"⟩), (prog_6_method_9_code, 2, (some FieldType.boolean)), [], xc_43)
-- 44: HexTemplates$Parser.resolveChoices()Z
def xc_44 : xrC := [(0, .iconst 0, 1), (1, .istore_n 1, 1), (2, .iload_n 1, 1), (3, .aload_n 0, 1), (4, .getfield 257, 3), (7, .getfield 451, 3), (10, .if_icmp .ge 49, 3), (13, .aload_n 0, 1),
  (14, .getfield 257, 3), (17, .getfield 456, 3), (20, .iload_n 1, 1), (21, .aload_n 0, 1), (22, .getfield 257, 3), (25, .aload_n 0, 1), (26, .getfield 257, 3), (29, .getfield 456, 3),
  (32, .iload_n 1, 1), (33, .iaload, 1), (34, .invokevirtual 97, 3), (37, .iastore, 1), (38, .aload_n 0, 1), (39, .getfield 257, 3), (42, .getfield 456, 3), (45, .iload_n 1, 1),
  (46, .iaload, 1), (47, .iconst (-1), 1), (48, .if_icmp .ne 5, 3), (51, .iconst 0, 1), (52, .ireturn, 1), (53, .iinc 1 1, 3), (56, .goto (-54), 3), (59, .iconst 1, 1),
  (60, .ireturn, 1)]
def xm_44 : xrM := ((4, 0, ⟨"HexTemplates$Parser", "resolveChoices", "()Z"⟩), (prog_6_method_10_code, 2, (some FieldType.boolean)), [], xc_44)
-- 45: HexTemplates$Parser.resolveRelation(I)Z
def xc_45 : xrC := [(0, .aload_n 0, 1), (1, .getfield 260, 3), (4, .bipush 8, 2), (6, .imul, 1), (7, .iload_n 1, 1), (8, .iadd, 1), (9, .istore_n 2, 1), (10, .aload_n 0, 1),
  (11, .getfield 257, 3), (14, .getfield 467, 3), (17, .iload_n 2, 1), (18, .iaload, 1), (19, .istore_n 3, 1), (20, .iload_n 3, 1), (21, .ifCond .eq 9, 3), (24, .iload_n 3, 1),
  (25, .bipush 61, 2), (27, .if_icmp .ne 5, 3), (30, .iconst 1, 1), (31, .ireturn, 1), (32, .aload_n 0, 1), (33, .getfield 257, 3), (36, .aload_n 0, 1), (37, .getfield 260, 3),
  (40, .aload_n 0, 1), (41, .getfield 257, 3), (44, .getfield 468, 3), (47, .iload_n 2, 1), (48, .iaload, 1), (49, .invokevirtual 98, 3), (52, .istore 4, 2), (54, .iload 4, 2),
  (56, .iconst (-1), 1), (57, .if_icmp .eq 9, 3), (60, .iload 4, 2), (62, .iload_n 1, 1), (63, .if_icmp .ne 5, 3), (66, .iconst 0, 1), (67, .ireturn, 1), (68, .aload_n 0, 1),
  (69, .getfield 257, 3), (72, .getfield 468, 3), (75, .iload_n 2, 1), (76, .aload_n 0, 1), (77, .getfield 260, 3), (80, .bipush 8, 2), (82, .imul, 1), (83, .iload 4, 2),
  (85, .iadd, 1), (86, .iastore, 1), (87, .iload_n 3, 1), (88, .bipush 37, 2), (90, .if_icmp .ne 26, 3), (93, .aload_n 0, 1), (94, .getfield 257, 3), (97, .getfield 458, 3),
  (100, .aload_n 0, 1), (101, .getfield 260, 3), (104, .bipush 8, 2), (106, .imul, 1), (107, .iload 4, 2), (109, .iadd, 1), (110, .iaload, 1), (111, .bipush 91, 2),
  (113, .if_icmp .ne 7, 3), (116, .iconst 1, 1), (117, .goto 4, 3), (120, .iconst 0, 1), (121, .ireturn, 1)]
def xm_45 : xrM := ((4, 1, ⟨"HexTemplates$Parser", "resolveRelation", "(I)Z"⟩), (prog_6_method_11_code, 5, (some FieldType.boolean)), [], xc_45)
-- 46: HexTemplates$Parser.parseField(I)Z
def xc_46 : xrC := [(0, .aload_n 0, 1), (1, .getfield 259, 3), (4, .bipush 97, 2), (6, .isub, 1), (7, .istore_n 2, 1), (8, .iload_n 2, 1), (9, .ifCond .lt 25, 3), (12, .iload_n 2, 1),
  (13, .bipush 26, 2), (15, .if_icmp .ge 19, 3), (18, .aload_n 0, 1), (19, .getfield 257, 3), (22, .aload_n 0, 1), (23, .getfield 260, 3), (26, .iload_n 2, 1), (27, .invokevirtual 98, 3),
  (30, .iconst (-1), 1), (31, .if_icmp .eq 5, 3), (34, .iconst 0, 1), (35, .ireturn, 1), (36, .aload_n 0, 1), (37, .invokevirtual 38, 3), (40, .aload_n 0, 1), (41, .bipush 58, 2),
  (43, .invokevirtual 39, 3), (46, .ifCond .eq 11, 3), (49, .aload_n 0, 1), (50, .iload_n 1, 1), (51, .invokevirtual 47, 3), (54, .ifCond .ne 5, 3), (57, .iconst 0, 1), (58, .ireturn, 1),
  (59, .aload_n 0, 1), (60, .getfield 257, 3), (63, .getfield 457, 3), (66, .iload_n 1, 1), (67, .iload_n 2, 1), (68, .iastore, 1), (69, .aload_n 0, 1), (70, .getfield 257, 3),
  (73, .getfield 467, 3), (76, .iload_n 1, 1), (77, .iconst 0, 1), (78, .iastore, 1), (79, .aload_n 0, 1), (80, .getfield 259, 3), (83, .bipush 61, 2), (85, .if_icmp .ne 13, 3),
  (88, .aload_n 0, 1), (89, .iload_n 1, 1), (90, .invokevirtual 54, 3), (93, .ifCond .ne 5, 3), (96, .iconst 0, 1), (97, .ireturn, 1), (98, .aload_n 0, 1), (99, .getfield 257, 3),
  (102, .getfield 453, 3), (105, .aload_n 0, 1), (106, .getfield 260, 3), (109, .dup2, 1), (110, .iaload, 1), (111, .iconst 1, 1), (112, .iadd, 1), (113, .iastore, 1),
  (114, .aload_n 0, 1), (115, .bipush 59, 2), (117, .invokevirtual 39, 3), (120, .ireturn, 1)]
def xm_46 : xrM := ((4, 1, ⟨"HexTemplates$Parser", "parseField", "(I)Z"⟩), (prog_6_method_12_code, 3, (some FieldType.boolean)), [], xc_46)
-- 47: HexTemplates$Parser.parseType(I)Z
def xc_47 : xrC := [(0, .aload_n 0, 1), (1, .getfield 259, 3), (4, .istore_n 2, 1), (5, .iload_n 2, 1), (6, .bipush 110, 2), (8, .if_icmp .eq 12, 3), (11, .aload_n 0, 1), (12, .getfield 261, 3),
  (15, .ifCond .eq 5, 3), (18, .iconst 0, 1), (19, .ireturn, 1), (20, .aload_n 0, 1), (21, .invokevirtual 40, 3), (24, .ifCond .eq 45, 3), (27, .aload_n 0, 1), (28, .getfield 257, 3),
  (31, .getfield 458, 3), (34, .iload_n 1, 1), (35, .bipush 65, 2), (37, .iastore, 1), (38, .aload_n 0, 1), (39, .iload_n 1, 1), (40, .invokevirtual 50, 3), (43, .ifCond .eq 24, 3),
  (46, .aload_n 0, 1), (47, .getfield 259, 3), (50, .bipush 91, 2), (52, .if_icmp .ne 11, 3), (55, .aload_n 0, 1), (56, .iload_n 1, 1), (57, .invokevirtual 51, 3), (60, .ifCond .eq 7, 3),
  (63, .iconst 1, 1), (64, .goto 4, 3), (67, .iconst 0, 1), (68, .ireturn, 1), (69, .aload_n 0, 1), (70, .getfield 257, 3), (73, .getfield 458, 3), (76, .iload_n 1, 1),
  (77, .iload_n 2, 1), (78, .iastore, 1), (79, .aload_n 0, 1), (80, .getfield 257, 3), (83, .getfield 459, 3), (86, .iload_n 1, 1), (87, .iload_n 2, 1), (88, .bipush 119, 2),
  (90, .if_icmp .eq 9, 3), (93, .iload_n 2, 1), (94, .bipush 87, 2), (96, .if_icmp .ne 8, 3), (99, .bipush 16, 2), (101, .goto 5, 3), (104, .bipush 8, 2), (106, .iastore, 1),
  (107, .aload_n 0, 1), (108, .invokevirtual 38, 3), (111, .iload_n 2, 1), (112, .lookupswitch 147 #[(87, 68), (98, 68), (110, 109), (114, 70), (115, 115), (119, 68), (122, 68)], 68), (180, .iconst 1, 1), (181, .ireturn, 1), (182, .aload_n 0, 1), (183, .getfield 257, 3),
  (186, .getfield 463, 3), (189, .iload_n 1, 1), (190, .aload_n 0, 1), (191, .getfield 257, 3), (194, .getfield 451, 3), (197, .iastore, 1), (198, .aload_n 0, 1), (199, .getfield 257, 3),
  (202, .getfield 464, 3), (205, .iload_n 1, 1), (206, .aload_n 0, 1), (207, .getfield 257, 3), (210, .getfield 451, 3), (213, .iconst 1, 1), (214, .iadd, 1), (215, .iastore, 1),
  (216, .aload_n 0, 1), (217, .invokevirtual 48, 3), (220, .ireturn, 1), (221, .aload_n 0, 1), (222, .iload_n 1, 1), (223, .invokevirtual 49, 3), (226, .ireturn, 1), (227, .aload_n 0, 1),
  (228, .bipush 40, 2), (230, .invokevirtual 39, 3), (233, .ifCond .eq 24, 3), (236, .aload_n 0, 1), (237, .iload_n 1, 1), (238, .invokevirtual 52, 3), (241, .ifCond .eq 16, 3), (244, .aload_n 0, 1),
  (245, .bipush 41, 2), (247, .invokevirtual 39, 3), (250, .ifCond .eq 7, 3), (253, .iconst 1, 1), (254, .goto 4, 3), (257, .iconst 0, 1), (258, .ireturn, 1), (259, .iconst 0, 1),
  (260, .ireturn, 1)]
def xm_47 : xrM := ((4, 1, ⟨"HexTemplates$Parser", "parseType", "(I)Z"⟩), (prog_6_method_13_code, 3, (some FieldType.boolean)), [], xc_47)
-- 48: HexTemplates$Parser.parseChoice()Z
def xc_48 : xrC := [(0, .aload_n 0, 1), (1, .invokevirtual 40, 3), (4, .ifCond .eq 20, 3), (7, .aload_n 0, 1), (8, .getfield 257, 3), (11, .aload_n 0, 1), (12, .getfield 259, 3), (15, .bipush 65, 2),
  (17, .isub, 1), (18, .invokevirtual 103, 3), (21, .ifCond .ne 5, 3), (24, .iconst 0, 1), (25, .ireturn, 1), (26, .aload_n 0, 1), (27, .invokevirtual 38, 3), (30, .iconst 1, 1),
  (31, .ireturn, 1)]
def xm_48 : xrM := ((4, 0, ⟨"HexTemplates$Parser", "parseChoice", "()Z"⟩), (prog_6_method_14_code, 1, (some FieldType.boolean)), [], xc_48)
-- 49: HexTemplates$Parser.parseBits(I)Z
def xc_49 : xrC := [(0, .aload_n 0, 1), (1, .getfield 259, 3), (4, .bipush 48, 2), (6, .isub, 1), (7, .istore_n 2, 1), (8, .iload_n 2, 1), (9, .iconst 1, 1), (10, .if_icmp .lt 14, 3),
  (13, .iload_n 2, 1), (14, .bipush 8, 2), (16, .aload_n 0, 1), (17, .getfield 261, 3), (20, .isub, 1), (21, .if_icmp .le 5, 3), (24, .iconst 0, 1), (25, .ireturn, 1),
  (26, .aload_n 0, 1), (27, .dup, 1), (28, .getfield 261, 3), (31, .iload_n 2, 1), (32, .iadd, 1), (33, .putfield 261, 3), (36, .aload_n 0, 1), (37, .getfield 257, 3),
  (40, .getfield 459, 3), (43, .iload_n 1, 1), (44, .iload_n 2, 1), (45, .iastore, 1), (46, .aload_n 0, 1), (47, .getfield 257, 3), (50, .getfield 460, 3), (53, .iload_n 1, 1),
  (54, .bipush 8, 2), (56, .aload_n 0, 1), (57, .getfield 261, 3), (60, .isub, 1), (61, .iastore, 1), (62, .aload_n 0, 1), (63, .aload_n 0, 1), (64, .getfield 261, 3),
  (67, .bipush 8, 2), (69, .if_icmp .ne 7, 3), (72, .iconst 0, 1), (73, .goto 7, 3), (76, .aload_n 0, 1), (77, .getfield 261, 3), (80, .putfield 261, 3), (83, .aload_n 0, 1),
  (84, .invokevirtual 38, 3), (87, .iconst 1, 1), (88, .ireturn, 1)]
def xm_49 : xrM := ((4, 1, ⟨"HexTemplates$Parser", "parseBits", "(I)Z"⟩), (prog_6_method_15_code, 3, (some FieldType.boolean)), [], xc_49)
-- 50: HexTemplates$Parser.parseNames(I)Z
def xc_50 : xrC := [(0, .aload_n 0, 1), (1, .getfield 257, 3), (4, .getfield 463, 3), (7, .iload_n 1, 1), (8, .aload_n 0, 1), (9, .getfield 257, 3), (12, .getfield 451, 3), (15, .iastore, 1),
  (16, .aload_n 0, 1), (17, .invokevirtual 48, 3), (20, .ifCond .ne 5, 3), (23, .iconst 0, 1), (24, .ireturn, 1), (25, .iconst 0, 1), (26, .istore_n 2, 1), (27, .iload_n 2, 1),
  (28, .bipush 100, 2), (30, .if_icmp .ge 31, 3), (33, .aload_n 0, 1), (34, .getfield 259, 3), (37, .bipush 124, 2), (39, .if_icmp .ne 22, 3), (42, .aload_n 0, 1), (43, .invokevirtual 38, 3),
  (46, .aload_n 0, 1), (47, .invokevirtual 48, 3), (50, .ifCond .ne 5, 3), (53, .iconst 0, 1), (54, .ireturn, 1), (55, .iinc 2 1, 3), (58, .goto (-31), 3), (61, .aload_n 0, 1),
  (62, .getfield 257, 3), (65, .getfield 464, 3), (68, .iload_n 1, 1), (69, .aload_n 0, 1), (70, .getfield 257, 3), (73, .getfield 451, 3), (76, .iastore, 1), (77, .iconst 1, 1),
  (78, .ireturn, 1)]
def xm_50 : xrM := ((4, 1, ⟨"HexTemplates$Parser", "parseNames", "(I)Z"⟩), (prog_6_method_16_code, 3, (some FieldType.boolean)), [], xc_50)
-- 51: HexTemplates$Parser.parseCount(I)Z
def xc_51 : xrC := [(0, .aload_n 0, 1), (1, .getfield 257, 3), (4, .getfield 458, 3), (7, .iload_n 1, 1), (8, .bipush 91, 2), (10, .iastore, 1), (11, .aload_n 0, 1), (12, .getfield 257, 3),
  (15, .getfield 465, 3), (18, .iload_n 1, 1), (19, .bipush 43, 2), (21, .iastore, 1), (22, .aload_n 0, 1), (23, .invokevirtual 38, 3), (26, .aload_n 0, 1), (27, .getfield 259, 3),
  (30, .bipush 42, 2), (32, .if_icmp .eq 21, 3), (35, .aload_n 0, 1), (36, .getfield 259, 3), (39, .bipush 33, 2), (41, .if_icmp .eq 12, 3), (44, .aload_n 0, 1), (45, .getfield 259, 3),
  (48, .bipush 63, 2), (50, .if_icmp .ne 20, 3), (53, .aload_n 0, 1), (54, .getfield 257, 3), (57, .getfield 465, 3), (60, .iload_n 1, 1), (61, .aload_n 0, 1), (62, .getfield 259, 3),
  (65, .iastore, 1), (66, .aload_n 0, 1), (67, .invokevirtual 38, 3), (70, .aload_n 0, 1), (71, .getfield 257, 3), (74, .getfield 465, 3), (77, .iload_n 1, 1), (78, .iaload, 1),
  (79, .bipush 42, 2), (81, .if_icmp .ne 10, 3), (84, .aload_n 0, 1), (85, .bipush 93, 2), (87, .invokevirtual 39, 3), (90, .ireturn, 1), (91, .aload_n 0, 1), (92, .getfield 257, 3),
  (95, .getfield 465, 3), (98, .iload_n 1, 1), (99, .iaload, 1), (100, .bipush 33, 2), (102, .if_icmp .ne 44, 3), (105, .aload_n 0, 1), (106, .getfield 257, 3), (109, .getfield 466, 3),
  (112, .iload_n 1, 1), (113, .aload_n 0, 1), (114, .invokevirtual 53, 3), (117, .iastore, 1), (118, .aload_n 0, 1), (119, .getfield 257, 3), (122, .getfield 466, 3), (125, .iload_n 1, 1),
  (126, .iaload, 1), (127, .iconst (-1), 1), (128, .if_icmp .eq 16, 3), (131, .aload_n 0, 1), (132, .bipush 93, 2), (134, .invokevirtual 39, 3), (137, .ifCond .eq 7, 3), (140, .iconst 1, 1),
  (141, .goto 4, 3), (144, .iconst 0, 1), (145, .ireturn, 1), (146, .aload_n 0, 1), (147, .iload_n 1, 1), (148, .invokevirtual 52, 3), (151, .ifCond .eq 16, 3), (154, .aload_n 0, 1),
  (155, .bipush 93, 2), (157, .invokevirtual 39, 3), (160, .ifCond .eq 7, 3), (163, .iconst 1, 1), (164, .goto 4, 3), (167, .iconst 0, 1), (168, .ireturn, 1)]
def xm_51 : xrM := ((4, 1, ⟨"HexTemplates$Parser", "parseCount", "(I)Z"⟩), (prog_6_method_17_code, 2, (some FieldType.boolean)), [], xc_51)
-- 52: HexTemplates$Parser.parseSum(I)Z
def xc_52 : xrC := [(0, .aload_n 0, 1), (1, .getfield 257, 3), (4, .getfield 461, 3), (7, .iload_n 1, 1), (8, .aload_n 0, 1), (9, .getfield 257, 3), (12, .getfield 450, 3), (15, .iastore, 1),
  (16, .bipush 43, 2), (18, .istore_n 2, 1), (19, .iconst 0, 1), (20, .istore_n 3, 1), (21, .iload_n 3, 1), (22, .bipush 100, 2), (24, .if_icmp .ge 170, 3), (27, .aload_n 0, 1),
  (28, .invokevirtual 41, 3), (31, .ifCond .eq 7, 3), (34, .iconst (-1), 1), (35, .goto 21, 3), (38, .aload_n 0, 1), (39, .getfield 257, 3), (42, .aload_n 0, 1), (43, .getfield 260, 3),
  (46, .aload_n 0, 1), (47, .getfield 259, 3), (50, .bipush 97, 2), (52, .isub, 1), (53, .invokevirtual 98, 3), (56, .istore 4, 2), (58, .aload_n 0, 1), (59, .invokevirtual 41, 3),
  (62, .ifCond .ne 31, 3), (65, .iload 4, 2), (67, .iconst (-1), 1), (68, .if_icmp .eq 23, 3), (71, .aload_n 0, 1), (72, .getfield 257, 3), (75, .aload_n 0, 1), (76, .getfield 260, 3),
  (79, .bipush 8, 2), (81, .imul, 1), (82, .iload 4, 2), (84, .iadd, 1), (85, .invokevirtual 99, 3), (88, .ifCond .ne 5, 3), (91, .iconst 0, 1), (92, .ireturn, 1),
  (93, .iconst (-1), 1), (94, .iload 4, 2), (96, .isub, 1), (97, .istore 5, 2), (99, .aload_n 0, 1), (100, .invokevirtual 41, 3), (103, .ifCond .eq 12, 3), (106, .aload_n 0, 1),
  (107, .invokevirtual 53, 3), (110, .istore 5, 2), (112, .goto 7, 3), (115, .aload_n 0, 1), (116, .invokevirtual 38, 3), (119, .aload_n 0, 1), (120, .getfield 257, 3), (123, .iload_n 2, 1),
  (124, .iload 5, 2), (126, .invokevirtual 102, 3), (129, .ifCond .ne 5, 3), (132, .iconst 0, 1), (133, .ireturn, 1), (134, .aload_n 0, 1), (135, .getfield 257, 3), (138, .getfield 462, 3),
  (141, .iload_n 1, 1), (142, .aload_n 0, 1), (143, .getfield 257, 3), (146, .getfield 450, 3), (149, .iastore, 1), (150, .aload_n 0, 1), (151, .getfield 259, 3), (154, .bipush 43, 2),
  (156, .if_icmp .eq 23, 3), (159, .aload_n 0, 1), (160, .getfield 259, 3), (163, .bipush 45, 2), (165, .if_icmp .eq 14, 3), (168, .aload_n 0, 1), (169, .getfield 259, 3), (172, .bipush 42, 2),
  (174, .if_icmp .eq 5, 3), (177, .iconst 1, 1), (178, .ireturn, 1), (179, .aload_n 0, 1), (180, .getfield 259, 3), (183, .istore_n 2, 1), (184, .aload_n 0, 1), (185, .invokevirtual 38, 3),
  (188, .iinc 3 1, 3), (191, .goto (-170), 3), (194, .iconst 0, 1), (195, .ireturn, 1)]
def xm_52 : xrM := ((4, 1, ⟨"HexTemplates$Parser", "parseSum", "(I)Z"⟩), (prog_6_method_18_code, 6, (some FieldType.boolean)), [], xc_52)
-- 53: HexTemplates$Parser.parseInt()I
def xc_53 : xrC := [(0, .iconst (-1), 1), (1, .istore_n 1, 1), (2, .iconst 0, 1), (3, .istore_n 2, 1), (4, .iload_n 2, 1), (5, .iconst 3, 1), (6, .if_icmp .ge 37, 3), (9, .aload_n 0, 1),
  (10, .invokevirtual 41, 3), (13, .ifCond .eq 30, 3), (16, .iload_n 1, 1), (17, .iconst 0, 1), (18, .invokestatic 22, 3), (21, .bipush 10, 2), (23, .imul, 1), (24, .aload_n 0, 1),
  (25, .getfield 259, 3), (28, .iadd, 1), (29, .bipush 48, 2), (31, .isub, 1), (32, .istore_n 1, 1), (33, .aload_n 0, 1), (34, .invokevirtual 38, 3), (37, .iinc 2 1, 3),
  (40, .goto (-36), 3), (43, .iload_n 1, 1), (44, .ireturn, 1)]
def xm_53 : xrM := ((4, 0, ⟨"HexTemplates$Parser", "parseInt", "()I"⟩), (prog_6_method_19_code, 3, (some FieldType.int)), [], xc_53)
-- 54: HexTemplates$Parser.parseRelation(I)Z
def xc_54 : xrC := [(0, .aload_n 0, 1), (1, .getfield 257, 3), (4, .iload_n 1, 1), (5, .invokevirtual 101, 3), (8, .ifCond .ne 5, 3), (11, .iconst 0, 1), (12, .ireturn, 1), (13, .aload_n 0, 1),
  (14, .invokevirtual 38, 3), (17, .aload_n 0, 1), (18, .invokevirtual 41, 3), (21, .ifCond .eq 29, 3), (24, .aload_n 0, 1), (25, .getfield 257, 3), (28, .getfield 467, 3), (31, .iload_n 1, 1),
  (32, .bipush 61, 2), (34, .iastore, 1), (35, .aload_n 0, 1), (36, .getfield 257, 3), (39, .getfield 468, 3), (42, .iload_n 1, 1), (43, .aload_n 0, 1), (44, .invokevirtual 53, 3),
  (47, .iastore, 1), (48, .iconst 1, 1), (49, .ireturn, 1), (50, .aload_n 0, 1), (51, .getfield 259, 3), (54, .bipush 35, 2), (56, .if_icmp .eq 32, 3), (59, .aload_n 0, 1),
  (60, .getfield 259, 3), (63, .bipush 37, 2), (65, .if_icmp .eq 23, 3), (68, .aload_n 0, 1), (69, .getfield 259, 3), (72, .bipush 43, 2), (74, .if_icmp .eq 14, 3), (77, .aload_n 0, 1),
  (78, .getfield 259, 3), (81, .bipush 94, 2), (83, .if_icmp .eq 5, 3), (86, .iconst 0, 1), (87, .ireturn, 1), (88, .aload_n 0, 1), (89, .getfield 257, 3), (92, .getfield 467, 3),
  (95, .iload_n 1, 1), (96, .aload_n 0, 1), (97, .getfield 259, 3), (100, .iastore, 1), (101, .aload_n 0, 1), (102, .invokevirtual 38, 3), (105, .aload_n 0, 1), (106, .getfield 257, 3),
  (109, .getfield 468, 3), (112, .iload_n 1, 1), (113, .aload_n 0, 1), (114, .getfield 259, 3), (117, .bipush 97, 2), (119, .isub, 1), (120, .iastore, 1), (121, .aload_n 0, 1),
  (122, .invokevirtual 38, 3), (125, .iconst 1, 1), (126, .ireturn, 1)]
def xm_54 : xrM := ((4, 1, ⟨"HexTemplates$Parser", "parseRelation", "(I)Z"⟩), (prog_6_method_20_code, 2, (some FieldType.boolean)), [], xc_54)
-- 55: HexTemplates$Reader.<init>()V
def xc_55 : xrC := [(0, .aload_n 0, 1), (1, .monitorexit, 3), (4, .aload_n 0, 1), (5, .new 3, 3), (8, .dup, 1), (9, .invokespecial 26, 3), (12, .invokedynamic 320, 3), (15, .aload_n 0, 1),
  (16, .aconst_null, 1), (17, .invokedynamic 321, 3), (20, .aload_n 0, 1), (21, .aconst_null, 1), (22, .invokedynamic 322, 3), (25, .aload_n 0, 1), (26, .iconst 0, 1), (27, .putfield 323, 3),
  (30, .aload_n 0, 1), (31, .iconst 0, 1), (32, .putfield 324, 3), (35, .aload_n 0, 1), (36, .iconst 0, 1), (37, .putfield 325, 3), (40, .aload_n 0, 1), (41, .iconst (-1), 1),
  (42, .putfield 326, 3), (45, .aload_n 0, 1), (46, .iconst 0, 1), (47, .putfield 327, 3), (50, .aload_n 0, 1), (51, .bipush 48, 2), (53, .newarray .int, 2), (55, .invokedynamic 328, 3),
  (58, .aload_n 0, 1), (59, .bipush 48, 2), (61, .newarray .int, 2), (63, .invokedynamic 329, 3), (66, .aload_n 0, 1), (67, .bipush 48, 2), (69, .newarray .int, 2), (71, .invokedynamic 330, 3),
  (74, .return_, 1)]
def xm_55 : xrM := ((5, 0, ⟨"HexTemplates$Reader", "<init>", "()V"⟩), (prog_7_method_1_code, 1, (none)), [], xc_55)
-- 56: HexTemplates$Reader.readAt(LHexTemplates$Template;LHexTemplates$Bytes;II)Z
def xc_56 : xrC := [(0, .aload_n 0, 1), (1, .aload_n 1, 1), (2, .invokedynamic 321, 3), (5, .aload_n 0, 1), (6, .aload_n 2, 1), (7, .invokedynamic 322, 3), (10, .aload_n 0, 1), (11, .iload 4, 2),
  (13, .putfield 323, 3), (16, .aload_n 0, 1), (17, .iconst 0, 1), (18, .putfield 324, 3), (21, .aload_n 0, 1), (22, .iconst 0, 1), (23, .putfield 327, 3), (26, .aload_n 0, 1),
  (27, .getfield 320, 3), (30, .iconst 0, 1), (31, .putfield 199, 3), (34, .aload_n 0, 1), (35, .iconst 0, 1), (36, .putfield 325, 3), (39, .aload_n 0, 1), (40, .iconst (-1), 1),
  (41, .putfield 326, 3), (44, .aload_n 1, 1), (45, .ifnull 15, 3), (48, .iload_n 3, 1), (49, .ifCond .lt 11, 3), (52, .iload_n 3, 1), (53, .aload_n 1, 1), (54, .getfield 449, 3),
  (57, .if_icmp .lt 5, 3), (60, .iconst 0, 1), (61, .ireturn, 1), (62, .aload_n 0, 1), (63, .iload_n 3, 1), (64, .iconst (-1), 1), (65, .iconst (-1), 1), (66, .iconst 0, 1),
  (67, .invokevirtual 59, 3), (70, .istore 5, 2), (72, .iload 5, 2), (74, .ifCond .eq 13, 3), (77, .aload_n 0, 1), (78, .iconst 0, 1), (79, .putfield 325, 3), (82, .aload_n 0, 1),
  (83, .iconst (-1), 1), (84, .putfield 326, 3), (87, .iload 5, 2), (89, .ireturn, 1)]
def xm_56 : xrM := ((5, 4, ⟨"HexTemplates$Reader", "readAt", "(LHexTemplates$Template;LHexTemplates$Bytes;II)Z"⟩), (prog_7_method_2_code, 6, (some FieldType.boolean)), [], xc_56)
-- 57: HexTemplates$Reader.fail(II)Z
def xc_57 : xrC := [(0, .aload_n 0, 1), (1, .iload_n 1, 1), (2, .putfield 325, 3), (5, .aload_n 0, 1), (6, .iload_n 2, 1), (7, .putfield 326, 3), (10, .iconst 0, 1), (11, .ireturn, 1)]
def xm_57 : xrM := ((5, 2, ⟨"HexTemplates$Reader", "fail", "(II)Z"⟩), (prog_7_method_3_code, 3, (some FieldType.boolean)), [], xc_57)
-- 58: HexTemplates$Reader.make(III)I
def xc_58 : xrC := [(0, .aload_n 0, 1), (1, .getfield 324, 3), (4, .sipush 200, 3), (7, .if_icmp .lt 18, 3), (10, .aload_n 0, 1), (11, .iconst 5, 1), (12, .putfield 325, 3), (15, .aload_n 0, 1),
  (16, .aload_n 0, 1), (17, .getfield 323, 3), (20, .putfield 326, 3), (23, .iconst (-1), 1), (24, .ireturn, 1), (25, .aload_n 0, 1), (26, .dup, 1), (27, .getfield 324, 3),
  (30, .iconst 1, 1), (31, .iadd, 1), (32, .putfield 324, 3), (35, .aload_n 0, 1), (36, .getfield 320, 3), (39, .iload_n 1, 1), (40, .iload_n 2, 1), (41, .aload_n 0, 1),
  (42, .getfield 323, 3), (45, .iload_n 3, 1), (46, .invokevirtual 28, 3), (49, .ireturn, 1)]
def xm_58 : xrM := ((5, 3, ⟨"HexTemplates$Reader", "make", "(III)I"⟩), (prog_7_method_4_code, 4, (some FieldType.int)), [], xc_58)
-- 59: HexTemplates$Reader.readStructure(IIII)Z
def xc_59 : xrC := [(0, .iload 4, 2), (2, .iconst 5, 1), (3, .if_icmp .le 13, 3), (6, .aload_n 0, 1), (7, .iconst 4, 1), (8, .aload_n 0, 1), (9, .getfield 323, 3), (12, .invokevirtual 57, 3),
  (15, .ireturn, 1), (16, .aload_n 0, 1), (17, .getfield 323, 3), (20, .istore 5, 2), (22, .aload_n 0, 1), (23, .iconst 0, 1), (24, .iload_n 2, 1), (25, .iload_n 3, 1),
  (26, .invokevirtual 58, 3), (29, .istore 6, 2), (31, .iload 6, 2), (33, .iconst (-1), 1), (34, .if_icmp .ne 5, 3), (37, .iconst 0, 1), (38, .ireturn, 1), (39, .iconst 0, 1),
  (40, .istore 7, 2), (42, .iload 7, 2), (44, .aload_n 0, 1), (45, .getfield 321, 3), (48, .getfield 453, 3), (51, .iload_n 1, 1), (52, .iaload, 1), (53, .if_icmp .ge 29, 3),
  (56, .aload_n 0, 1), (57, .iload_n 1, 1), (58, .bipush 8, 2), (60, .imul, 1), (61, .iload 7, 2), (63, .iadd, 1), (64, .iload 6, 2), (66, .iload 4, 2),
  (68, .invokevirtual 60, 3), (71, .ifCond .ne 5, 3), (74, .iconst 0, 1), (75, .ireturn, 1), (76, .iinc 7 1, 3), (79, .goto (-37), 3), (82, .aload_n 0, 1), (83, .iload_n 1, 1),
  (84, .iload 4, 2), (86, .invokevirtual 73, 3), (89, .aload_n 0, 1), (90, .getfield 321, 3), (93, .getfield 452, 3), (96, .iload_n 1, 1), (97, .iaload, 1), (98, .istore 7, 2),
  (100, .aload_n 0, 1), (101, .getfield 320, 3), (104, .iload 6, 2), (106, .iload_n 2, 1), (107, .iconst (-1), 1), (108, .if_icmp .ne 8, 3), (111, .iload 7, 2), (113, .goto 12, 3),
  (116, .aload_n 0, 1), (117, .getfield 321, 3), (120, .getfield 457, 3), (123, .iload_n 2, 1), (124, .iaload, 1), (125, .aload_n 0, 1), (126, .getfield 323, 3), (129, .iload 5, 2),
  (131, .isub, 1), (132, .iload 7, 2), (134, .invokevirtual 29, 3), (137, .iconst 1, 1), (138, .ireturn, 1)]
def xm_59 : xrM := ((5, 4, ⟨"HexTemplates$Reader", "readStructure", "(IIII)Z"⟩), (prog_7_method_5_code, 8, (some FieldType.boolean)), [], xc_59)
-- 60: HexTemplates$Reader.readField(III)Z
def xc_60 : xrC := [(0, .iload_n 3, 1), (1, .bipush 8, 2), (3, .imul, 1), (4, .iload_n 1, 1), (5, .bipush 8, 2), (7, .irem, 1), (8, .iadd, 1), (9, .istore 4, 2),
  (11, .aload_n 0, 1), (12, .getfield 328, 3), (15, .iload 4, 2), (17, .aload_n 0, 1), (18, .getfield 323, 3), (21, .iastore, 1), (22, .aload_n 0, 1), (23, .getfield 321, 3),
  (26, .getfield 458, 3), (29, .iload_n 1, 1), (30, .iaload, 1), (31, .lookupswitch 52 #[(65, 25), (91, 40)], 25), (56, .aload_n 0, 1), (57, .iload_n 1, 1), (58, .iload_n 1, 1), (59, .iload_n 2, 1),
  (60, .iload_n 3, 1), (61, .iconst 1, 1), (62, .iadd, 1), (63, .invokevirtual 66, 3), (66, .istore 5, 2), (68, .goto 24, 3), (71, .aload_n 0, 1), (72, .iload_n 1, 1),
  (73, .iload_n 2, 1), (74, .iload_n 3, 1), (75, .invokevirtual 68, 3), (78, .istore 5, 2), (80, .goto 12, 3), (83, .aload_n 0, 1), (84, .iload_n 1, 1), (85, .iload_n 2, 1),
  (86, .iload 4, 2), (88, .invokevirtual 61, 3), (91, .ireturn, 1), (92, .aload_n 0, 1), (93, .getfield 329, 3), (96, .iload 4, 2), (98, .aload_n 0, 1), (99, .getfield 323, 3),
  (102, .aload_n 0, 1), (103, .getfield 328, 3), (106, .iload 4, 2), (108, .iaload, 1), (109, .isub, 1), (110, .iastore, 1), (111, .iload 5, 2), (113, .ireturn, 1)]
def xm_60 : xrM := ((5, 3, ⟨"HexTemplates$Reader", "readField", "(III)Z"⟩), (prog_7_method_6_code, 6, (some FieldType.boolean)), [], xc_60)
-- 61: HexTemplates$Reader.readPlain(III)Z
def xc_61 : xrC := [(0, .aload_n 0, 1), (1, .getfield 321, 3), (4, .iload_n 1, 1), (5, .invokevirtual 100, 3), (8, .istore 4, 2), (10, .aload_n 0, 1), (11, .iload 4, 2), (13, .iload_n 1, 1),
  (14, .iload_n 2, 1), (15, .invokevirtual 58, 3), (18, .istore 5, 2), (20, .iload 5, 2), (22, .iconst (-1), 1), (23, .if_icmp .ne 5, 3), (26, .iconst 0, 1), (27, .ireturn, 1),
  (28, .aload_n 0, 1), (29, .getfield 321, 3), (32, .getfield 458, 3), (35, .iload_n 1, 1), (36, .iaload, 1), (37, .lookupswitch 67 #[(110, 56), (115, 35), (122, 46)], 35), (72, .aload_n 0, 1), (73, .iload_n 1, 1),
  (74, .iload_n 3, 1), (75, .invokevirtual 64, 3), (78, .istore 6, 2), (80, .goto 32, 3), (83, .aload_n 0, 1), (84, .iload_n 3, 1), (85, .invokevirtual 65, 3), (88, .istore 6, 2),
  (90, .goto 22, 3), (93, .aload_n 0, 1), (94, .iload_n 1, 1), (95, .iload_n 3, 1), (96, .invokevirtual 63, 3), (99, .istore 6, 2), (101, .goto 11, 3), (104, .aload_n 0, 1),
  (105, .iload_n 1, 1), (106, .iload_n 3, 1), (107, .invokevirtual 62, 3), (110, .istore 6, 2), (112, .iload 6, 2), (114, .ifCond .ne 5, 3), (117, .iconst 0, 1), (118, .ireturn, 1),
  (119, .aload_n 0, 1), (120, .getfield 320, 3), (123, .iload 5, 2), (125, .aload_n 0, 1), (126, .getfield 321, 3), (129, .getfield 457, 3), (132, .iload_n 1, 1), (133, .iaload, 1),
  (134, .aload_n 0, 1), (135, .getfield 329, 3), (138, .iload_n 3, 1), (139, .iaload, 1), (140, .aload_n 0, 1), (141, .getfield 330, 3), (144, .iload_n 3, 1), (145, .iaload, 1),
  (146, .invokevirtual 29, 3), (149, .aload_n 0, 1), (150, .dup, 1), (151, .getfield 323, 3), (154, .iload 4, 2), (156, .iconst 4, 1), (157, .if_icmp .ne 19, 3), (160, .aload_n 0, 1),
  (161, .getfield 321, 3), (164, .getfield 460, 3), (167, .iload_n 1, 1), (168, .iaload, 1), (169, .ifCond .eq 7, 3), (172, .iconst 0, 1), (173, .goto 9, 3), (176, .aload_n 0, 1),
  (177, .getfield 329, 3), (180, .iload_n 3, 1), (181, .iaload, 1), (182, .iadd, 1), (183, .putfield 323, 3), (186, .iconst 1, 1), (187, .ireturn, 1)]
def xm_61 : xrM := ((5, 3, ⟨"HexTemplates$Reader", "readPlain", "(III)Z"⟩), (prog_7_method_7_code, 7, (some FieldType.boolean)), [], xc_61)
-- 62: HexTemplates$Reader.measureNumber(II)Z
def xc_62 : xrC := [(0, .aload_n 0, 1), (1, .getfield 321, 3), (4, .getfield 459, 3), (7, .iload_n 1, 1), (8, .iaload, 1), (9, .bipush 8, 2), (11, .idiv, 1), (12, .istore_n 3, 1),
  (13, .aload_n 0, 1), (14, .getfield 323, 3), (17, .iload_n 3, 1), (18, .iadd, 1), (19, .aload_n 0, 1), (20, .getfield 322, 3), (23, .getfield 1, 3), (26, .if_icmp .le 13, 3),
  (29, .aload_n 0, 1), (30, .iconst 1, 1), (31, .aload_n 0, 1), (32, .getfield 323, 3), (35, .invokevirtual 57, 3), (38, .ireturn, 1), (39, .aload_n 0, 1), (40, .getfield 322, 3),
  (43, .aload_n 0, 1), (44, .getfield 323, 3), (47, .invokevirtual 2, 3), (50, .istore 4, 2), (52, .iload_n 3, 1), (53, .iconst 2, 1), (54, .if_icmp .ne 53, 3), (57, .aload_n 0, 1),
  (58, .getfield 322, 3), (61, .aload_n 0, 1), (62, .getfield 323, 3), (65, .iconst 1, 1), (66, .iadd, 1), (67, .invokevirtual 2, 3), (70, .istore 5, 2), (72, .aload_n 0, 1),
  (73, .getfield 321, 3), (76, .getfield 458, 3), (79, .iload_n 1, 1), (80, .iaload, 1), (81, .bipush 87, 2), (83, .if_icmp .ne 14, 3), (86, .iload 4, 2), (88, .bipush 8, 2),
  (90, .ishl, 1), (91, .iload 5, 2), (93, .ior, 1), (94, .goto 11, 3), (97, .iload 5, 2), (99, .bipush 8, 2), (101, .ishl, 1), (102, .iload 4, 2),
  (104, .ior, 1), (105, .istore 4, 2), (107, .aload_n 0, 1), (108, .getfield 321, 3), (111, .getfield 467, 3), (114, .iload_n 1, 1), (115, .iaload, 1), (116, .bipush 61, 2),
  (118, .if_icmp .ne 27, 3), (121, .iload 4, 2), (123, .aload_n 0, 1), (124, .getfield 321, 3), (127, .getfield 468, 3), (130, .iload_n 1, 1), (131, .iaload, 1), (132, .if_icmp .eq 13, 3),
  (135, .aload_n 0, 1), (136, .iconst 2, 1), (137, .aload_n 0, 1), (138, .getfield 323, 3), (141, .invokevirtual 57, 3), (144, .ireturn, 1), (145, .aload_n 0, 1), (146, .getfield 329, 3),
  (149, .iload_n 2, 1), (150, .iload_n 3, 1), (151, .iastore, 1), (152, .aload_n 0, 1), (153, .getfield 330, 3), (156, .iload_n 2, 1), (157, .iload 4, 2), (159, .iastore, 1),
  (160, .iconst 1, 1), (161, .ireturn, 1)]
def xm_62 : xrM := ((5, 2, ⟨"HexTemplates$Reader", "measureNumber", "(II)Z"⟩), (prog_7_method_8_code, 6, (some FieldType.boolean)), [], xc_62)
-- 63: HexTemplates$Reader.measureBits(II)Z
def xc_63 : xrC := [(0, .aload_n 0, 1), (1, .getfield 323, 3), (4, .aload_n 0, 1), (5, .getfield 322, 3), (8, .getfield 1, 3), (11, .if_icmp .lt 13, 3), (14, .aload_n 0, 1), (15, .iconst 1, 1),
  (16, .aload_n 0, 1), (17, .getfield 323, 3), (20, .invokevirtual 57, 3), (23, .ireturn, 1), (24, .aload_n 0, 1), (25, .getfield 329, 3), (28, .iload_n 2, 1), (29, .iconst 1, 1),
  (30, .iastore, 1), (31, .aload_n 0, 1), (32, .getfield 330, 3), (35, .iload_n 2, 1), (36, .aload_n 0, 1), (37, .aload_n 0, 1), (38, .getfield 322, 3), (41, .aload_n 0, 1),
  (42, .getfield 323, 3), (45, .invokevirtual 2, 3), (48, .aload_n 0, 1), (49, .getfield 321, 3), (52, .getfield 460, 3), (55, .iload_n 1, 1), (56, .iaload, 1), (57, .ishr, 1),
  (58, .aload_n 0, 1), (59, .getfield 321, 3), (62, .getfield 459, 3), (65, .iload_n 1, 1), (66, .iaload, 1), (67, .invokevirtual 75, 3), (70, .iastore, 1), (71, .iconst 1, 1),
  (72, .ireturn, 1)]
def xm_63 : xrM := ((5, 2, ⟨"HexTemplates$Reader", "measureBits", "(II)Z"⟩), (prog_7_method_9_code, 3, (some FieldType.boolean)), [], xc_63)
-- 64: HexTemplates$Reader.measureCounted(II)Z
def xc_64 : xrC := [(0, .aload_n 0, 1), (1, .iload_n 1, 1), (2, .iload_n 2, 1), (3, .iload_n 2, 1), (4, .bipush 8, 2), (6, .irem, 1), (7, .isub, 1), (8, .invokevirtual 72, 3),
  (11, .istore_n 3, 1), (12, .iload_n 3, 1), (13, .ifCond .lt 9, 3), (16, .iload_n 3, 1), (17, .bipush 100, 2), (19, .if_icmp .le 13, 3), (22, .aload_n 0, 1), (23, .iconst 3, 1),
  (24, .aload_n 0, 1), (25, .getfield 323, 3), (28, .invokevirtual 57, 3), (31, .ireturn, 1), (32, .iload_n 3, 1), (33, .ifCond .le 29, 3), (36, .aload_n 0, 1), (37, .getfield 323, 3),
  (40, .iload_n 3, 1), (41, .iadd, 1), (42, .aload_n 0, 1), (43, .getfield 322, 3), (46, .getfield 1, 3), (49, .if_icmp .le 13, 3), (52, .aload_n 0, 1), (53, .iconst 1, 1),
  (54, .aload_n 0, 1), (55, .getfield 323, 3), (58, .invokevirtual 57, 3), (61, .ireturn, 1), (62, .aload_n 0, 1), (63, .getfield 329, 3), (66, .iload_n 2, 1), (67, .iload_n 3, 1),
  (68, .iastore, 1), (69, .aload_n 0, 1), (70, .getfield 330, 3), (73, .iload_n 2, 1), (74, .iload_n 3, 1), (75, .ifCond .ne 7, 3), (78, .iconst (-1), 1), (79, .goto 14, 3),
  (82, .aload_n 0, 1), (83, .getfield 322, 3), (86, .aload_n 0, 1), (87, .getfield 323, 3), (90, .invokevirtual 2, 3), (93, .iastore, 1), (94, .iconst 1, 1), (95, .ireturn, 1)]
def xm_64 : xrM := ((5, 2, ⟨"HexTemplates$Reader", "measureCounted", "(II)Z"⟩), (prog_7_method_10_code, 4, (some FieldType.boolean)), [], xc_64)
-- 65: HexTemplates$Reader.measureEnded(I)Z
def xc_65 : xrC := [(0, .aload_n 0, 1), (1, .getfield 323, 3), (4, .istore_n 2, 1), (5, .iload_n 2, 1), (6, .aload_n 0, 1), (7, .getfield 322, 3), (10, .getfield 1, 3), (13, .if_icmp .ge 53, 3),
  (16, .aload_n 0, 1), (17, .getfield 322, 3), (20, .iload_n 2, 1), (21, .invokevirtual 2, 3), (24, .ifCond .ne 36, 3), (27, .aload_n 0, 1), (28, .getfield 329, 3), (31, .iload_n 1, 1),
  (32, .iload_n 2, 1), (33, .iconst 1, 1), (34, .iadd, 1), (35, .aload_n 0, 1), (36, .getfield 323, 3), (39, .isub, 1), (40, .iastore, 1), (41, .aload_n 0, 1),
  (42, .getfield 330, 3), (45, .iload_n 1, 1), (46, .aload_n 0, 1), (47, .getfield 322, 3), (50, .aload_n 0, 1), (51, .getfield 323, 3), (54, .invokevirtual 2, 3), (57, .iastore, 1),
  (58, .iconst 1, 1), (59, .ireturn, 1), (60, .iinc 2 1, 3), (63, .goto (-58), 3), (66, .aload_n 0, 1), (67, .iconst 1, 1), (68, .aload_n 0, 1), (69, .getfield 323, 3),
  (72, .invokevirtual 57, 3), (75, .ireturn, 1)]
def xm_65 : xrM := ((5, 1, ⟨"HexTemplates$Reader", "measureEnded", "(I)Z"⟩), (prog_7_method_11_code, 3, (some FieldType.boolean)), [], xc_65)
-- 66: HexTemplates$Reader.readNames(IIII)Z
def xc_66 : xrC := [(0, .aload_n 0, 1), (1, .getfield 323, 3), (4, .istore 5, 2), (6, .aload_n 0, 1), (7, .getfield 320, 3), (10, .getfield 199, 3), (13, .istore 6, 2), (15, .aload_n 0, 1),
  (16, .getfield 327, 3), (19, .istore 7, 2), (21, .aload_n 0, 1), (22, .getfield 321, 3), (25, .getfield 463, 3), (28, .iload_n 1, 1), (29, .iaload, 1), (30, .istore 8, 2),
  (32, .iload 8, 2), (34, .aload_n 0, 1), (35, .getfield 321, 3), (38, .getfield 464, 3), (41, .iload_n 1, 1), (42, .iaload, 1), (43, .if_icmp .ge 52, 3), (46, .aload_n 0, 1),
  (47, .iload 5, 2), (49, .iload 6, 2), (51, .iload 7, 2), (53, .invokevirtual 67, 3), (56, .aload_n 0, 1), (57, .aload_n 0, 1), (58, .getfield 321, 3), (61, .getfield 456, 3),
  (64, .iload 8, 2), (66, .iaload, 1), (67, .iload_n 2, 1), (68, .iload_n 3, 1), (69, .iload 4, 2), (71, .invokevirtual 59, 3), (74, .ifCond .eq 5, 3), (77, .iconst 1, 1),
  (78, .ireturn, 1), (79, .aload_n 0, 1), (80, .getfield 325, 3), (83, .iconst 5, 1), (84, .if_icmp .ne 5, 3), (87, .iconst 0, 1), (88, .ireturn, 1), (89, .iinc 8 1, 3),
  (92, .goto (-60), 3), (95, .iconst 0, 1), (96, .ireturn, 1)]
def xm_66 : xrM := ((5, 4, ⟨"HexTemplates$Reader", "readNames", "(IIII)Z"⟩), (prog_7_method_12_code, 9, (some FieldType.boolean)), [], xc_66)
-- 67: HexTemplates$Reader.goBack(III)V
def xc_67 : xrC := [(0, .aload_n 0, 1), (1, .iload_n 1, 1), (2, .putfield 323, 3), (5, .aload_n 0, 1), (6, .getfield 320, 3), (9, .iload_n 2, 1), (10, .putfield 199, 3), (13, .aload_n 0, 1),
  (14, .iload_n 3, 1), (15, .putfield 327, 3), (18, .return_, 1)]
def xm_67 : xrM := ((5, 3, ⟨"HexTemplates$Reader", "goBack", "(III)V"⟩), (prog_7_method_13_code, 4, (none)), [], xc_67)
-- 68: HexTemplates$Reader.readArray(III)Z
def xc_68 : xrC := [(0, .aload_n 0, 1), (1, .getfield 323, 3), (4, .istore 4, 2), (6, .iload_n 3, 1), (7, .bipush 8, 2), (9, .imul, 1), (10, .istore 5, 2), (12, .aload_n 0, 1),
  (13, .getfield 321, 3), (16, .getfield 465, 3), (19, .iload_n 1, 1), (20, .iaload, 1), (21, .istore 6, 2), (23, .aload_n 0, 1), (24, .iconst 1, 1), (25, .iload_n 1, 1),
  (26, .iload_n 2, 1), (27, .invokevirtual 58, 3), (30, .istore 7, 2), (32, .iload 7, 2), (34, .iconst (-1), 1), (35, .if_icmp .ne 5, 3), (38, .iconst 0, 1), (39, .ireturn, 1),
  (40, .iconst 0, 1), (41, .istore 8, 2), (43, .iload 6, 2), (45, .bipush 43, 2), (47, .if_icmp .eq 10, 3), (50, .iload 6, 2), (52, .bipush 63, 2), (54, .if_icmp .ne 12, 3),
  (57, .aload_n 0, 1), (58, .iload_n 1, 1), (59, .iload 5, 2), (61, .invokevirtual 72, 3), (64, .istore 8, 2), (66, .iload 6, 2), (68, .bipush 43, 2), (70, .if_icmp .ne 25, 3),
  (73, .iload 8, 2), (75, .ifCond .lt 10, 3), (78, .iload 8, 2), (80, .bipush 20, 2), (82, .if_icmp .le 13, 3), (85, .aload_n 0, 1), (86, .iconst 3, 1), (87, .aload_n 0, 1),
  (88, .getfield 323, 3), (91, .invokevirtual 57, 3), (94, .ireturn, 1), (95, .iload 6, 2), (97, .bipush 63, 2), (99, .if_icmp .ne 11, 3), (102, .iload 8, 2), (104, .ifCond .eq 6, 3),
  (107, .iconst 1, 1), (108, .istore 8, 2), (110, .iload 6, 2), (112, .bipush 42, 2), (114, .if_icmp .ne 16, 3), (117, .aload_n 0, 1), (118, .iload_n 1, 1), (119, .iload 7, 2),
  (121, .iload_n 3, 1), (122, .invokevirtual 70, 3), (125, .istore 8, 2), (127, .goto 39, 3), (130, .iload 6, 2), (132, .bipush 33, 2), (134, .if_icmp .ne 16, 3), (137, .aload_n 0, 1),
  (138, .iload_n 1, 1), (139, .iload 7, 2), (141, .iload_n 3, 1), (142, .invokevirtual 71, 3), (145, .istore 8, 2), (147, .goto 19, 3), (150, .aload_n 0, 1), (151, .iload_n 1, 1),
  (152, .iload 7, 2), (154, .iload_n 3, 1), (155, .iload 8, 2), (157, .invokevirtual 69, 3), (160, .ifCond .ne 6, 3), (163, .iconst (-1), 1), (164, .istore 8, 2), (166, .aload_n 0, 1),
  (167, .getfield 320, 3), (170, .iload 7, 2), (172, .aload_n 0, 1), (173, .getfield 321, 3), (176, .getfield 457, 3), (179, .iload_n 1, 1), (180, .iaload, 1), (181, .aload_n 0, 1),
  (182, .getfield 323, 3), (185, .iload 4, 2), (187, .isub, 1), (188, .iload 8, 2), (190, .invokevirtual 29, 3), (193, .aload_n 0, 1), (194, .getfield 330, 3), (197, .iload 5, 2),
  (199, .iload_n 1, 1), (200, .bipush 8, 2), (202, .irem, 1), (203, .iadd, 1), (204, .iload 8, 2), (206, .iastore, 1), (207, .iload 8, 2), (209, .iconst (-1), 1),
  (210, .if_icmp .eq 7, 3), (213, .iconst 1, 1), (214, .goto 4, 3), (217, .iconst 0, 1), (218, .ireturn, 1)]
def xm_68 : xrM := ((5, 3, ⟨"HexTemplates$Reader", "readArray", "(III)Z"⟩), (prog_7_method_14_code, 9, (some FieldType.boolean)), [], xc_68)
-- 69: HexTemplates$Reader.readCounted(IIII)Z
def xc_69 : xrC := [(0, .iconst 0, 1), (1, .istore 5, 2), (3, .iload 5, 2), (5, .iload 4, 2), (7, .if_icmp .ge 24, 3), (10, .aload_n 0, 1), (11, .iload_n 1, 1), (12, .iconst (-1), 1),
  (13, .iload_n 2, 1), (14, .iload_n 3, 1), (15, .iconst 1, 1), (16, .iadd, 1), (17, .invokevirtual 66, 3), (20, .ifCond .ne 5, 3), (23, .iconst 0, 1), (24, .ireturn, 1),
  (25, .iinc 5 1, 3), (28, .goto (-25), 3), (31, .iconst 1, 1), (32, .ireturn, 1)]
def xm_69 : xrM := ((5, 4, ⟨"HexTemplates$Reader", "readCounted", "(IIII)Z"⟩), (prog_7_method_15_code, 6, (some FieldType.boolean)), [], xc_69)
-- 70: HexTemplates$Reader.readWhileFine(III)I
def xc_70 : xrC := [(0, .iconst 0, 1), (1, .istore 4, 2), (3, .iload 4, 2), (5, .sipush 200, 3), (8, .if_icmp .gt 84, 3), (11, .aload_n 0, 1), (12, .getfield 323, 3), (15, .istore 5, 2),
  (17, .aload_n 0, 1), (18, .getfield 320, 3), (21, .getfield 199, 3), (24, .istore 6, 2), (26, .aload_n 0, 1), (27, .getfield 327, 3), (30, .istore 7, 2), (32, .aload_n 0, 1),
  (33, .iload_n 1, 1), (34, .iconst (-1), 1), (35, .iload_n 2, 1), (36, .iload_n 3, 1), (37, .iconst 1, 1), (38, .iadd, 1), (39, .invokevirtual 66, 3), (42, .istore 8, 2),
  (44, .iload 8, 2), (46, .ifCond .ne 13, 3), (49, .aload_n 0, 1), (50, .getfield 325, 3), (53, .iconst 5, 1), (54, .if_icmp .ne 5, 3), (57, .iconst (-1), 1), (58, .ireturn, 1),
  (59, .iload 8, 2), (61, .ifCond .eq 12, 3), (64, .aload_n 0, 1), (65, .getfield 323, 3), (68, .iload 5, 2), (70, .if_icmp .ne 16, 3), (73, .aload_n 0, 1), (74, .iload 5, 2),
  (76, .iload 6, 2), (78, .iload 7, 2), (80, .invokevirtual 67, 3), (83, .iload 4, 2), (85, .ireturn, 1), (86, .iinc 4 1, 3), (89, .goto (-86), 3), (92, .iconst (-1), 1),
  (93, .ireturn, 1)]
def xm_70 : xrM := ((5, 3, ⟨"HexTemplates$Reader", "readWhileFine", "(III)I"⟩), (prog_7_method_16_code, 9, (some FieldType.int)), [], xc_70)
-- 71: HexTemplates$Reader.readToEnd(III)I
def xc_71 : xrC := [(0, .aload_n 0, 1), (1, .getfield 323, 3), (4, .istore 4, 2), (6, .iconst 0, 1), (7, .istore 5, 2), (9, .iload 5, 2), (11, .sipush 200, 3), (14, .if_icmp .gt 120, 3),
  (17, .aload_n 0, 1), (18, .getfield 323, 3), (21, .aload_n 0, 1), (22, .getfield 322, 3), (25, .getfield 1, 3), (28, .if_icmp .ge 29, 3), (31, .aload_n 0, 1), (32, .getfield 322, 3),
  (35, .aload_n 0, 1), (36, .getfield 323, 3), (39, .invokevirtual 2, 3), (42, .aload_n 0, 1), (43, .getfield 321, 3), (46, .getfield 466, 3), (49, .iload_n 1, 1), (50, .iaload, 1),
  (51, .if_icmp .ne 6, 3), (54, .iload 5, 2), (56, .ireturn, 1), (57, .aload_n 0, 1), (58, .getfield 323, 3), (61, .istore 6, 2), (63, .aload_n 0, 1), (64, .getfield 323, 3),
  (67, .aload_n 0, 1), (68, .getfield 322, 3), (71, .getfield 1, 3), (74, .if_icmp .ge 7, 3), (77, .iconst 1, 1), (78, .goto 4, 3), (81, .iconst 0, 1), (82, .istore 7, 2),
  (84, .iload 7, 2), (86, .ifCond .eq 18, 3), (89, .aload_n 0, 1), (90, .iload_n 1, 1), (91, .iconst (-1), 1), (92, .iload_n 2, 1), (93, .iload_n 3, 1), (94, .iconst 1, 1),
  (95, .iadd, 1), (96, .invokevirtual 66, 3), (99, .ifCond .ne 5, 3), (102, .iconst (-1), 1), (103, .ireturn, 1), (104, .iload 7, 2), (106, .ifCond .eq 12, 3), (109, .aload_n 0, 1),
  (110, .getfield 323, 3), (113, .iload 6, 2), (115, .if_icmp .ne 13, 3), (118, .aload_n 0, 1), (119, .iconst 1, 1), (120, .iload 4, 2), (122, .invokevirtual 57, 3), (125, .pop, 1),
  (126, .iconst (-1), 1), (127, .ireturn, 1), (128, .iinc 5 1, 3), (131, .goto (-122), 3), (134, .iconst (-1), 1), (135, .ireturn, 1)]
def xm_71 : xrM := ((5, 3, ⟨"HexTemplates$Reader", "readToEnd", "(III)I"⟩), (prog_7_method_17_code, 8, (some FieldType.int)), [], xc_71)
-- 72: HexTemplates$Reader.reckonSum(II)I
def xc_72 : xrC := [(0, .iconst 0, 1), (1, .istore_n 3, 1), (2, .aload_n 0, 1), (3, .getfield 321, 3), (6, .getfield 461, 3), (9, .iload_n 1, 1), (10, .iaload, 1), (11, .istore 4, 2),
  (13, .iload 4, 2), (15, .aload_n 0, 1), (16, .getfield 321, 3), (19, .getfield 462, 3), (22, .iload_n 1, 1), (23, .iaload, 1), (24, .if_icmp .ge 111, 3), (27, .aload_n 0, 1),
  (28, .getfield 321, 3), (31, .getfield 454, 3), (34, .iload 4, 2), (36, .iaload, 1), (37, .istore 5, 2), (39, .iload 5, 2), (41, .ifCond .lt 9, 3), (44, .iload 5, 2),
  (46, .i2l, 1), (47, .goto 15, 3), (50, .aload_n 0, 1), (51, .getfield 330, 3), (54, .iload_n 2, 1), (55, .iconst 1, 1), (56, .isub, 1), (57, .iload 5, 2),
  (59, .isub, 1), (60, .iaload, 1), (61, .i2l, 1), (62, .lstore 6, 2), (64, .aload_n 0, 1), (65, .getfield 321, 3), (68, .getfield 455, 3), (71, .iload 4, 2),
  (73, .iaload, 1), (74, .istore 8, 2), (76, .iload 8, 2), (78, .bipush 43, 2), (80, .if_icmp .ne 11, 3), (83, .iload_n 3, 1), (84, .i2l, 1), (85, .lload 6, 2),
  (87, .ladd, 1), (88, .goto 23, 3), (91, .iload 8, 2), (93, .bipush 45, 2), (95, .if_icmp .ne 11, 3), (98, .iload_n 3, 1), (99, .i2l, 1), (100, .lload 6, 2),
  (102, .lsub, 1), (103, .goto 8, 3), (106, .iload_n 3, 1), (107, .i2l, 1), (108, .lload 6, 2), (110, .lmul, 1), (111, .lstore 9, 2), (113, .goto_w (-99999), 3),
  (116, .goto_w 99999, 3), (119, .lload 9, 2), (121, .invokestatic 25, 3), (124, .invokestatic 23, 3), (127, .l2i, 1), (128, .istore_n 3, 1), (129, .iinc 4 1, 3), (132, .goto (-119), 3),
  (135, .iload_n 3, 1), (136, .ireturn, 1)]
def xm_72 : xrM := ((5, 2, ⟨"HexTemplates$Reader", "reckonSum", "(II)I"⟩), (prog_7_method_18_code, 11, (some FieldType.int)), [], xc_72)
-- 73: HexTemplates$Reader.countWrongIn(II)V
def xc_73 : xrC := [(0, .iconst 0, 1), (1, .istore_n 3, 1), (2, .iload_n 3, 1), (3, .aload_n 0, 1), (4, .getfield 321, 3), (7, .getfield 453, 3), (10, .iload_n 1, 1), (11, .iaload, 1),
  (12, .if_icmp .ge 130, 3), (15, .iload_n 1, 1), (16, .bipush 8, 2), (18, .imul, 1), (19, .iload_n 3, 1), (20, .iadd, 1), (21, .istore 4, 2), (23, .aload_n 0, 1),
  (24, .getfield 321, 3), (27, .getfield 467, 3), (30, .iload 4, 2), (32, .iaload, 1), (33, .istore 5, 2), (35, .iload 5, 2), (37, .ifCond .eq 99, 3), (40, .iload 5, 2),
  (42, .bipush 61, 2), (44, .if_icmp .eq 92, 3), (47, .iload_n 2, 1), (48, .bipush 8, 2), (50, .imul, 1), (51, .aload_n 0, 1), (52, .getfield 321, 3), (55, .getfield 468, 3),
  (58, .iload 4, 2), (60, .iaload, 1), (61, .bipush 8, 2), (63, .irem, 1), (64, .iadd, 1), (65, .istore 6, 2), (67, .aload_n 0, 1), (68, .iload 5, 2),
  (70, .aload_n 0, 1), (71, .getfield 328, 3), (74, .iload 6, 2), (76, .iaload, 1), (77, .aload_n 0, 1), (78, .getfield 329, 3), (81, .iload 6, 2), (83, .iaload, 1),
  (84, .aload_n 0, 1), (85, .getfield 330, 3), (88, .iload 6, 2), (90, .iaload, 1), (91, .invokevirtual 74, 3), (94, .istore 7, 2), (96, .aload_n 0, 1), (97, .getfield 330, 3),
  (100, .iload_n 2, 1), (101, .bipush 8, 2), (103, .imul, 1), (104, .iload_n 3, 1), (105, .iadd, 1), (106, .iaload, 1), (107, .aload_n 0, 1), (108, .iload 7, 2),
  (110, .aload_n 0, 1), (111, .getfield 321, 3), (114, .getfield 459, 3), (117, .iload 4, 2), (119, .iaload, 1), (120, .invokevirtual 75, 3), (123, .if_icmp .eq 13, 3), (126, .aload_n 0, 1),
  (127, .dup, 1), (128, .getfield 327, 3), (131, .iconst 1, 1), (132, .iadd, 1), (133, .putfield 327, 3), (136, .iinc 3 1, 3), (139, .goto (-137), 3), (142, .return_, 1)]
def xm_73 : xrM := ((5, 2, ⟨"HexTemplates$Reader", "countWrongIn", "(II)V"⟩), (prog_7_method_19_code, 8, (none)), [], xc_73)
-- 74: HexTemplates$Reader.reckon(IIII)I
def xc_74 : xrC := [(0, .iload_n 1, 1), (1, .bipush 35, 2), (3, .if_icmp .ne 5, 3), (6, .iload_n 3, 1), (7, .ireturn, 1), (8, .iload_n 1, 1), (9, .bipush 37, 2), (11, .if_icmp .ne 6, 3),
  (14, .iload 4, 2), (16, .ireturn, 1), (17, .iconst 0, 1), (18, .istore 5, 2), (20, .iload_n 2, 1), (21, .istore 6, 2), (23, .iload 6, 2), (25, .iload_n 2, 1),
  (26, .iload_n 3, 1), (27, .iadd, 1), (28, .if_icmp .ge 44, 3), (31, .iload_n 1, 1), (32, .bipush 43, 2), (34, .if_icmp .ne 18, 3), (37, .iload 5, 2), (39, .aload_n 0, 1),
  (40, .getfield 322, 3), (43, .iload 6, 2), (45, .invokevirtual 2, 3), (48, .iadd, 1), (49, .goto 15, 3), (52, .iload 5, 2), (54, .aload_n 0, 1), (55, .getfield 322, 3),
  (58, .iload 6, 2), (60, .invokevirtual 2, 3), (63, .ixor, 1), (64, .istore 5, 2), (66, .iinc 6 1, 3), (69, .goto (-46), 3), (72, .iload 5, 2), (74, .ireturn, 1)]
def xm_74 : xrM := ((5, 4, ⟨"HexTemplates$Reader", "reckon", "(IIII)I"⟩), (prog_7_method_20_code, 7, (some FieldType.int)), [], xc_74)
-- 75: HexTemplates$Reader.cut(II)I
def xc_75 : xrC := [(0, .iload_n 1, 1), (1, .iconst 1, 1), (2, .iload_n 2, 1), (3, .ishl, 1), (4, .iconst 1, 1), (5, .isub, 1), (6, .iand, 1), (7, .ireturn, 1)]
def xm_75 : xrM := ((5, 2, ⟨"HexTemplates$Reader", "cut", "(II)I"⟩), (prog_7_method_21_code, 3, (some FieldType.int)), [], xc_75)
-- 76: HexTemplates$Reader.relationOf(I)I
def xc_76 : xrC := [(0, .aload_n 0, 1), (1, .getfield 320, 3), (4, .iload_n 1, 1), (5, .invokevirtual 27, 3), (8, .ifCond .eq 15, 3), (11, .aload_n 0, 1), (12, .getfield 320, 3), (15, .getfield 198, 3),
  (18, .iload_n 1, 1), (19, .iaload, 1), (20, .goto 4, 3), (23, .iconst (-1), 1), (24, .istore_n 2, 1), (25, .iload_n 2, 1), (26, .iconst (-1), 1), (27, .if_icmp .ne 7, 3),
  (30, .iconst 0, 1), (31, .goto 12, 3), (34, .aload_n 0, 1), (35, .getfield 321, 3), (38, .getfield 467, 3), (41, .iload_n 2, 1), (42, .iaload, 1), (43, .ireturn, 1)]
def xm_76 : xrM := ((5, 1, ⟨"HexTemplates$Reader", "relationOf", "(I)I"⟩), (prog_7_method_22_code, 3, (some FieldType.int)), [], xc_76)
-- 77: HexTemplates$Reader.otherOf(I)I
def xc_77 : xrC := [(0, .aload_n 0, 1), (1, .iload_n 1, 1), (2, .invokevirtual 76, 3), (5, .istore_n 2, 1), (6, .iload_n 2, 1), (7, .ifCond .eq 9, 3), (10, .iload_n 2, 1), (11, .bipush 61, 2),
  (13, .if_icmp .ne 5, 3), (16, .iconst (-1), 1), (17, .ireturn, 1), (18, .aload_n 0, 1), (19, .getfield 320, 3), (22, .aload_n 0, 1), (23, .getfield 320, 3), (26, .getfield 197, 3),
  (29, .iload_n 1, 1), (30, .iaload, 1), (31, .aload_n 0, 1), (32, .getfield 321, 3), (35, .getfield 468, 3), (38, .aload_n 0, 1), (39, .getfield 320, 3), (42, .getfield 198, 3),
  (45, .iload_n 1, 1), (46, .iaload, 1), (47, .iaload, 1), (48, .invokevirtual 31, 3), (51, .ireturn, 1)]
def xm_77 : xrM := ((5, 1, ⟨"HexTemplates$Reader", "otherOf", "(I)I"⟩), (prog_7_method_23_code, 3, (some FieldType.int)), [], xc_77)
-- 78: HexTemplates$Reader.dueOf(I)I
def xc_78 : xrC := [(0, .aload_n 0, 1), (1, .iload_n 1, 1), (2, .invokevirtual 77, 3), (5, .istore_n 2, 1), (6, .iload_n 2, 1), (7, .iconst (-1), 1), (8, .if_icmp .ne 13, 3), (11, .aload_n 0, 1),
  (12, .getfield 320, 3), (15, .getfield 196, 3), (18, .iload_n 1, 1), (19, .iaload, 1), (20, .ireturn, 1), (21, .aload_n 0, 1), (22, .aload_n 0, 1), (23, .iload_n 1, 1),
  (24, .invokevirtual 76, 3), (27, .aload_n 0, 1), (28, .getfield 320, 3), (31, .getfield 194, 3), (34, .iload_n 2, 1), (35, .iaload, 1), (36, .aload_n 0, 1), (37, .getfield 320, 3),
  (40, .getfield 195, 3), (43, .iload_n 2, 1), (44, .iaload, 1), (45, .aload_n 0, 1), (46, .getfield 320, 3), (49, .getfield 196, 3), (52, .iload_n 2, 1), (53, .iaload, 1),
  (54, .invokevirtual 74, 3), (57, .istore_n 3, 1), (58, .aload_n 0, 1), (59, .iload_n 3, 1), (60, .aload_n 0, 1), (61, .getfield 321, 3), (64, .getfield 459, 3), (67, .aload_n 0, 1),
  (68, .getfield 320, 3), (71, .getfield 198, 3), (74, .iload_n 1, 1), (75, .iaload, 1), (76, .iaload, 1), (77, .invokevirtual 75, 3), (80, .ireturn, 1)]
def xm_78 : xrM := ((5, 1, ⟨"HexTemplates$Reader", "dueOf", "(I)I"⟩), (prog_7_method_24_code, 4, (some FieldType.int)), [], xc_78)
-- 79: HexTemplates$Reader.holds(I)Z
def xc_79 : xrC := [(0, .aload_n 0, 1), (1, .getfield 320, 3), (4, .getfield 196, 3), (7, .iload_n 1, 1), (8, .iaload, 1), (9, .aload_n 0, 1), (10, .iload_n 1, 1), (11, .invokevirtual 78, 3),
  (14, .if_icmp .ne 7, 3), (17, .iconst 1, 1), (18, .goto 4, 3), (21, .iconst 0, 1), (22, .ireturn, 1)]
def xm_79 : xrM := ((5, 1, ⟨"HexTemplates$Reader", "holds", "(I)Z"⟩), (prog_7_method_25_code, 2, (some FieldType.boolean)), [], xc_79)
-- 80: HexTemplates$Reader.countWrong()I
def xc_80 : xrC := [(0, .iconst 0, 1), (1, .istore_n 1, 1), (2, .iconst 0, 1), (3, .istore_n 2, 1), (4, .iload_n 2, 1), (5, .aload_n 0, 1), (6, .getfield 320, 3), (9, .getfield 199, 3),
  (12, .if_icmp .ge 34, 3), (15, .iload_n 1, 1), (16, .aload_n 0, 1), (17, .getfield 320, 3), (20, .getfield 196, 3), (23, .iload_n 2, 1), (24, .iaload, 1), (25, .aload_n 0, 1),
  (26, .iload_n 2, 1), (27, .invokevirtual 78, 3), (30, .if_icmp .ne 7, 3), (33, .iconst 0, 1), (34, .goto 4, 3), (37, .iconst 1, 1), (38, .iadd, 1), (39, .istore_n 1, 1),
  (40, .iinc 2 1, 3), (43, .goto (-39), 3), (46, .iload_n 1, 1), (47, .ireturn, 1)]
def xm_80 : xrM := ((5, 0, ⟨"HexTemplates$Reader", "countWrong", "()I"⟩), (prog_7_method_26_code, 3, (some FieldType.int)), [], xc_80)
-- 81: HexTemplates$Reader.typeOf(I)I
def xc_81 : xrC := [(0, .aload_n 0, 1), (1, .getfield 320, 3), (4, .iload_n 1, 1), (5, .invokevirtual 27, 3), (8, .ifCond .eq 15, 3), (11, .aload_n 0, 1), (12, .getfield 320, 3), (15, .getfield 198, 3),
  (18, .iload_n 1, 1), (19, .iaload, 1), (20, .goto 4, 3), (23, .iconst (-1), 1), (24, .istore_n 2, 1), (25, .iload_n 2, 1), (26, .iconst (-1), 1), (27, .if_icmp .ne 8, 3),
  (30, .bipush 65, 2), (32, .goto 12, 3), (35, .aload_n 0, 1), (36, .getfield 321, 3), (39, .getfield 458, 3), (42, .iload_n 2, 1), (43, .iaload, 1), (44, .ireturn, 1)]
def xm_81 : xrM := ((5, 1, ⟨"HexTemplates$Reader", "typeOf", "(I)I"⟩), (prog_7_method_27_code, 3, (some FieldType.int)), [], xc_81)
-- 82: HexTemplates$Reader.structureTold(I)I
def xc_82 : xrC := [(0, .iload_n 1, 1), (1, .ifCond .lt 9, 3), (4, .iload_n 1, 1), (5, .bipush 48, 2), (7, .if_icmp .lt 7, 3), (10, .iconst (-1), 1), (11, .goto 20, 3), (14, .aload_n 0, 1),
  (15, .getfield 321, 3), (18, .getfield 456, 3), (21, .aload_n 0, 1), (22, .getfield 321, 3), (25, .getfield 463, 3), (28, .iload_n 1, 1), (29, .iaload, 1), (30, .iaload, 1),
  (31, .ireturn, 1)]
def xm_82 : xrM := ((5, 1, ⟨"HexTemplates$Reader", "structureTold", "(I)I"⟩), (prog_7_method_28_code, 2, (some FieldType.int)), [], xc_82)
-- 83: HexTemplates$Reader.greatest(I)I
def xc_83 : xrC := [(0, .aload_n 0, 1), (1, .getfield 320, 3), (4, .iload_n 1, 1), (5, .invokevirtual 27, 3), (8, .ifCond .eq 15, 3), (11, .aload_n 0, 1), (12, .getfield 320, 3), (15, .getfield 198, 3),
  (18, .iload_n 1, 1), (19, .iaload, 1), (20, .goto 4, 3), (23, .iconst (-1), 1), (24, .istore_n 2, 1), (25, .iload_n 2, 1), (26, .iconst (-1), 1), (27, .if_icmp .ne 7, 3),
  (30, .iconst (-1), 1), (31, .goto 16, 3), (34, .iconst 1, 1), (35, .aload_n 0, 1), (36, .getfield 321, 3), (39, .getfield 459, 3), (42, .iload_n 2, 1), (43, .iaload, 1),
  (44, .ishl, 1), (45, .iconst 1, 1), (46, .isub, 1), (47, .ireturn, 1)]
def xm_83 : xrM := ((5, 1, ⟨"HexTemplates$Reader", "greatest", "(I)I"⟩), (prog_7_method_29_code, 3, (some FieldType.int)), [], xc_83)
-- 84: HexTemplates$Reader.shiftOf(I)I
def xc_84 : xrC := [(0, .aload_n 0, 1), (1, .iload_n 1, 1), (2, .invokevirtual 81, 3), (5, .bipush 110, 2), (7, .if_icmp .ne 23, 3), (10, .aload_n 0, 1), (11, .getfield 321, 3), (14, .getfield 460, 3),
  (17, .aload_n 0, 1), (18, .getfield 320, 3), (21, .getfield 198, 3), (24, .iload_n 1, 1), (25, .iaload, 1), (26, .iaload, 1), (27, .goto 4, 3), (30, .iconst 0, 1),
  (31, .ireturn, 1)]
def xm_84 : xrM := ((5, 1, ⟨"HexTemplates$Reader", "shiftOf", "(I)I"⟩), (prog_7_method_30_code, 2, (some FieldType.int)), [], xc_84)
-- 85: HexTemplates$Reader.isEndedByZero(I)Z
def xc_85 : xrC := [(0, .aload_n 0, 1), (1, .iload_n 1, 1), (2, .invokevirtual 81, 3), (5, .bipush 122, 2), (7, .if_icmp .ne 7, 3), (10, .iconst 1, 1), (11, .goto 4, 3), (14, .iconst 0, 1),
  (15, .ireturn, 1)]
def xm_85 : xrM := ((5, 1, ⟨"HexTemplates$Reader", "isEndedByZero", "(I)Z"⟩), (prog_7_method_31_code, 2, (some FieldType.boolean)), [], xc_85)
-- 86: HexTemplates$Reader.stringLength(I)I
def xc_86 : xrC := [(0, .aload_n 0, 1), (1, .getfield 320, 3), (4, .iload_n 1, 1), (5, .invokevirtual 27, 3), (8, .ifCond .eq 16, 3), (11, .aload_n 0, 1), (12, .getfield 320, 3), (15, .getfield 192, 3),
  (18, .iload_n 1, 1), (19, .iaload, 1), (20, .iconst 5, 1), (21, .if_icmp .eq 5, 3), (24, .iconst (-1), 1), (25, .ireturn, 1), (26, .aload_n 0, 1), (27, .iload_n 1, 1),
  (28, .invokevirtual 85, 3), (31, .ifCond .eq 17, 3), (34, .aload_n 0, 1), (35, .getfield 320, 3), (38, .getfield 195, 3), (41, .iload_n 1, 1), (42, .iaload, 1), (43, .iconst 1, 1),
  (44, .isub, 1), (45, .goto 12, 3), (48, .aload_n 0, 1), (49, .getfield 320, 3), (52, .getfield 195, 3), (55, .iload_n 1, 1), (56, .iaload, 1), (57, .ireturn, 1)]
def xm_86 : xrM := ((5, 1, ⟨"HexTemplates$Reader", "stringLength", "(I)I"⟩), (prog_7_method_32_code, 2, (some FieldType.int)), [], xc_86)
-- 87: HexTemplates$States.<init>()V
def xc_87 : xrC := [(0, .aload_n 0, 1), (1, .monitorexit, 3), (4, .aload_n 0, 1), (5, .sipush 4800, 3), (8, .newarray .int, 2), (10, .invokedynamic 384, 3), (13, .aload_n 0, 1), (14, .bipush 30, 2),
  (16, .newarray .int, 2), (18, .invokedynamic 385, 3), (21, .aload_n 0, 1), (22, .bipush 30, 2), (24, .newarray .int, 2), (26, .invokedynamic 386, 3), (29, .aload_n 0, 1), (30, .iconst 0, 1),
  (31, .putfield 387, 3), (34, .aload_n 0, 1), (35, .iconst (-1), 1), (36, .putfield 388, 3), (39, .return_, 1)]
def xm_87 : xrM := ((6, 0, ⟨"HexTemplates$States", "<init>", "()V"⟩), (prog_8_method_1_code, 1, (none)), [], xc_87)
-- 88: HexTemplates$States.isFull()Z
def xc_88 : xrC := [(0, .aload_n 0, 1), (1, .getfield 387, 3), (4, .bipush 30, 2), (6, .if_icmp .lt 7, 3), (9, .iconst 1, 1), (10, .goto 4, 3), (13, .iconst 0, 1), (14, .ireturn, 1)]
def xm_88 : xrM := ((6, 0, ⟨"HexTemplates$States", "isFull", "()Z"⟩), (prog_8_method_2_code, 1, (some FieldType.boolean)), [], xc_88)
-- 89: HexTemplatesLaw.cell([II)I
def xc_89 : xrC := [(0, .iload_n 1, 1), (1, .aload_n 0, 1), (2, .arraylength, 1), (3, .if_icmp .ge 9, 3), (6, .aload_n 0, 1), (7, .iload_n 1, 1), (8, .iaload, 1), (9, .goto 13, 3),
  (12, .jsr_w 51797, 2), (14, .iload_n 1, 1), (15, .bipush 41, 2), (17, .iadd, 1), (18, .imul, 1), (19, .jsr_w 2957131, 2), (21, .iadd, 1), (22, .ireturn, 1)]
def xm_89 : xrM := ((99, 2, ⟨"HexTemplatesLaw", "cell", "([II)I"⟩), (method_2_code, 2, (some FieldType.int)), [], xc_89)
-- 90: HexTemplatesLaw.low(II)I
def xc_90 : xrC := [(0, .iload_n 0, 1), (1, .jsr_w 2147483647, 2), (3, .iand, 1), (4, .iload_n 1, 1), (5, .irem, 1), (6, .ireturn, 1)]
def xm_90 : xrM := ((99, 2, ⟨"HexTemplatesLaw", "low", "(II)I"⟩), (method_3_code, 2, (some FieldType.int)), [], xc_90)
-- 91: HexTemplatesLaw.calls(LHexTemplates;IIII)I
def xc_91 : xrC := [(0, .iload_n 1, 1), (1, .ifCond .ne 14, 3), (4, .aload_n 0, 1), (5, .iload_n 2, 1), (6, .iload_n 3, 1), (7, .iload 4, 2), (9, .invokevirtual 124, 3), (12, .goto 60, 3),
  (15, .iload_n 1, 1), (16, .iconst 1, 1), (17, .if_icmp .ne 12, 3), (20, .aload_n 0, 1), (21, .iload_n 2, 1), (22, .iload_n 3, 1), (23, .invokevirtual 125, 3), (26, .goto 46, 3),
  (29, .iload_n 1, 1), (30, .iconst 2, 1), (31, .if_icmp .ne 23, 3), (34, .aload_n 0, 1), (35, .iload_n 2, 1), (36, .iload_n 3, 1), (37, .iload 4, 2), (39, .iconst 1, 1),
  (40, .if_icmp .ne 7, 3), (43, .iconst 1, 1), (44, .goto 4, 3), (47, .iconst 0, 1), (48, .invokevirtual 126, 3), (51, .goto 21, 3), (54, .iload_n 1, 1), (55, .iconst 3, 1),
  (56, .if_icmp .ne 12, 3), (59, .aload_n 0, 1), (60, .iload_n 2, 1), (61, .iload_n 3, 1), (62, .invokevirtual 123, 3), (65, .goto 7, 3), (68, .aload_n 0, 1), (69, .invokevirtual 127, 3),
  (72, .ireturn, 1), (73, .astore 5, 2), (75, .sipush (-1001), 3), (78, .ireturn, 1), (79, .astore 5, 2), (81, .sipush (-1003), 3), (84, .ireturn, 1)]
def xm_91 : xrM := ((99, 5, ⟨"HexTemplatesLaw", "calls", "(LHexTemplates;IIII)I"⟩), (method_4_code, 6, (some FieldType.int)), [(0, 72, 73, 31, 2), (0, 72, 79, 33, 1)], xc_91)
-- 92: HexTemplatesLaw.puts(LHexTemplates;IIIIIIII)V
def xc_92 : xrC := [(0, .iconst 0, 1), (1, .istore 9, 2), (3, .iload 9, 2), (5, .bipush 8, 2), (7, .if_icmp .ge 101, 3), (10, .iload 9, 2), (12, .ifCond .ne 7, 3), (15, .iload_n 1, 1),
  (16, .goto 70, 3), (19, .iload 9, 2), (21, .iconst 1, 1), (22, .if_icmp .ne 7, 3), (25, .iload_n 2, 1), (26, .goto 60, 3), (29, .iload 9, 2), (31, .iconst 2, 1),
  (32, .if_icmp .ne 7, 3), (35, .iload_n 3, 1), (36, .goto 50, 3), (39, .iload 9, 2), (41, .iconst 3, 1), (42, .if_icmp .ne 8, 3), (45, .iload 4, 2), (47, .goto 39, 3),
  (50, .iload 9, 2), (52, .iconst 4, 1), (53, .if_icmp .ne 8, 3), (56, .iload 5, 2), (58, .goto 28, 3), (61, .iload 9, 2), (63, .iconst 5, 1), (64, .if_icmp .ne 8, 3),
  (67, .iload 6, 2), (69, .goto 17, 3), (72, .iload 9, 2), (74, .bipush 6, 2), (76, .if_icmp .ne 8, 3), (79, .iload 7, 2), (81, .goto 5, 3), (84, .iload 8, 2),
  (86, .istore 10, 2), (88, .iload 10, 2), (90, .ifCond .le 12, 3), (93, .aload_n 0, 1), (94, .iload 10, 2), (96, .i2l, 1), (97, .iconst 1, 1), (98, .invokevirtual 105, 3),
  (101, .pop, 1), (102, .iinc 9 1, 3), (105, .goto (-102), 3), (108, .return_, 1)]
def xm_92 : xrM := ((99, 9, ⟨"HexTemplatesLaw", "puts", "(LHexTemplates;IIIIIIII)V"⟩), (method_5_code, 11, (none)), [], xc_92)
-- 93: HexTemplates$States.keep(LHexTemplates$Bytes;)I
def xc_93 : xrC := [(0, .aload_n 0, 1), (1, .invokevirtual 88, 3), (4, .ifCond .ne 13, 3), (7, .aload_n 1, 1), (8, .getfield 1, 3), (11, .sipush 160, 3), (14, .if_icmp .le 5, 3), (17, .iconst (-1), 1),
  (18, .ireturn, 1), (19, .aload_n 0, 1), (20, .getfield 385, 3), (23, .aload_n 0, 1), (24, .getfield 387, 3), (27, .aload_n 1, 1), (28, .getfield 1, 3), (31, .iastore, 1),
  (32, .aload_n 0, 1), (33, .getfield 386, 3), (36, .aload_n 0, 1), (37, .getfield 387, 3), (40, .aload_n 0, 1), (41, .getfield 388, 3), (44, .iastore, 1), (45, .iconst 0, 1),
  (46, .istore_n 2, 1), (47, .iload_n 2, 1), (48, .aload_n 1, 1), (49, .getfield 1, 3), (52, .if_icmp .ge 29, 3), (55, .aload_n 0, 1), (56, .getfield 384, 3), (59, .aload_n 0, 1),
  (60, .getfield 387, 3), (63, .sipush 160, 3), (66, .imul, 1), (67, .iload_n 2, 1), (68, .iadd, 1), (69, .aload_n 1, 1), (70, .iload_n 2, 1), (71, .invokevirtual 2, 3),
  (74, .iastore, 1), (75, .iinc 2 1, 3), (78, .goto (-31), 3), (81, .aload_n 0, 1), (82, .aload_n 0, 1), (83, .getfield 387, 3), (86, .putfield 388, 3), (89, .aload_n 0, 1),
  (90, .dup, 1), (91, .getfield 387, 3), (94, .iconst 1, 1), (95, .iadd, 1), (96, .putfield 387, 3), (99, .aload_n 0, 1), (100, .getfield 388, 3), (103, .ireturn, 1)]
def xm_93 : xrM := ((6, 1, ⟨"HexTemplates$States", "keep", "(LHexTemplates$Bytes;)I"⟩), (prog_8_method_7_code, 3, (some FieldType.int)), [], xc_93)
-- 94: HexTemplatesLaw.atArray([I)I
def xc_94 : xrC := [(0, .iconst 3, 1), (1, .aload_n 0, 1), (2, .iconst 0, 1), (3, .iaload, 1), (4, .iadd, 1), (5, .ireturn, 1)]
def xm_94 : xrM := ((99, 1, ⟨"HexTemplatesLaw", "atArray", "([I)I"⟩), (method_6_code, 1, (some FieldType.int)), [], xc_94)
-- 95: HexTemplates$Template.<init>()V
def xc_95 : xrC := [(0, .aload_n 0, 1), (1, .monitorexit, 3), (4, .aload_n 0, 1), (5, .iconst 0, 1), (6, .putfield 448, 3), (9, .aload_n 0, 1), (10, .iconst 0, 1), (11, .putfield 449, 3),
  (14, .aload_n 0, 1), (15, .iconst 0, 1), (16, .putfield 450, 3), (19, .aload_n 0, 1), (20, .iconst 0, 1), (21, .putfield 451, 3), (24, .aload_n 0, 1), (25, .bipush 6, 2),
  (27, .newarray .int, 2), (29, .invokedynamic 452, 3), (32, .aload_n 0, 1), (33, .bipush 6, 2), (35, .newarray .int, 2), (37, .invokedynamic 453, 3), (40, .aload_n 0, 1), (41, .bipush 100, 2),
  (43, .newarray .int, 2), (45, .invokedynamic 454, 3), (48, .aload_n 0, 1), (49, .bipush 100, 2), (51, .newarray .int, 2), (53, .invokedynamic 455, 3), (56, .aload_n 0, 1), (57, .bipush 100, 2),
  (59, .newarray .int, 2), (61, .invokedynamic 456, 3), (64, .aload_n 0, 1), (65, .bipush 48, 2), (67, .newarray .int, 2), (69, .invokedynamic 457, 3), (72, .aload_n 0, 1), (73, .bipush 48, 2),
  (75, .newarray .int, 2), (77, .invokedynamic 458, 3), (80, .aload_n 0, 1), (81, .bipush 48, 2), (83, .newarray .int, 2), (85, .invokedynamic 459, 3), (88, .aload_n 0, 1), (89, .bipush 48, 2),
  (91, .newarray .int, 2), (93, .invokedynamic 460, 3), (96, .aload_n 0, 1), (97, .bipush 48, 2), (99, .newarray .int, 2), (101, .invokedynamic 461, 3), (104, .aload_n 0, 1), (105, .bipush 48, 2),
  (107, .newarray .int, 2), (109, .invokedynamic 462, 3), (112, .aload_n 0, 1), (113, .bipush 48, 2), (115, .newarray .int, 2), (117, .invokedynamic 463, 3), (120, .aload_n 0, 1), (121, .bipush 48, 2),
  (123, .newarray .int, 2), (125, .invokedynamic 464, 3), (128, .aload_n 0, 1), (129, .bipush 48, 2), (131, .newarray .int, 2), (133, .invokedynamic 465, 3), (136, .aload_n 0, 1), (137, .bipush 48, 2),
  (139, .newarray .int, 2), (141, .invokedynamic 466, 3), (144, .aload_n 0, 1), (145, .bipush 48, 2), (147, .newarray .int, 2), (149, .invokedynamic 467, 3), (152, .aload_n 0, 1), (153, .bipush 48, 2),
  (155, .newarray .int, 2), (157, .invokedynamic 468, 3), (160, .return_, 1)]
def xm_95 : xrM := ((7, 0, ⟨"HexTemplates$Template", "<init>", "()V"⟩), (prog_9_method_1_code, 1, (none)), [], xc_95)
-- 96: HexTemplates$Template.clear()V
def xc_96 : xrC := [(0, .aload_n 0, 1), (1, .iconst 0, 1), (2, .putfield 449, 3), (5, .aload_n 0, 1), (6, .iconst 0, 1), (7, .putfield 450, 3), (10, .aload_n 0, 1), (11, .iconst 0, 1),
  (12, .putfield 451, 3), (15, .return_, 1)]
def xm_96 : xrM := ((7, 0, ⟨"HexTemplates$Template", "clear", "()V"⟩), (prog_9_method_2_code, 1, (none)), [], xc_96)
-- 97: HexTemplates$Template.structureNamed(I)I
def xc_97 : xrC := [(0, .iconst 0, 1), (1, .istore_n 2, 1), (2, .iload_n 2, 1), (3, .aload_n 0, 1), (4, .getfield 449, 3), (7, .if_icmp .ge 21, 3), (10, .aload_n 0, 1), (11, .getfield 452, 3),
  (14, .iload_n 2, 1), (15, .iaload, 1), (16, .iload_n 1, 1), (17, .if_icmp .ne 5, 3), (20, .iload_n 2, 1), (21, .ireturn, 1), (22, .iinc 2 1, 3), (25, .goto (-23), 3),
  (28, .iconst (-1), 1), (29, .ireturn, 1)]
def xm_97 : xrM := ((7, 1, ⟨"HexTemplates$Template", "structureNamed", "(I)I"⟩), (prog_9_method_3_code, 3, (some FieldType.int)), [], xc_97)
-- 98: HexTemplates$Template.placeOf(II)I
def xc_98 : xrC := [(0, .iconst 0, 1), (1, .istore_n 3, 1), (2, .iload_n 3, 1), (3, .aload_n 0, 1), (4, .getfield 453, 3), (7, .iload_n 1, 1), (8, .iaload, 1), (9, .if_icmp .ge 26, 3),
  (12, .aload_n 0, 1), (13, .getfield 457, 3), (16, .iload_n 1, 1), (17, .bipush 8, 2), (19, .imul, 1), (20, .iload_n 3, 1), (21, .iadd, 1), (22, .iaload, 1),
  (23, .iload_n 2, 1), (24, .if_icmp .ne 5, 3), (27, .iload_n 3, 1), (28, .ireturn, 1), (29, .iinc 3 1, 3), (32, .goto (-30), 3), (35, .iconst (-1), 1), (36, .ireturn, 1)]
def xm_98 : xrM := ((7, 2, ⟨"HexTemplates$Template", "placeOf", "(II)I"⟩), (prog_9_method_4_code, 4, (some FieldType.int)), [], xc_98)
-- 99: HexTemplates$Template.isNumeric(I)Z
def xc_99 : xrC := [(0, .aload_n 0, 1), (1, .getfield 458, 3), (4, .iload_n 1, 1), (5, .iaload, 1), (6, .istore_n 2, 1), (7, .aload_n 0, 1), (8, .iload_n 1, 1), (9, .invokevirtual 101, 3),
  (12, .ifCond .ne 15, 3), (15, .iload_n 2, 1), (16, .bipush 114, 2), (18, .if_icmp .eq 9, 3), (21, .iload_n 2, 1), (22, .bipush 110, 2), (24, .if_icmp .ne 7, 3), (27, .iconst 1, 1),
  (28, .goto 4, 3), (31, .iconst 0, 1), (32, .ireturn, 1)]
def xm_99 : xrM := ((7, 1, ⟨"HexTemplates$Template", "isNumeric", "(I)Z"⟩), (prog_9_method_5_code, 3, (some FieldType.boolean)), [], xc_99)
-- 100: HexTemplates$Template.kindOf(I)I
def xc_100 : xrC := [(0, .aload_n 0, 1), (1, .getfield 458, 3), (4, .iload_n 1, 1), (5, .iaload, 1), (6, .lookupswitch 48 #[(110, 44), (114, 46), (115, 42), (122, 42)], 42), (48, .iconst 5, 1), (49, .ireturn, 1), (50, .iconst 4, 1),
  (51, .ireturn, 1), (52, .iconst 3, 1), (53, .ireturn, 1), (54, .iconst 2, 1), (55, .ireturn, 1)]
def xm_100 : xrM := ((7, 1, ⟨"HexTemplates$Template", "kindOf", "(I)I"⟩), (prog_9_method_6_code, 2, (some FieldType.int)), [], xc_100)
-- 101: HexTemplates$Template.isRelatable(I)Z
def xc_101 : xrC := [(0, .aload_n 0, 1), (1, .getfield 458, 3), (4, .iload_n 1, 1), (5, .iaload, 1), (6, .istore_n 2, 1), (7, .iload_n 2, 1), (8, .bipush 98, 2), (10, .if_icmp .eq 15, 3),
  (13, .iload_n 2, 1), (14, .bipush 119, 2), (16, .if_icmp .eq 9, 3), (19, .iload_n 2, 1), (20, .bipush 87, 2), (22, .if_icmp .ne 7, 3), (25, .iconst 1, 1), (26, .goto 4, 3),
  (29, .iconst 0, 1), (30, .ireturn, 1)]
def xm_101 : xrM := ((7, 1, ⟨"HexTemplates$Template", "isRelatable", "(I)Z"⟩), (prog_9_method_7_code, 3, (some FieldType.boolean)), [], xc_101)
-- 102: HexTemplates$Template.addTerm(II)Z
def xc_102 : xrC := [(0, .aload_n 0, 1), (1, .getfield 450, 3), (4, .bipush 100, 2), (6, .if_icmp .lt 5, 3), (9, .iconst 0, 1), (10, .ireturn, 1), (11, .aload_n 0, 1), (12, .getfield 455, 3),
  (15, .aload_n 0, 1), (16, .getfield 450, 3), (19, .iload_n 1, 1), (20, .iastore, 1), (21, .aload_n 0, 1), (22, .getfield 454, 3), (25, .aload_n 0, 1), (26, .getfield 450, 3),
  (29, .iload_n 2, 1), (30, .iastore, 1), (31, .aload_n 0, 1), (32, .dup, 1), (33, .getfield 450, 3), (36, .iconst 1, 1), (37, .iadd, 1), (38, .putfield 450, 3),
  (41, .iconst 1, 1), (42, .ireturn, 1)]
def xm_102 : xrM := ((7, 2, ⟨"HexTemplates$Template", "addTerm", "(II)Z"⟩), (prog_9_method_8_code, 3, (some FieldType.boolean)), [], xc_102)
-- 103: HexTemplates$Template.addChoice(I)Z
def xc_103 : xrC := [(0, .aload_n 0, 1), (1, .getfield 451, 3), (4, .bipush 100, 2), (6, .if_icmp .lt 5, 3), (9, .iconst 0, 1), (10, .ireturn, 1), (11, .aload_n 0, 1), (12, .getfield 456, 3),
  (15, .aload_n 0, 1), (16, .getfield 451, 3), (19, .iload_n 1, 1), (20, .iastore, 1), (21, .aload_n 0, 1), (22, .dup, 1), (23, .getfield 451, 3), (26, .iconst 1, 1),
  (27, .iadd, 1), (28, .putfield 451, 3), (31, .iconst 1, 1), (32, .ireturn, 1)]
def xm_103 : xrM := ((7, 1, ⟨"HexTemplates$Template", "addChoice", "(I)Z"⟩), (prog_9_method_9_code, 2, (some FieldType.boolean)), [], xc_103)
-- 104: HexTemplates.<init>()V
def xc_104 : xrC := [(0, .aload_n 0, 1), (1, .monitorexit, 3), (4, .aload_n 0, 1), (5, .new 0, 3), (8, .dup, 1), (9, .sipush 200, 3), (12, .invokespecial 1, 3), (15, .invokedynamic 512, 3),
  (18, .aload_n 0, 1), (19, .new 0, 3), (22, .dup, 1), (23, .sipush 160, 3), (26, .invokespecial 1, 3), (29, .invokedynamic 513, 3), (32, .aload_n 0, 1), (33, .new 4, 3),
  (36, .dup, 1), (37, .invokespecial 35, 3), (40, .invokedynamic 514, 3), (43, .aload_n 0, 1), (44, .iconst 4, 1), (45, .anewarray 7, 3), (48, .invokedynamic 515, 3), (51, .aload_n 0, 1),
  (52, .new 6, 3), (55, .dup, 1), (56, .invokespecial 87, 3), (59, .invokedynamic 516, 3), (62, .aload_n 0, 1), (63, .new 5, 3), (66, .dup, 1), (67, .invokespecial 55, 3),
  (70, .invokedynamic 517, 3), (73, .aload_n 0, 1), (74, .new 5, 3), (77, .dup, 1), (78, .invokespecial 55, 3), (81, .invokedynamic 518, 3), (84, .aload_n 0, 1), (85, .new 1, 3),
  (88, .dup, 1), (89, .invokespecial 9, 3), (92, .invokedynamic 519, 3), (95, .aload_n 0, 1), (96, .new 2, 3), (99, .dup, 1), (100, .invokespecial 21, 3), (103, .invokedynamic 520, 3),
  (106, .aload_n 0, 1), (107, .sipush 1536, 3), (110, .newarray .boolean, 2), (112, .invokedynamic 521, 3), (115, .aload_n 0, 1), (116, .iconst 0, 1), (117, .putfield 522, 3), (120, .aload_n 0, 1),
  (121, .bipush (-3), 2), (123, .putfield 523, 3), (126, .return_, 1)]
def xm_104 : xrM := ((8, 0, ⟨"HexTemplates", "<init>", "()V"⟩), (prog_1_method_1_code, 1, (none)), [], xc_104)
-- 105: HexTemplates.feed(JI)I
def xc_105 : xrC := [(0, .iload_n 3, 1), (1, .iconst 1, 1), (2, .if_icmp .lt 9, 3), (5, .iload_n 3, 1), (6, .bipush 8, 2), (8, .if_icmp .le 13, 3), (11, .multianewarray 0 0, 3), (21, .aload_n 0, 1),
  (22, .getfield 512, 3), (25, .getfield 1, 3), (28, .iload_n 3, 1), (29, .iadd, 1), (30, .sipush 200, 3), (33, .if_icmp .le 13, 3), (36, .multianewarray 1 0, 3), (46, .iconst 0, 1),
  (47, .istore 4, 2), (49, .iload 4, 2), (51, .iload_n 3, 1), (52, .if_icmp .ge 28, 3), (55, .aload_n 0, 1), (56, .getfield 512, 3), (59, .lload_n 1, 1), (60, .bipush 8, 2),
  (62, .iload 4, 2), (64, .imul, 1), (65, .lushr, 1), (66, .l2i, 1), (67, .sipush 255, 3), (70, .iand, 1), (71, .invokevirtual 4, 3), (74, .iinc 4 1, 3),
  (77, .goto (-28), 3), (80, .aload_n 0, 1), (81, .getfield 512, 3), (84, .getfield 1, 3), (87, .ireturn, 1)]
def xm_105 : xrM := ((8, 2, ⟨"HexTemplates", "feed", "(JI)I"⟩), (prog_1_method_2_code, 5, (some FieldType.int)), [], xc_105)
-- 106: HexTemplates.give()I
def xc_106 : xrC := [(0, .aload_n 0, 1), (1, .getfield 512, 3), (4, .getfield 1, 3), (7, .sipush 160, 3), (10, .if_icmp .gt 17, 3), (13, .aload_n 0, 1), (14, .getfield 516, 3), (17, .invokevirtual 88, 3),
  (20, .ifCond .ne 7, 3), (23, .iconst 1, 1), (24, .goto 4, 3), (27, .iconst 0, 1), (28, .istore_n 1, 1), (29, .iload_n 1, 1), (30, .ifCond .eq 14, 3), (33, .aload_n 0, 1),
  (34, .getfield 513, 3), (37, .aload_n 0, 1), (38, .getfield 512, 3), (41, .invokevirtual 5, 3), (44, .aload_n 0, 1), (45, .getfield 512, 3), (48, .iconst 0, 1), (49, .putfield 1, 3),
  (52, .iload_n 1, 1), (53, .ifCond .ne 13, 3), (56, .multianewarray 1 0, 3), (66, .aload_n 0, 1), (67, .invokevirtual 131, 3), (70, .ireturn, 1)]
def xm_106 : xrM := ((8, 0, ⟨"HexTemplates", "give", "()I"⟩), (prog_1_method_3_code, 2, (some FieldType.int)), [], xc_106)
-- 107: HexTemplates.template(I)I
def xc_107 : xrC := [(0, .iload_n 1, 1), (1, .ifCond .lt 9, 3), (4, .iload_n 1, 1), (5, .bipush 9, 2), (7, .if_icmp .le 13, 3), (10, .multianewarray 0 0, 3), (20, .aload_n 0, 1), (21, .invokevirtual 130, 3),
  (24, .astore_n 2, 1), (25, .aload_n 2, 1), (26, .ifnull 22, 3), (29, .aload_n 0, 1), (30, .getfield 514, 3), (33, .aload_n 0, 1), (34, .getfield 512, 3), (37, .aload_n 2, 1),
  (38, .invokevirtual 36, 3), (41, .ifCond .eq 7, 3), (44, .iconst 1, 1), (45, .goto 4, 3), (48, .iconst 0, 1), (49, .istore_n 3, 1), (50, .aload_n 0, 1), (51, .getfield 512, 3),
  (54, .iconst 0, 1), (55, .putfield 1, 3), (58, .iload_n 3, 1), (59, .ifCond .ne 13, 3), (62, .multianewarray 1 0, 3), (72, .aload_n 2, 1), (73, .iload_n 1, 1), (74, .putfield 448, 3),
  (77, .aload_n 0, 1), (78, .bipush (-3), 2), (80, .putfield 523, 3), (83, .aload_n 0, 1), (84, .dup, 1), (85, .getfield 522, 3), (88, .iconst 1, 1), (89, .iadd, 1),
  (90, .putfield 522, 3), (93, .aload_n 0, 1), (94, .getfield 522, 3), (97, .iconst 1, 1), (98, .isub, 1), (99, .ireturn, 1)]
def xm_107 : xrM := ((8, 1, ⟨"HexTemplates", "template", "(I)I"⟩), (prog_1_method_4_code, 4, (some FieldType.int)), [], xc_107)
-- 108: HexTemplates.size()I
def xc_108 : xrC := [(0, .aload_n 0, 1), (1, .getfield 513, 3), (4, .getfield 1, 3), (7, .ireturn, 1)]
def xm_108 : xrM := ((8, 0, ⟨"HexTemplates", "size", "()I"⟩), (prog_1_method_5_code, 1, (some FieldType.int)), [], xc_108)
-- 109: HexTemplates.byteAt(I)I
def xc_109 : xrC := [(0, .iload_n 1, 1), (1, .ifCond .lt 14, 3), (4, .iload_n 1, 1), (5, .aload_n 0, 1), (6, .getfield 513, 3), (9, .getfield 1, 3), (12, .if_icmp .lt 13, 3), (15, .multianewarray 2 0, 3),
  (25, .aload_n 0, 1), (26, .getfield 513, 3), (29, .iload_n 1, 1), (30, .invokevirtual 2, 3), (33, .ireturn, 1)]
def xm_109 : xrM := ((8, 1, ⟨"HexTemplates", "byteAt", "(I)I"⟩), (prog_1_method_6_code, 2, (some FieldType.int)), [], xc_109)
-- 110: HexTemplates.state()I
def xc_110 : xrC := [(0, .aload_n 0, 1), (1, .getfield 516, 3), (4, .getfield 388, 3), (7, .ireturn, 1)]
def xm_110 : xrM := ((8, 0, ⟨"HexTemplates", "state", "()I"⟩), (prog_1_method_7_code, 1, (some FieldType.int)), [], xc_110)
-- 111: HexTemplatesLaw.atElement(I[I[I)I
def xc_111 : xrC := [(0, .aload_n 2, 1), (1, .invokestatic 94, 3), (4, .istore_n 3, 1), (5, .iconst 0, 1), (6, .istore 4, 2), (8, .iload 4, 2), (10, .iload_n 0, 1), (11, .if_icmp .ge 21, 3),
  (14, .iload_n 3, 1), (15, .iconst 1, 1), (16, .aload_n 1, 1), (17, .bipush 56, 2), (19, .iload 4, 2), (21, .iadd, 1), (22, .iaload, 1), (23, .iadd, 1),
  (24, .iadd, 1), (25, .istore_n 3, 1), (26, .iinc 4 1, 3), (29, .goto (-21), 3), (32, .iload_n 3, 1), (33, .ireturn, 1)]
def xm_111 : xrM := ((99, 3, ⟨"HexTemplatesLaw", "atElement", "(I[I[I)I"⟩), (method_7_code, 5, (some FieldType.int)), [], xc_111)
-- 112: HexTemplatesLaw.byteAt(I[I[I[I)I
def xc_112 : xrC := [(0, .aload_n 3, 1), (1, .iconst 1, 1), (2, .iaload, 1), (3, .aload_n 2, 1), (4, .aload_n 3, 1), (5, .invokestatic 111, 3), (8, .istore 4, 2), (10, .iconst 0, 1),
  (11, .istore 5, 2), (13, .iconst 0, 1), (14, .istore 6, 2), (16, .iload_n 0, 1), (17, .iconst 3, 1), (18, .if_icmp .ge 27, 3), (21, .iload_n 0, 1), (22, .ifCond .ne 8, 3),
  (25, .bipush 77, 2), (27, .goto 17, 3), (30, .iload_n 0, 1), (31, .iconst 1, 1), (32, .if_icmp .ne 9, 3), (35, .aload_n 3, 1), (36, .iconst 0, 1), (37, .iaload, 1),
  (38, .goto 6, 3), (41, .aload_n 3, 1), (42, .iconst 1, 1), (43, .iaload, 1), (44, .ireturn, 1), (45, .iload_n 0, 1), (46, .aload_n 3, 1), (47, .invokestatic 94, 3),
  (50, .if_icmp .ge 9, 3), (53, .aload_n 1, 1), (54, .iload_n 0, 1), (55, .iconst 3, 1), (56, .isub, 1), (57, .iaload, 1), (58, .ireturn, 1), (59, .iconst 0, 1),
  (60, .istore 7, 2), (62, .iload 7, 2), (64, .aload_n 3, 1), (65, .iconst 0, 1), (66, .iaload, 1), (67, .if_icmp .ge 18, 3), (70, .iload 5, 2), (72, .aload_n 1, 1),
  (73, .iload 7, 2), (75, .iaload, 1), (76, .iadd, 1), (77, .istore 5, 2), (79, .iinc 7 1, 3), (82, .goto (-20), 3), (85, .iconst 0, 1), (86, .istore 7, 2),
  (88, .iload 7, 2), (90, .aload_n 3, 1), (91, .iconst 1, 1), (92, .iaload, 1), (93, .if_icmp .ge 117, 3), (96, .iload 7, 2), (98, .aload_n 2, 1), (99, .aload_n 3, 1),
  (100, .invokestatic 111, 3), (103, .istore 8, 2), (105, .iload_n 0, 1), (106, .iload 8, 2), (108, .if_icmp .lt 48, 3), (111, .iload_n 0, 1), (112, .iload 8, 2), (114, .aload_n 2, 1),
  (115, .bipush 56, 2), (117, .iload 7, 2), (119, .iadd, 1), (120, .iaload, 1), (121, .iadd, 1), (122, .if_icmp .gt 34, 3), (125, .iload_n 0, 1), (126, .iload 8, 2),
  (128, .if_icmp .ne 13, 3), (131, .aload_n 2, 1), (132, .bipush 56, 2), (134, .iload 7, 2), (136, .iadd, 1), (137, .iaload, 1), (138, .goto 17, 3), (141, .aload_n 2, 1),
  (142, .bipush 8, 2), (144, .iload 7, 2), (146, .imul, 1), (147, .iload_n 0, 1), (148, .iadd, 1), (149, .iload 8, 2), (151, .isub, 1), (152, .iconst 1, 1),
  (153, .isub, 1), (154, .iaload, 1), (155, .ireturn, 1), (156, .iload 6, 2), (158, .aload_n 2, 1), (159, .bipush 56, 2), (161, .iload 7, 2), (163, .iadd, 1),
  (164, .iaload, 1), (165, .ixor, 1), (166, .istore 6, 2), (168, .iconst 0, 1), (169, .istore 9, 2), (171, .iload 9, 2), (173, .aload_n 2, 1), (174, .bipush 56, 2),
  (176, .iload 7, 2), (178, .iadd, 1), (179, .iaload, 1), (180, .if_icmp .ge 24, 3), (183, .iload 6, 2), (185, .aload_n 2, 1), (186, .bipush 8, 2), (188, .iload 7, 2),
  (190, .imul, 1), (191, .iload 9, 2), (193, .iadd, 1), (194, .iaload, 1), (195, .ixor, 1), (196, .istore 6, 2), (198, .iinc 9 1, 3), (201, .goto (-30), 3),
  (204, .iinc 7 1, 3), (207, .goto (-119), 3), (210, .iload_n 0, 1), (211, .iload 4, 2), (213, .if_icmp .ne 12, 3), (216, .iload 5, 2), (218, .sipush 255, 3), (221, .iand, 1),
  (222, .goto 40, 3), (225, .iload_n 0, 1), (226, .iload 4, 2), (228, .iconst 1, 1), (229, .iadd, 1), (230, .if_icmp .ne 8, 3), (233, .iload 6, 2), (235, .goto 27, 3),
  (238, .iload_n 0, 1), (239, .iload 4, 2), (241, .iconst 2, 1), (242, .iadd, 1), (243, .if_icmp .ne 9, 3), (246, .aload_n 3, 1), (247, .iconst 2, 1), (248, .iaload, 1),
  (249, .goto 13, 3), (252, .sipush 200, 3), (255, .iload_n 0, 1), (256, .iadd, 1), (257, .iload 4, 2), (259, .isub, 1), (260, .iconst 3, 1), (261, .isub, 1),
  (262, .ireturn, 1)]
def xm_112 : xrM := ((99, 4, ⟨"HexTemplatesLaw", "byteAt", "(I[I[I[I)I"⟩), (method_8_code, 10, (some FieldType.int)), [], xc_112)
-- 113: HexTemplates.chosen()I
def xc_113 : xrC := [(0, .aload_n 0, 1), (1, .invokevirtual 133, 3), (4, .aload_n 0, 1), (5, .getfield 523, 3), (8, .ireturn, 1)]
def xm_113 : xrM := ((8, 0, ⟨"HexTemplates", "chosen", "()I"⟩), (prog_1_method_10_code, 1, (some FieldType.int)), [], xc_113)
-- 114: HexTemplates.fault(IZ)I
def xc_114 : xrC := [(0, .iload_n 1, 1), (1, .ifCond .lt 11, 3), (4, .iload_n 1, 1), (5, .aload_n 0, 1), (6, .getfield 522, 3), (9, .if_icmp .lt 13, 3), (12, .multianewarray 2 0, 3), (22, .aload_n 0, 1),
  (23, .getfield 518, 3), (26, .aload_n 0, 1), (27, .getfield 515, 3), (30, .iload_n 1, 1), (31, .aaload, 1), (32, .aload_n 0, 1), (33, .getfield 513, 3), (36, .iconst 0, 1),
  (37, .iconst 0, 1), (38, .invokevirtual 56, 3), (41, .pop, 1), (42, .iload_n 2, 1), (43, .ifCond .eq 13, 3), (46, .aload_n 0, 1), (47, .getfield 518, 3), (50, .getfield 326, 3),
  (53, .goto 10, 3), (56, .aload_n 0, 1), (57, .getfield 518, 3), (60, .getfield 325, 3), (63, .ireturn, 1)]
def xm_114 : xrM := ((8, 2, ⟨"HexTemplates", "fault", "(IZ)I"⟩), (prog_1_method_11_code, 3, (some FieldType.int)), [], xc_114)
-- 115: HexTemplates.nodes()I
def xc_115 : xrC := [(0, .aload_n 0, 1), (1, .invokevirtual 133, 3), (4, .aload_n 0, 1), (5, .getfield 517, 3), (8, .getfield 320, 3), (11, .getfield 199, 3), (14, .ireturn, 1)]
def xm_115 : xrM := ((8, 0, ⟨"HexTemplates", "nodes", "()I"⟩), (prog_1_method_12_code, 1, (some FieldType.int)), [], xc_115)
-- 116: HexTemplates.node(II)I
def xc_116 : xrC := [(0, .aload_n 0, 1), (1, .iload_n 1, 1), (2, .invokevirtual 135, 3), (5, .iload_n 2, 1), (6, .ifCond .lt 9, 3), (9, .iload_n 2, 1), (10, .bipush 6, 2), (12, .if_icmp .le 13, 3),
  (15, .multianewarray 0 0, 3), (25, .aload_n 0, 1), (26, .getfield 517, 3), (29, .getfield 320, 3), (32, .astore_n 3, 1), (33, .iload_n 2, 1), (34, .tableswitch 80 0 5 #[38, 45, 52, 59, 66, 73], 38), (72, .aload_n 3, 1),
  (73, .getfield 192, 3), (76, .iload_n 1, 1), (77, .iaload, 1), (78, .ireturn, 1), (79, .aload_n 3, 1), (80, .getfield 193, 3), (83, .iload_n 1, 1), (84, .iaload, 1),
  (85, .ireturn, 1), (86, .aload_n 3, 1), (87, .getfield 194, 3), (90, .iload_n 1, 1), (91, .iaload, 1), (92, .ireturn, 1), (93, .aload_n 3, 1), (94, .getfield 195, 3),
  (97, .iload_n 1, 1), (98, .iaload, 1), (99, .ireturn, 1), (100, .aload_n 3, 1), (101, .getfield 196, 3), (104, .iload_n 1, 1), (105, .iaload, 1), (106, .ireturn, 1),
  (107, .aload_n 3, 1), (108, .getfield 197, 3), (111, .iload_n 1, 1), (112, .iaload, 1), (113, .ireturn, 1), (114, .aload_n 0, 1), (115, .getfield 517, 3), (118, .iload_n 1, 1),
  (119, .invokevirtual 79, 3), (122, .ifCond .eq 7, 3), (125, .iconst 1, 1), (126, .goto 4, 3), (129, .iconst 0, 1), (130, .ireturn, 1)]
def xm_116 : xrM := ((8, 2, ⟨"HexTemplates", "node", "(II)I"⟩), (prog_1_method_13_code, 4, (some FieldType.int)), [], xc_116)
-- 117: HexTemplates.wrong()I
def xc_117 : xrC := [(0, .aload_n 0, 1), (1, .invokevirtual 133, 3), (4, .aload_n 0, 1), (5, .getfield 517, 3), (8, .invokevirtual 80, 3), (11, .ireturn, 1)]
def xm_117 : xrM := ((8, 0, ⟨"HexTemplates", "wrong", "()I"⟩), (prog_1_method_14_code, 1, (some FieldType.int)), [], xc_117)
-- 118: HexTemplates.wrongByAll()I
def xc_118 : xrC := [(0, .aload_n 0, 1), (1, .invokevirtual 133, 3), (4, .aload_n 0, 1), (5, .getfield 518, 3), (8, .aload_n 0, 1), (9, .invokevirtual 132, 3), (12, .aload_n 0, 1), (13, .getfield 513, 3),
  (16, .iconst 0, 1), (17, .iconst 0, 1), (18, .invokevirtual 56, 3), (21, .ifCond .eq 13, 3), (24, .aload_n 0, 1), (25, .getfield 518, 3), (28, .getfield 327, 3), (31, .goto 4, 3),
  (34, .iconst 0, 1), (35, .ireturn, 1)]
def xm_118 : xrM := ((8, 0, ⟨"HexTemplates", "wrongByAll", "()I"⟩), (prog_1_method_15_code, 1, (some FieldType.int)), [], xc_118)
-- 119: HexTemplates.follow(I)I
def xc_119 : xrC := [(0, .aload_n 0, 1), (1, .iload_n 1, 1), (2, .invokevirtual 135, 3), (5, .aload_n 0, 1), (6, .iload_n 1, 1), (7, .invokevirtual 136, 3), (10, .aload_n 0, 1), (11, .invokevirtual 132, 3),
  (14, .astore_n 2, 1), (15, .aload_n 0, 1), (16, .getfield 517, 3), (19, .aload_n 0, 1), (20, .getfield 517, 3), (23, .getfield 320, 3), (26, .getfield 198, 3), (29, .iload_n 1, 1),
  (30, .iaload, 1), (31, .invokevirtual 82, 3), (34, .istore_n 3, 1), (35, .aload_n 0, 1), (36, .getfield 517, 3), (39, .getfield 320, 3), (42, .getfield 196, 3), (45, .iload_n 1, 1),
  (46, .iaload, 1), (47, .istore 4, 2), (49, .aload_n 0, 1), (50, .getfield 518, 3), (53, .aload_n 2, 1), (54, .aload_n 0, 1), (55, .getfield 513, 3), (58, .iload_n 3, 1),
  (59, .iload 4, 2), (61, .invokevirtual 56, 3), (64, .ifCond .eq 16, 3), (67, .aload_n 0, 1), (68, .getfield 518, 3), (71, .getfield 323, 3), (74, .iload 4, 2), (76, .isub, 1),
  (77, .goto 4, 3), (80, .iconst (-1), 1), (81, .ireturn, 1)]
def xm_119 : xrM := ((8, 1, ⟨"HexTemplates", "follow", "(I)I"⟩), (prog_1_method_16_code, 5, (some FieldType.int)), [], xc_119)
-- 120: HexTemplates.chain(I)I
def xc_120 : xrC := [(0, .aload_n 0, 1), (1, .iload_n 1, 1), (2, .invokevirtual 135, 3), (5, .aload_n 0, 1), (6, .iload_n 1, 1), (7, .invokevirtual 136, 3), (10, .aload_n 0, 1), (11, .invokevirtual 132, 3),
  (14, .astore_n 2, 1), (15, .aload_n 0, 1), (16, .getfield 517, 3), (19, .aload_n 0, 1), (20, .getfield 517, 3), (23, .getfield 320, 3), (26, .getfield 198, 3), (29, .iload_n 1, 1),
  (30, .iaload, 1), (31, .invokevirtual 82, 3), (34, .istore_n 3, 1), (35, .aload_n 0, 1), (36, .getfield 517, 3), (39, .getfield 320, 3), (42, .getfield 196, 3), (45, .iload_n 1, 1),
  (46, .iaload, 1), (47, .istore 4, 2), (49, .aload_n 0, 1), (50, .invokevirtual 141, 3), (53, .iconst 0, 1), (54, .istore 5, 2), (56, .iconst 0, 1), (57, .istore 6, 2),
  (59, .iload 6, 2), (61, .aload_n 0, 1), (62, .getfield 521, 3), (65, .arraylength, 1), (66, .if_icmp .ge 104, 3), (69, .aload_n 0, 1), (70, .iload_n 3, 1), (71, .iload 4, 2),
  (73, .invokevirtual 142, 3), (76, .ifCond .eq 6, 3), (79, .bipush (-2), 2), (81, .ireturn, 1), (82, .aload_n 0, 1), (83, .getfield 518, 3), (86, .aload_n 2, 1), (87, .aload_n 0, 1),
  (88, .getfield 513, 3), (91, .iload_n 3, 1), (92, .iload 4, 2), (94, .invokevirtual 56, 3), (97, .ifCond .ne 6, 3), (100, .iload 5, 2), (102, .ireturn, 1), (103, .iinc 5 1, 3),
  (106, .aload_n 0, 1), (107, .getfield 518, 3), (110, .getfield 320, 3), (113, .iconst 0, 1), (114, .invokevirtual 32, 3), (117, .istore 7, 2), (119, .iload 7, 2), (121, .iconst (-1), 1),
  (122, .if_icmp .ne 6, 3), (125, .iload 5, 2), (127, .ireturn, 1), (128, .aload_n 0, 1), (129, .getfield 518, 3), (132, .aload_n 0, 1), (133, .getfield 518, 3), (136, .getfield 320, 3),
  (139, .getfield 198, 3), (142, .iload 7, 2), (144, .iaload, 1), (145, .invokevirtual 82, 3), (148, .istore_n 3, 1), (149, .aload_n 0, 1), (150, .getfield 518, 3), (153, .getfield 320, 3),
  (156, .getfield 196, 3), (159, .iload 7, 2), (161, .iaload, 1), (162, .istore 4, 2), (164, .iinc 6 1, 3), (167, .goto (-108), 3), (170, .bipush (-2), 2), (172, .ireturn, 1)]
def xm_120 : xrM := ((8, 1, ⟨"HexTemplates", "chain", "(I)I"⟩), (prog_1_method_17_code, 8, (some FieldType.int)), [], xc_120)
-- 121: HexTemplates.find(III)I
def xc_121 : xrC := [(0, .iload_n 1, 1), (1, .ifCond .lt 32, 3), (4, .iload_n 1, 1), (5, .sipush 255, 3), (8, .if_icmp .gt 25, 3), (11, .iload_n 2, 1), (12, .ifCond .lt 21, 3), (15, .iload_n 2, 1),
  (16, .sipush 255, 3), (19, .if_icmp .gt 14, 3), (22, .iload_n 3, 1), (23, .ifCond .lt 10, 3), (26, .iload_n 3, 1), (27, .sipush 200, 3), (30, .if_icmp .le 13, 3), (33, .multianewarray 0 0, 3),
  (43, .iload_n 3, 1), (44, .istore 4, 2), (46, .iload 4, 2), (48, .aload_n 0, 1), (49, .getfield 513, 3), (52, .getfield 1, 3), (55, .if_icmp .ge 29, 3), (58, .aload_n 0, 1),
  (59, .getfield 513, 3), (62, .iload 4, 2), (64, .invokevirtual 2, 3), (67, .iload_n 2, 1), (68, .iand, 1), (69, .iload_n 1, 1), (70, .iload_n 2, 1), (71, .iand, 1),
  (72, .if_icmp .ne 6, 3), (75, .iload 4, 2), (77, .ireturn, 1), (78, .iinc 4 1, 3), (81, .goto (-35), 3), (84, .iconst (-1), 1), (85, .ireturn, 1)]
def xm_121 : xrM := ((8, 3, ⟨"HexTemplates", "find", "(III)I"⟩), (prog_1_method_18_code, 5, (some FieldType.int)), [], xc_121)
-- 122: HexTemplates.findField(III)I
def xc_122 : xrC := [(0, .iload_n 1, 1), (1, .ifCond .lt 30, 3), (4, .iload_n 1, 1), (5, .bipush 26, 2), (7, .if_icmp .ge 24, 3), (10, .iload_n 2, 1), (11, .ifCond .lt 20, 3), (14, .iload_n 2, 1),
  (15, .jsr_w 65535, 2), (17, .if_icmp .gt 14, 3), (20, .iload_n 3, 1), (21, .ifCond .lt 10, 3), (24, .iload_n 3, 1), (25, .sipush 200, 3), (28, .if_icmp .le 13, 3), (31, .multianewarray 0 0, 3),
  (41, .aload_n 0, 1), (42, .invokevirtual 133, 3), (45, .aload_n 0, 1), (46, .getfield 517, 3), (49, .getfield 320, 3), (52, .astore 4, 2), (54, .iload_n 3, 1), (55, .istore 5, 2),
  (57, .iload 5, 2), (59, .aload 4, 2), (61, .getfield 199, 3), (64, .if_icmp .ge 46, 3), (67, .aload 4, 2), (69, .iload 5, 2), (71, .invokevirtual 30, 3), (74, .ifCond .eq 30, 3),
  (77, .aload 4, 2), (79, .getfield 193, 3), (82, .iload 5, 2), (84, .iaload, 1), (85, .iload_n 1, 1), (86, .if_icmp .ne 18, 3), (89, .aload 4, 2), (91, .getfield 196, 3),
  (94, .iload 5, 2), (96, .iaload, 1), (97, .iload_n 2, 1), (98, .if_icmp .ne 6, 3), (101, .iload 5, 2), (103, .ireturn, 1), (104, .iinc 5 1, 3), (107, .goto (-50), 3),
  (110, .iconst (-1), 1), (111, .ireturn, 1)]
def xm_122 : xrM := ((8, 3, ⟨"HexTemplates", "findField", "(III)I"⟩), (prog_1_method_19_code, 6, (some FieldType.int)), [], xc_122)
-- 123: HexTemplates.set(II)I
def xc_123 : xrC := [(0, .aload_n 0, 1), (1, .iload_n 1, 1), (2, .invokevirtual 135, 3), (5, .aload_n 0, 1), (6, .iload_n 1, 1), (7, .invokevirtual 139, 3), (10, .ifCond .eq 19, 3), (13, .iload_n 2, 1),
  (14, .ifCond .lt 15, 3), (17, .iload_n 2, 1), (18, .aload_n 0, 1), (19, .getfield 517, 3), (22, .iload_n 1, 1), (23, .invokevirtual 83, 3), (26, .if_icmp .le 13, 3), (29, .multianewarray 1 0, 3),
  (39, .aload_n 0, 1), (40, .getfield 519, 3), (43, .aload_n 0, 1), (44, .getfield 513, 3), (47, .invokevirtual 10, 3), (50, .aload_n 0, 1), (51, .getfield 519, 3), (54, .aload_n 0, 1),
  (55, .getfield 517, 3), (58, .iload_n 1, 1), (59, .iload_n 2, 1), (60, .invokevirtual 11, 3), (63, .aload_n 0, 1), (64, .invokevirtual 140, 3), (67, .ireturn, 1)]
def xm_123 : xrM := ((8, 2, ⟨"HexTemplates", "set", "(II)I"⟩), (prog_1_method_20_code, 3, (some FieldType.int)), [], xc_123)
-- 124: HexTemplates.insert(III)I
def xc_124 : xrC := [(0, .aload_n 0, 1), (1, .iload_n 1, 1), (2, .invokevirtual 135, 3), (5, .iload_n 3, 1), (6, .ifCond .lt 10, 3), (9, .iload_n 3, 1), (10, .sipush 255, 3), (13, .if_icmp .le 13, 3),
  (16, .multianewarray 0 0, 3), (26, .aload_n 0, 1), (27, .iload_n 2, 1), (28, .aload_n 0, 1), (29, .getfield 517, 3), (32, .iload_n 1, 1), (33, .invokevirtual 86, 3), (36, .invokevirtual 137, 3),
  (39, .iload_n 3, 1), (40, .ifCond .ne 25, 3), (43, .aload_n 0, 1), (44, .getfield 517, 3), (47, .iload_n 1, 1), (48, .invokevirtual 85, 3), (51, .ifCond .eq 14, 3), (54, .multianewarray 1 1, 3),
  (65, .aload_n 0, 1), (66, .getfield 517, 3), (69, .getfield 320, 3), (72, .getfield 194, 3), (75, .iload_n 1, 1), (76, .iaload, 1), (77, .iload_n 2, 1), (78, .iadd, 1),
  (79, .istore 4, 2), (81, .aload_n 0, 1), (82, .getfield 519, 3), (85, .aload_n 0, 1), (86, .getfield 513, 3), (89, .invokevirtual 10, 3), (92, .aload_n 0, 1), (93, .getfield 519, 3),
  (96, .aload_n 0, 1), (97, .getfield 517, 3), (100, .iload_n 1, 1), (101, .iload 4, 2), (103, .iconst 1, 1), (104, .invokevirtual 12, 3), (107, .istore 5, 2), (109, .aload_n 0, 1),
  (110, .getfield 519, 3), (113, .getfield 64, 3), (116, .iload 4, 2), (118, .iload_n 3, 1), (119, .invokevirtual 3, 3), (122, .aload_n 0, 1), (123, .iload 5, 2), (125, .invokevirtual 138, 3),
  (128, .aload_n 0, 1), (129, .invokevirtual 140, 3), (132, .ireturn, 1)]
def xm_124 : xrM := ((8, 3, ⟨"HexTemplates", "insert", "(III)I"⟩), (prog_1_method_21_code, 6, (some FieldType.int)), [], xc_124)
-- 125: HexTemplates.remove(II)I
def xc_125 : xrC := [(0, .aload_n 0, 1), (1, .iload_n 1, 1), (2, .invokevirtual 135, 3), (5, .aload_n 0, 1), (6, .iload_n 2, 1), (7, .aload_n 0, 1), (8, .getfield 517, 3), (11, .iload_n 1, 1),
  (12, .invokevirtual 86, 3), (15, .iconst 1, 1), (16, .isub, 1), (17, .invokevirtual 137, 3), (20, .aload_n 0, 1), (21, .getfield 519, 3), (24, .aload_n 0, 1), (25, .getfield 513, 3),
  (28, .invokevirtual 10, 3), (31, .aload_n 0, 1), (32, .getfield 519, 3), (35, .aload_n 0, 1), (36, .getfield 517, 3), (39, .iload_n 1, 1), (40, .aload_n 0, 1), (41, .getfield 517, 3),
  (44, .getfield 320, 3), (47, .getfield 194, 3), (50, .iload_n 1, 1), (51, .iaload, 1), (52, .iload_n 2, 1), (53, .iadd, 1), (54, .iconst 1, 1), (55, .invokevirtual 13, 3),
  (58, .aload_n 0, 1), (59, .invokevirtual 140, 3), (62, .ireturn, 1)]
def xm_125 : xrM := ((8, 2, ⟨"HexTemplates", "remove", "(II)I"⟩), (prog_1_method_22_code, 3, (some FieldType.int)), [], xc_125)
-- 126: HexTemplates.element(IIZ)I
def xc_126 : xrC := [(0, .aload_n 0, 1), (1, .iload_n 1, 1), (2, .invokevirtual 135, 3), (5, .aload_n 0, 1), (6, .getfield 517, 3), (9, .getfield 320, 3), (12, .iload_n 1, 1), (13, .iload_n 2, 1),
  (14, .invokevirtual 33, 3), (17, .istore 4, 2), (19, .aload_n 0, 1), (20, .iload 4, 2), (22, .iconst (-1), 1), (23, .if_icmp .eq 7, 3), (26, .iconst 1, 1), (27, .goto 4, 3),
  (30, .iconst 0, 1), (31, .invokevirtual 138, 3), (34, .aload_n 0, 1), (35, .getfield 517, 3), (38, .getfield 320, 3), (41, .getfield 194, 3), (44, .iload 4, 2), (46, .iaload, 1),
  (47, .istore 5, 2), (49, .aload_n 0, 1), (50, .getfield 517, 3), (53, .getfield 320, 3), (56, .getfield 195, 3), (59, .iload 4, 2), (61, .iaload, 1), (62, .istore 6, 2),
  (64, .aload_n 0, 1), (65, .getfield 519, 3), (68, .aload_n 0, 1), (69, .getfield 513, 3), (72, .invokevirtual 10, 3), (75, .iload_n 3, 1), (76, .ifCond .eq 47, 3), (79, .aload_n 0, 1),
  (80, .getfield 519, 3), (83, .aload_n 0, 1), (84, .getfield 517, 3), (87, .iload_n 1, 1), (88, .iload 5, 2), (90, .iload 6, 2), (92, .iadd, 1), (93, .iload 6, 2),
  (95, .invokevirtual 12, 3), (98, .istore 7, 2), (100, .aload_n 0, 1), (101, .iload 7, 2), (103, .invokevirtual 138, 3), (106, .aload_n 0, 1), (107, .getfield 519, 3), (110, .getfield 64, 3),
  (113, .iload 5, 2), (115, .iload 6, 2), (117, .invokevirtual 8, 3), (120, .goto 19, 3), (123, .aload_n 0, 1), (124, .getfield 519, 3), (127, .aload_n 0, 1), (128, .getfield 517, 3),
  (131, .iload_n 1, 1), (132, .iload 5, 2), (134, .iload 6, 2), (136, .invokevirtual 13, 3), (139, .aload_n 0, 1), (140, .invokevirtual 140, 3), (143, .ireturn, 1)]
def xm_126 : xrM := ((8, 3, ⟨"HexTemplates", "element", "(IIZ)I"⟩), (prog_1_method_23_code, 8, (some FieldType.int)), [], xc_126)
-- 127: HexTemplates.repair()I
def xc_127 : xrC := [(0, .aload_n 0, 1), (1, .invokevirtual 133, 3), (4, .aload_n 0, 1), (5, .getfield 519, 3), (8, .aload_n 0, 1), (9, .getfield 513, 3), (12, .invokevirtual 10, 3), (15, .aload_n 0, 1),
  (16, .invokevirtual 140, 3), (19, .ireturn, 1)]
def xm_127 : xrM := ((8, 0, ⟨"HexTemplates", "repair", "()I"⟩), (prog_1_method_24_code, 1, (some FieldType.int)), [], xc_127)
-- 128: HexTemplatesLaw.node(LHexTemplates;IIIIIII)Z
def xc_128 : xrC := [(0, .aload_n 0, 1), (1, .iload_n 1, 1), (2, .iconst 0, 1), (3, .invokevirtual 116, 3), (6, .iload_n 2, 1), (7, .if_icmp .ne 72, 3), (10, .aload_n 0, 1), (11, .iload_n 1, 1),
  (12, .iconst 1, 1), (13, .invokevirtual 116, 3), (16, .iload_n 3, 1), (17, .if_icmp .ne 62, 3), (20, .aload_n 0, 1), (21, .iload_n 1, 1), (22, .iconst 2, 1), (23, .invokevirtual 116, 3),
  (26, .iload 4, 2), (28, .if_icmp .ne 51, 3), (31, .aload_n 0, 1), (32, .iload_n 1, 1), (33, .iconst 3, 1), (34, .invokevirtual 116, 3), (37, .iload 5, 2), (39, .if_icmp .ne 40, 3),
  (42, .aload_n 0, 1), (43, .iload_n 1, 1), (44, .iconst 4, 1), (45, .invokevirtual 116, 3), (48, .iload 6, 2), (50, .if_icmp .ne 29, 3), (53, .aload_n 0, 1), (54, .iload_n 1, 1),
  (55, .iconst 5, 1), (56, .invokevirtual 116, 3), (59, .iload 7, 2), (61, .if_icmp .ne 18, 3), (64, .aload_n 0, 1), (65, .iload_n 1, 1), (66, .bipush 6, 2), (68, .invokevirtual 116, 3),
  (71, .iconst 1, 1), (72, .if_icmp .ne 7, 3), (75, .iconst 1, 1), (76, .goto 4, 3), (79, .iconst 0, 1), (80, .ireturn, 1)]
def xm_128 : xrM := ((99, 8, ⟨"HexTemplatesLaw", "node", "(LHexTemplates;IIIIIII)Z"⟩), (method_9_code, 8, (some FieldType.boolean)), [], xc_128)
-- 129: HexTemplatesLaw.same(LHexTemplates;I[I[I[I)Z
def xc_129 : xrC := [(0, .aload 4, 2), (2, .iconst 1, 1), (3, .iaload, 1), (4, .aload_n 3, 1), (5, .aload 4, 2), (7, .invokestatic 111, 3), (10, .istore 5, 2), (12, .iload 5, 2),
  (14, .iconst 5, 1), (15, .iadd, 1), (16, .istore 6, 2), (18, .aload_n 0, 1), (19, .invokevirtual 108, 3), (22, .iload 6, 2), (24, .if_icmp .ne 74, 3), (27, .aload_n 0, 1),
  (28, .invokevirtual 110, 3), (31, .aload 4, 2), (33, .iconst 3, 1), (34, .iaload, 1), (35, .if_icmp .ne 63, 3), (38, .aload_n 0, 1), (39, .invokevirtual 113, 3), (42, .ifCond .ne 56, 3),
  (45, .aload_n 0, 1), (46, .iconst 0, 1), (47, .iconst 0, 1), (48, .invokevirtual 114, 3), (51, .ifCond .ne 47, 3), (54, .aload_n 0, 1), (55, .iconst 0, 1), (56, .iconst 1, 1),
  (57, .invokevirtual 114, 3), (60, .iconst (-1), 1), (61, .if_icmp .ne 37, 3), (64, .aload_n 0, 1), (65, .invokevirtual 117, 3), (68, .ifCond .ne 30, 3), (71, .aload_n 0, 1), (72, .invokevirtual 118, 3),
  (75, .ifCond .ne 23, 3), (78, .aload_n 0, 1), (79, .invokevirtual 115, 3), (82, .bipush 9, 2), (84, .iconst 3, 1), (85, .aload 4, 2), (87, .iconst 1, 1), (88, .iaload, 1),
  (89, .imul, 1), (90, .iadd, 1), (91, .if_icmp .ne 7, 3), (94, .iconst 1, 1), (95, .goto 4, 3), (98, .iconst 0, 1), (99, .istore 7, 2), (101, .iconst 0, 1),
  (102, .istore 8, 2), (104, .iload 8, 2), (106, .iload 6, 2), (108, .if_icmp .ge 39, 3), (111, .iload 7, 2), (113, .ifCond .eq 34, 3), (116, .aload_n 0, 1), (117, .iload 8, 2),
  (119, .invokevirtual 109, 3), (122, .iload 8, 2), (124, .aload_n 2, 1), (125, .aload_n 3, 1), (126, .aload 4, 2), (128, .invokestatic 112, 3), (131, .if_icmp .ne 7, 3), (134, .iconst 1, 1),
  (135, .goto 4, 3), (138, .iconst 0, 1), (139, .istore 7, 2), (141, .iinc 8 1, 3), (144, .goto (-40), 3), (147, .bipush 6, 2), (149, .iconst 3, 1), (150, .aload 4, 2),
  (152, .iconst 1, 1), (153, .iaload, 1), (154, .imul, 1), (155, .iadd, 1), (156, .istore 8, 2), (158, .iload 7, 2), (160, .ifCond .eq 215, 3), (163, .aload_n 0, 1),
  (164, .iconst 0, 1), (165, .iconst 0, 1), (166, .iconst 0, 1), (167, .iconst 0, 1), (168, .iload 5, 2), (170, .iconst 3, 1), (171, .iadd, 1), (172, .iconst 0, 1),
  (173, .iconst (-1), 1), (174, .invokestatic 128, 3), (177, .ifCond .eq 198, 3), (180, .aload_n 0, 1), (181, .iconst 1, 1), (182, .iconst 2, 1), (183, .bipush 12, 2), (185, .iconst 0, 1),
  (186, .iconst 1, 1), (187, .bipush 77, 2), (189, .iconst 0, 1), (190, .invokestatic 128, 3), (193, .ifCond .eq 182, 3), (196, .aload_n 0, 1), (197, .iconst 2, 1), (198, .iconst 2, 1),
  (199, .bipush 11, 2), (201, .iconst 1, 1), (202, .iconst 1, 1), (203, .aload 4, 2), (205, .iconst 0, 1), (206, .iaload, 1), (207, .iconst 0, 1), (208, .invokestatic 128, 3),
  (211, .ifCond .eq 164, 3), (214, .aload_n 0, 1), (215, .iconst 3, 1), (216, .iconst 2, 1), (217, .bipush 13, 2), (219, .iconst 2, 1), (220, .iconst 1, 1), (221, .aload 4, 2),
  (223, .iconst 1, 1), (224, .iaload, 1), (225, .iconst 0, 1), (226, .invokestatic 128, 3), (229, .ifCond .eq 146, 3), (232, .aload_n 0, 1), (233, .iconst 4, 1), (234, .iconst 5, 1),
  (235, .iconst 3, 1), (236, .iconst 3, 1), (237, .aload 4, 2), (239, .iconst 0, 1), (240, .iaload, 1), (241, .aload 4, 2), (243, .iconst 0, 1), (244, .iaload, 1),
  (245, .ifCond .ne 7, 3), (248, .iconst (-1), 1), (249, .goto 6, 3), (252, .aload_n 2, 1), (253, .iconst 0, 1), (254, .iaload, 1), (255, .iconst 0, 1), (256, .invokestatic 128, 3),
  (259, .ifCond .eq 116, 3), (262, .aload_n 0, 1), (263, .iconst 5, 1), (264, .iconst 1, 1), (265, .iconst 4, 1), (266, .iconst 3, 1), (267, .aload 4, 2), (269, .iconst 0, 1),
  (270, .iaload, 1), (271, .iadd, 1), (272, .iload 5, 2), (274, .iconst 3, 1), (275, .isub, 1), (276, .aload 4, 2), (278, .iconst 0, 1), (279, .iaload, 1),
  (280, .isub, 1), (281, .aload 4, 2), (283, .iconst 1, 1), (284, .iaload, 1), (285, .iconst 0, 1), (286, .invokestatic 128, 3), (289, .ifCond .eq 86, 3), (292, .aload_n 0, 1),
  (293, .iload 8, 2), (295, .iconst 2, 1), (296, .iconst 2, 1), (297, .iload 5, 2), (299, .iconst 1, 1), (300, .iload 5, 2), (302, .aload_n 2, 1), (303, .aload_n 3, 1),
  (304, .aload 4, 2), (306, .invokestatic 112, 3), (309, .iconst 0, 1), (310, .invokestatic 128, 3), (313, .ifCond .eq 62, 3), (316, .aload_n 0, 1), (317, .iload 8, 2), (319, .iconst 1, 1),
  (320, .iadd, 1), (321, .iconst 2, 1), (322, .bipush 23, 2), (324, .iload 5, 2), (326, .iconst 1, 1), (327, .iadd, 1), (328, .iconst 1, 1), (329, .iload 5, 2),
  (331, .iconst 1, 1), (332, .iadd, 1), (333, .aload_n 2, 1), (334, .aload_n 3, 1), (335, .aload 4, 2), (337, .invokestatic 112, 3), (340, .iconst 0, 1), (341, .invokestatic 128, 3),
  (344, .ifCond .eq 31, 3), (347, .aload_n 0, 1), (348, .iload 8, 2), (350, .iconst 2, 1), (351, .iadd, 1), (352, .iconst 3, 1), (353, .bipush 17, 2), (355, .iload 5, 2),
  (357, .iconst 2, 1), (358, .iadd, 1), (359, .iconst 1, 1), (360, .aload 4, 2), (362, .iconst 2, 1), (363, .iaload, 1), (364, .iconst 0, 1), (365, .invokestatic 128, 3),
  (368, .ifCond .eq 7, 3), (371, .iconst 1, 1), (372, .goto 4, 3), (375, .iconst 0, 1), (376, .istore 7, 2), (378, .iconst 0, 1), (379, .istore 9, 2), (381, .iload 9, 2),
  (383, .aload 4, 2), (385, .iconst 1, 1), (386, .iaload, 1), (387, .if_icmp .ge 139, 3), (390, .iload 7, 2), (392, .ifCond .eq 134, 3), (395, .iload 9, 2), (397, .aload_n 3, 1),
  (398, .aload 4, 2), (400, .invokestatic 111, 3), (403, .istore 10, 2), (405, .aload_n 3, 1), (406, .bipush 56, 2), (408, .iload 9, 2), (410, .iadd, 1), (411, .iaload, 1),
  (412, .istore 11, 2), (414, .aload_n 0, 1), (415, .bipush 6, 2), (417, .iconst 3, 1), (418, .iload 9, 2), (420, .imul, 1), (421, .iadd, 1), (422, .iconst 0, 1),
  (423, .iconst 1, 1), (424, .iload 10, 2), (426, .iconst 1, 1), (427, .iload 11, 2), (429, .iadd, 1), (430, .iconst 1, 1), (431, .iconst 5, 1), (432, .invokestatic 128, 3),
  (435, .ifCond .eq 82, 3), (438, .aload_n 0, 1), (439, .bipush 7, 2), (441, .iconst 3, 1), (442, .iload 9, 2), (444, .imul, 1), (445, .iadd, 1), (446, .iconst 2, 1),
  (447, .bipush 19, 2), (449, .iload 10, 2), (451, .iconst 1, 1), (452, .iload 11, 2), (454, .bipush 6, 2), (456, .iconst 3, 1), (457, .iload 9, 2), (459, .imul, 1),
  (460, .iadd, 1), (461, .invokestatic 128, 3), (464, .ifCond .eq 53, 3), (467, .aload_n 0, 1), (468, .bipush 8, 2), (470, .iconst 3, 1), (471, .iload 9, 2), (473, .imul, 1),
  (474, .iadd, 1), (475, .iconst 5, 1), (476, .bipush 21, 2), (478, .iload 10, 2), (480, .iconst 1, 1), (481, .iadd, 1), (482, .iload 11, 2), (484, .iload 11, 2),
  (486, .ifCond .ne 7, 3), (489, .iconst (-1), 1), (490, .goto 10, 3), (493, .aload_n 3, 1), (494, .bipush 8, 2), (496, .iload 9, 2), (498, .imul, 1), (499, .iaload, 1),
  (500, .bipush 6, 2), (502, .iconst 3, 1), (503, .iload 9, 2), (505, .imul, 1), (506, .iadd, 1), (507, .invokestatic 128, 3), (510, .ifCond .eq 7, 3), (513, .iconst 1, 1),
  (514, .goto 4, 3), (517, .iconst 0, 1), (518, .istore 7, 2), (520, .iinc 9 1, 3), (523, .goto (-142), 3), (526, .aload 4, 2), (528, .iconst 2, 1), (529, .iaload, 1),
  (530, .iload 6, 2), (532, .if_icmp .ge 17, 3), (535, .aload 4, 2), (537, .iconst 2, 1), (538, .iaload, 1), (539, .aload_n 2, 1), (540, .aload_n 3, 1), (541, .aload 4, 2),
  (543, .invokestatic 112, 3), (546, .goto 6, 3), (549, .sipush 999, 3), (552, .istore 9, 2), (554, .aload 4, 2), (556, .iconst 2, 1), (557, .iaload, 1), (558, .iload 6, 2),
  (560, .if_icmp .ge 19, 3), (563, .aload 4, 2), (565, .iconst 2, 1), (566, .iaload, 1), (567, .iload 9, 2), (569, .iadd, 1), (570, .iload 6, 2), (572, .if_icmp .ge 7, 3),
  (575, .iconst 1, 1), (576, .goto 4, 3), (579, .iconst 0, 1), (580, .istore 10, 2), (582, .iload 7, 2), (584, .ifCond .eq 52, 3), (587, .aload_n 0, 1), (588, .iload 8, 2),
  (590, .iconst 2, 1), (591, .iadd, 1), (592, .invokevirtual 119, 3), (595, .iload 10, 2), (597, .ifCond .eq 10, 3), (600, .iconst 1, 1), (601, .iload 9, 2), (603, .iadd, 1),
  (604, .goto 4, 3), (607, .iconst (-1), 1), (608, .if_icmp .ne 28, 3), (611, .aload_n 0, 1), (612, .iload 8, 2), (614, .iconst 2, 1), (615, .iadd, 1), (616, .invokevirtual 120, 3),
  (619, .iload 10, 2), (621, .ifCond .eq 7, 3), (624, .iconst 1, 1), (625, .goto 4, 3), (628, .iconst 0, 1), (629, .if_icmp .ne 7, 3), (632, .iconst 1, 1), (633, .goto 4, 3),
  (636, .iconst 0, 1), (637, .istore 7, 2), (639, .iload_n 1, 1), (640, .sipush 256, 3), (643, .invokestatic 90, 3), (646, .istore 11, 2), (648, .iload_n 1, 1), (649, .bipush 8, 2),
  (651, .ishr, 1), (652, .sipush 256, 3), (655, .invokestatic 90, 3), (658, .istore 12, 2), (660, .iload_n 1, 1), (661, .iconst 4, 1), (662, .ishr, 1), (663, .bipush 60, 2),
  (665, .invokestatic 90, 3), (668, .istore 13, 2), (670, .iconst (-1), 1), (671, .istore 14, 2), (673, .iload 6, 2), (675, .iconst 1, 1), (676, .isub, 1), (677, .istore 15, 2),
  (679, .iload 15, 2), (681, .iload 13, 2), (683, .if_icmp .lt 38, 3), (686, .iload 15, 2), (688, .aload_n 2, 1), (689, .aload_n 3, 1), (690, .aload 4, 2), (692, .invokestatic 112, 3),
  (695, .iload 12, 2), (697, .iand, 1), (698, .iload 11, 2), (700, .iload 12, 2), (702, .iand, 1), (703, .if_icmp .ne 8, 3), (706, .iload 15, 2), (708, .goto 5, 3),
  (711, .iload 14, 2), (713, .istore 14, 2), (715, .iinc 15 (-1), 3), (718, .goto (-39), 3), (721, .iload 7, 2), (723, .ifCond .eq 40, 3), (726, .aload_n 0, 1), (727, .iload 11, 2),
  (729, .iload 12, 2), (731, .iload 13, 2), (733, .invokevirtual 121, 3), (736, .iload 14, 2), (738, .if_icmp .ne 25, 3), (741, .aload_n 0, 1), (742, .bipush 17, 2), (744, .aload 4, 2),
  (746, .iconst 2, 1), (747, .iaload, 1), (748, .iconst 0, 1), (749, .invokevirtual 122, 3), (752, .iload 8, 2), (754, .iconst 2, 1), (755, .iadd, 1), (756, .if_icmp .ne 7, 3),
  (759, .iconst 1, 1), (760, .goto 4, 3), (763, .iconst 0, 1), (764, .ireturn, 1)]
def xm_129 : xrM := ((99, 5, ⟨"HexTemplatesLaw", "same", "(LHexTemplates;I[I[I[I)Z"⟩), (method_10_code, 16, (some FieldType.boolean)), [], xc_129)
-- 130: HexTemplates.nextTemplate()LHexTemplates$Template;
def xc_130 : xrC := [(0, .aload_n 0, 1), (1, .getfield 522, 3), (4, .iconst 4, 1), (5, .if_icmp .lt 5, 3), (8, .aconst_null, 1), (9, .areturn, 1), (10, .aload_n 0, 1), (11, .getfield 515, 3),
  (14, .aload_n 0, 1), (15, .getfield 522, 3), (18, .aaload, 1), (19, .ifnonnull 19, 3), (22, .aload_n 0, 1), (23, .getfield 515, 3), (26, .aload_n 0, 1), (27, .getfield 522, 3),
  (30, .new 7, 3), (33, .dup, 1), (34, .invokespecial 95, 3), (37, .aastore, 1), (38, .aload_n 0, 1), (39, .getfield 515, 3), (42, .aload_n 0, 1), (43, .getfield 522, 3),
  (46, .aaload, 1), (47, .areturn, 1)]
def xm_130 : xrM := ((8, 0, ⟨"HexTemplates", "nextTemplate", "()LHexTemplates$Template;"⟩), (prog_1_method_27_code, 1, (some (FieldType.object "HexTemplates$Template"))), [], xc_130)
-- 131: HexTemplates.keepFile()I
def xc_131 : xrC := [(0, .aload_n 0, 1), (1, .bipush (-3), 2), (3, .putfield 523, 3), (6, .aload_n 0, 1), (7, .getfield 516, 3), (10, .aload_n 0, 1), (11, .getfield 513, 3), (14, .invokevirtual 93, 3),
  (17, .ireturn, 1)]
def xm_131 : xrM := ((8, 0, ⟨"HexTemplates", "keepFile", "()I"⟩), (prog_1_method_28_code, 1, (some FieldType.int)), [], xc_131)
-- 132: HexTemplates.chosenTemplate()LHexTemplates$Template;
def xc_132 : xrC := [(0, .aload_n 0, 1), (1, .getfield 523, 3), (4, .ifCond .lt 26, 3), (7, .aload_n 0, 1), (8, .getfield 523, 3), (11, .aload_n 0, 1), (12, .getfield 522, 3), (15, .if_icmp .ge 15, 3),
  (18, .aload_n 0, 1), (19, .getfield 515, 3), (22, .aload_n 0, 1), (23, .getfield 523, 3), (26, .aaload, 1), (27, .goto 4, 3), (30, .aconst_null, 1), (31, .areturn, 1)]
def xm_132 : xrM := ((8, 0, ⟨"HexTemplates", "chosenTemplate", "()LHexTemplates$Template;"⟩), (prog_1_method_29_code, 1, (some (FieldType.object "HexTemplates$Template"))), [], xc_132)
-- 133: HexTemplates.readFile()V
def xc_133 : xrC := [(0, .aload_n 0, 1), (1, .getfield 523, 3), (4, .bipush (-3), 2), (6, .if_icmp .eq 4, 3), (9, .return_, 1), (10, .aload_n 0, 1), (11, .iconst (-1), 1), (12, .putfield 523, 3),
  (15, .iconst (-1), 1), (16, .istore_n 1, 1), (17, .iconst 0, 1), (18, .istore_n 2, 1), (19, .iload_n 2, 1), (20, .aload_n 0, 1), (21, .getfield 522, 3), (24, .if_icmp .ge 55, 3),
  (27, .aload_n 0, 1), (28, .getfield 515, 3), (31, .iload_n 2, 1), (32, .aaload, 1), (33, .astore_n 3, 1), (34, .aload_n 3, 1), (35, .ifnull 38, 3), (38, .aload_n 3, 1),
  (39, .getfield 448, 3), (42, .iload_n 1, 1), (43, .if_icmp .le 30, 3), (46, .aload_n 0, 1), (47, .getfield 517, 3), (50, .aload_n 3, 1), (51, .aload_n 0, 1), (52, .getfield 513, 3),
  (55, .iconst 0, 1), (56, .iconst 0, 1), (57, .invokevirtual 56, 3), (60, .ifCond .eq 13, 3), (63, .aload_n 0, 1), (64, .iload_n 2, 1), (65, .putfield 523, 3), (68, .aload_n 3, 1),
  (69, .getfield 448, 3), (72, .istore_n 1, 1), (73, .iinc 2 1, 3), (76, .goto (-57), 3), (79, .aload_n 0, 1), (80, .getfield 517, 3), (83, .aload_n 0, 1), (84, .invokevirtual 132, 3),
  (87, .aload_n 0, 1), (88, .getfield 513, 3), (91, .iconst 0, 1), (92, .iconst 0, 1), (93, .invokevirtual 56, 3), (96, .pop, 1), (97, .return_, 1)]
def xm_133 : xrM := ((8, 0, ⟨"HexTemplates", "readFile", "()V"⟩), (prog_1_method_30_code, 4, (none)), [], xc_133)
-- 134: HexTemplatesLaw.moved(IIZ[I)I
def xc_134 : xrC := [(0, .iload_n 2, 1), (1, .ifCond .eq 24, 3), (4, .aload_n 3, 1), (5, .iconst 2, 1), (6, .iaload, 1), (7, .iload_n 0, 1), (8, .if_icmp .lt 11, 3), (11, .aload_n 3, 1),
  (12, .iconst 2, 1), (13, .iaload, 1), (14, .iload_n 1, 1), (15, .iadd, 1), (16, .goto 40, 3), (19, .aload_n 3, 1), (20, .iconst 2, 1), (21, .iaload, 1),
  (22, .goto 34, 3), (25, .aload_n 3, 1), (26, .iconst 2, 1), (27, .iaload, 1), (28, .iload_n 0, 1), (29, .iload_n 1, 1), (30, .iadd, 1), (31, .if_icmp .lt 11, 3),
  (34, .aload_n 3, 1), (35, .iconst 2, 1), (36, .iaload, 1), (37, .iload_n 1, 1), (38, .isub, 1), (39, .goto 17, 3), (42, .aload_n 3, 1), (43, .iconst 2, 1),
  (44, .iaload, 1), (45, .iload_n 0, 1), (46, .if_icmp .le 7, 3), (49, .iload_n 0, 1), (50, .goto 6, 3), (53, .aload_n 3, 1), (54, .iconst 2, 1), (55, .iaload, 1),
  (56, .ireturn, 1)]
def xm_134 : xrM := ((99, 4, ⟨"HexTemplatesLaw", "moved", "(IIZ[I)I"⟩), (method_11_code, 4, (some FieldType.int)), [], xc_134)
-- 135: HexTemplates.checkNode(I)V
def xc_135 : xrC := [(0, .aload_n 0, 1), (1, .invokevirtual 133, 3), (4, .aload_n 0, 1), (5, .getfield 517, 3), (8, .getfield 320, 3), (11, .iload_n 1, 1), (12, .invokevirtual 27, 3), (15, .ifCond .ne 14, 3),
  (18, .multianewarray 2 1, 3), (29, .return_, 1)]
def xm_135 : xrM := ((8, 1, ⟨"HexTemplates", "checkNode", "(I)V"⟩), (prog_1_method_32_code, 2, (none)), [], xc_135)
-- 136: HexTemplates.checkReference(I)V
def xc_136 : xrC := [(0, .aload_n 0, 1), (1, .getfield 517, 3), (4, .getfield 320, 3), (7, .getfield 192, 3), (10, .iload_n 1, 1), (11, .iaload, 1), (12, .iconst 3, 1), (13, .if_icmp .eq 14, 3),
  (16, .multianewarray 1 1, 3), (27, .return_, 1)]
def xm_136 : xrM := ((8, 1, ⟨"HexTemplates", "checkReference", "(I)V"⟩), (prog_1_method_33_code, 2, (none)), [], xc_136)
-- 137: HexTemplates.checkPlace(II)V
def xc_137 : xrC := [(0, .iload_n 1, 1), (1, .ifCond .lt 8, 3), (4, .iload_n 1, 1), (5, .iload_n 2, 1), (6, .if_icmp .le 14, 3), (9, .multianewarray 1 1, 3), (20, .return_, 1)]
def xm_137 : xrM := ((8, 2, ⟨"HexTemplates", "checkPlace", "(II)V"⟩), (prog_1_method_34_code, 3, (none)), [], xc_137)
-- 138: HexTemplates.checkEdit(Z)V
def xc_138 : xrC := [(0, .iload_n 1, 1), (1, .ifCond .ne 14, 3), (4, .multianewarray 1 1, 3), (15, .return_, 1)]
def xm_138 : xrM := ((8, 1, ⟨"HexTemplates", "checkEdit", "(Z)V"⟩), (prog_1_method_35_code, 2, (none)), [], xc_138)
-- 139: HexTemplates.isFree(I)Z
def xc_139 : xrC := [(0, .aload_n 0, 1), (1, .getfield 517, 3), (4, .getfield 320, 3), (7, .iload_n 1, 1), (8, .invokevirtual 30, 3), (11, .ifCond .eq 18, 3), (14, .aload_n 0, 1), (15, .getfield 517, 3),
  (18, .iload_n 1, 1), (19, .invokevirtual 76, 3), (22, .ifCond .ne 7, 3), (25, .iconst 1, 1), (26, .goto 4, 3), (29, .iconst 0, 1), (30, .ireturn, 1)]
def xm_139 : xrM := ((8, 1, ⟨"HexTemplates", "isFree", "(I)Z"⟩), (prog_1_method_36_code, 2, (some FieldType.boolean)), [], xc_139)
-- 140: HexTemplates.finishEdit()I
def xc_140 : xrC := [(0, .aload_n 0, 1), (1, .invokevirtual 132, 3), (4, .astore_n 1, 1), (5, .aload_n 1, 1), (6, .ifnull 57, 3), (9, .aload_n 0, 1), (10, .getfield 516, 3), (13, .invokevirtual 88, 3),
  (16, .ifCond .ne 47, 3), (19, .aload_n 0, 1), (20, .getfield 519, 3), (23, .aload_n 0, 1), (24, .getfield 518, 3), (27, .aload_n 1, 1), (28, .invokevirtual 15, 3), (31, .ifCond .eq 32, 3),
  (34, .aload_n 0, 1), (35, .getfield 519, 3), (38, .aload_n 0, 1), (39, .getfield 518, 3), (42, .invokevirtual 17, 3), (45, .ifCond .eq 18, 3), (48, .aload_n 0, 1), (49, .getfield 519, 3),
  (52, .aload_n 0, 1), (53, .getfield 518, 3), (56, .aload_n 1, 1), (57, .invokevirtual 20, 3), (60, .ifCond .ne 14, 3), (63, .multianewarray 1 1, 3), (74, .aload_n 0, 1), (75, .getfield 513, 3),
  (78, .aload_n 0, 1), (79, .getfield 519, 3), (82, .getfield 64, 3), (85, .invokevirtual 5, 3), (88, .aload_n 0, 1), (89, .invokevirtual 131, 3), (92, .ireturn, 1)]
def xm_140 : xrM := ((8, 0, ⟨"HexTemplates", "finishEdit", "()I"⟩), (prog_1_method_37_code, 2, (some FieldType.int)), [], xc_140)
-- 141: HexTemplates.forgetVisits()V
def xc_141 : xrC := [(0, .iconst 0, 1), (1, .istore_n 1, 1), (2, .iload_n 1, 1), (3, .aload_n 0, 1), (4, .getfield 521, 3), (7, .arraylength, 1), (8, .if_icmp .ge 16, 3), (11, .aload_n 0, 1),
  (12, .getfield 521, 3), (15, .iload_n 1, 1), (16, .iconst 0, 1), (17, .bastore, 1), (18, .iinc 1 1, 3), (21, .goto (-19), 3), (24, .return_, 1)]
def xm_141 : xrM := ((8, 0, ⟨"HexTemplates", "forgetVisits", "()V"⟩), (prog_1_method_38_code, 2, (none)), [], xc_141)
-- 142: HexTemplates.isVisited(II)Z
def xc_142 : xrC := [(0, .iload_n 1, 1), (1, .sipush 256, 3), (4, .imul, 1), (5, .iload_n 2, 1), (6, .iadd, 1), (7, .istore_n 3, 1), (8, .iload_n 3, 1), (9, .ifCond .lt 12, 3),
  (12, .iload_n 3, 1), (13, .aload_n 0, 1), (14, .getfield 521, 3), (17, .arraylength, 1), (18, .if_icmp .lt 5, 3), (21, .iconst 0, 1), (22, .ireturn, 1), (23, .aload_n 0, 1),
  (24, .getfield 521, 3), (27, .iload_n 3, 1), (28, .baload, 1), (29, .istore 4, 2), (31, .aload_n 0, 1), (32, .getfield 521, 3), (35, .iload_n 3, 1), (36, .iconst 1, 1),
  (37, .bastore, 1), (38, .iload 4, 2), (40, .ireturn, 1)]
def xm_142 : xrM := ((8, 2, ⟨"HexTemplates", "isVisited", "(II)Z"⟩), (prog_1_method_39_code, 5, (some FieldType.boolean)), [], xc_142)
-- 143: HexTemplatesLaw.strings(LHexTemplates;ZI[I[I[I)Z
def xc_143 : xrC := [(0, .iload_n 2, 1), (1, .aload 5, 2), (3, .iconst 1, 1), (4, .iaload, 1), (5, .iconst 1, 1), (6, .iadd, 1), (7, .invokestatic 90, 3), (10, .iconst 1, 1),
  (11, .isub, 1), (12, .istore 6, 2), (14, .iload 6, 2), (16, .ifCond .ge 10, 3), (19, .aload 5, 2), (21, .iconst 0, 1), (22, .iaload, 1), (23, .goto 11, 3),
  (26, .aload 4, 2), (28, .bipush 56, 2), (30, .iload 6, 2), (32, .iadd, 1), (33, .iaload, 1), (34, .istore 7, 2), (36, .iload 6, 2), (38, .ifCond .ge 7, 3),
  (41, .iconst 3, 1), (42, .goto 14, 3), (45, .iload 6, 2), (47, .aload 4, 2), (49, .aload 5, 2), (51, .invokestatic 111, 3), (54, .iconst 1, 1), (55, .iadd, 1),
  (56, .istore 8, 2), (58, .iload 6, 2), (60, .ifCond .ge 7, 3), (63, .iconst 4, 1), (64, .goto 10, 3), (67, .bipush 8, 2), (69, .iconst 3, 1), (70, .iload 6, 2),
  (72, .imul, 1), (73, .iadd, 1), (74, .istore 9, 2), (76, .iload_n 2, 1), (77, .iconst 4, 1), (78, .ishr, 1), (79, .iload 7, 2), (81, .iconst 2, 1),
  (82, .iadd, 1), (83, .invokestatic 90, 3), (86, .iload_n 2, 1), (87, .bipush 9, 2), (89, .ishr, 1), (90, .bipush 9, 2), (92, .invokestatic 90, 3), (95, .ifCond .ne 7, 3),
  (98, .iconst 1, 1), (99, .goto 4, 3), (102, .iconst 0, 1), (103, .isub, 1), (104, .istore 10, 2), (106, .iload_n 2, 1), (107, .bipush 6, 2), (109, .ishr, 1),
  (110, .sipush 256, 3), (113, .invokestatic 90, 3), (116, .istore 11, 2), (118, .iload 10, 2), (120, .ifCond .lt 28, 3), (123, .iload_n 1, 1), (124, .ifCond .eq 13, 3), (127, .iload 10, 2),
  (129, .iload 7, 2), (131, .if_icmp .gt 17, 3), (134, .goto 10, 3), (137, .iload 10, 2), (139, .iload 7, 2), (141, .if_icmp .ge 7, 3), (144, .iconst 1, 1), (145, .goto 4, 3),
  (148, .iconst 0, 1), (149, .istore 12, 2), (151, .iload_n 1, 1), (152, .ifCond .eq 22, 3), (155, .iload 7, 2), (157, .iload 6, 2), (159, .ifCond .ge 8, 3), (162, .bipush 20, 2),
  (164, .goto 5, 3), (167, .bipush 7, 2), (169, .if_icmp .ne 5, 3), (172, .iconst 1, 1), (173, .ireturn, 1), (174, .iload 8, 2), (176, .iload 10, 2), (178, .iadd, 1),
  (179, .iconst 1, 1), (180, .iload_n 1, 1), (181, .aload 5, 2), (183, .invokestatic 134, 3), (186, .istore 13, 2), (188, .iload 12, 2), (190, .ifCond .eq 24, 3), (193, .iload 13, 2),
  (195, .sipush 256, 3), (198, .if_icmp .ge 16, 3), (201, .aload 5, 2), (203, .iconst 3, 1), (204, .iaload, 1), (205, .bipush 29, 2), (207, .if_icmp .ge 7, 3), (210, .iconst 1, 1),
  (211, .goto 4, 3), (214, .iconst 0, 1), (215, .istore 12, 2), (217, .iload 12, 2), (219, .ifCond .eq 226, 3), (222, .bipush 8, 2), (224, .iload 6, 2), (226, .imul, 1),
  (227, .istore 14, 2), (229, .iload 7, 2), (231, .istore 15, 2), (233, .iload_n 1, 1), (234, .ifCond .eq 52, 3), (237, .iload 15, 2), (239, .iload 10, 2), (241, .if_icmp .le 45, 3),
  (244, .iload 6, 2), (246, .ifCond .ge 16, 3), (249, .aload_n 3, 1), (250, .iload 15, 2), (252, .aload_n 3, 1), (253, .iload 15, 2), (255, .iconst 1, 1), (256, .isub, 1),
  (257, .iaload, 1), (258, .iastore, 1), (259, .goto 21, 3), (262, .aload 4, 2), (264, .iload 14, 2), (266, .iload 15, 2), (268, .iadd, 1), (269, .aload 4, 2),
  (271, .iload 14, 2), (273, .iload 15, 2), (275, .iadd, 1), (276, .iconst 1, 1), (277, .isub, 1), (278, .iaload, 1), (279, .iastore, 1), (280, .iinc 15 (-1), 3),
  (283, .goto (-50), 3), (286, .iload 10, 2), (288, .istore 15, 2), (290, .iload_n 1, 1), (291, .ifCond .ne 54, 3), (294, .iload 15, 2), (296, .iconst 1, 1), (297, .iadd, 1),
  (298, .iload 7, 2), (300, .if_icmp .ge 45, 3), (303, .iload 6, 2), (305, .ifCond .ge 16, 3), (308, .aload_n 3, 1), (309, .iload 15, 2), (311, .aload_n 3, 1), (312, .iload 15, 2),
  (314, .iconst 1, 1), (315, .iadd, 1), (316, .iaload, 1), (317, .iastore, 1), (318, .goto 21, 3), (321, .aload 4, 2), (323, .iload 14, 2), (325, .iload 15, 2),
  (327, .iadd, 1), (328, .aload 4, 2), (330, .iload 14, 2), (332, .iload 15, 2), (334, .iadd, 1), (335, .iconst 1, 1), (336, .iadd, 1), (337, .iaload, 1),
  (338, .iastore, 1), (339, .iinc 15 1, 3), (342, .goto (-52), 3), (345, .iload 6, 2), (347, .ifCond .ge 39, 3), (350, .aload_n 3, 1), (351, .iload 10, 2), (353, .iload_n 1, 1),
  (354, .ifCond .eq 8, 3), (357, .iload 11, 2), (359, .goto 7, 3), (362, .aload_n 3, 1), (363, .iload 10, 2), (365, .iaload, 1), (366, .iastore, 1), (367, .aload 5, 2),
  (369, .iconst 0, 1), (370, .dup2, 1), (371, .iaload, 1), (372, .iload_n 1, 1), (373, .ifCond .eq 7, 3), (376, .iconst 1, 1), (377, .goto 4, 3), (380, .iconst (-1), 1),
  (381, .iadd, 1), (382, .iastore, 1), (383, .goto 48, 3), (386, .aload 4, 2), (388, .iload 14, 2), (390, .iload 10, 2), (392, .iadd, 1), (393, .iload_n 1, 1),
  (394, .ifCond .eq 8, 3), (397, .iload 11, 2), (399, .goto 11, 3), (402, .aload 4, 2), (404, .iload 14, 2), (406, .iload 10, 2), (408, .iadd, 1), (409, .iaload, 1),
  (410, .iastore, 1), (411, .aload 4, 2), (413, .bipush 56, 2), (415, .iload 6, 2), (417, .iadd, 1), (418, .dup2, 1), (419, .iaload, 1), (420, .iload_n 1, 1),
  (421, .ifCond .eq 7, 3), (424, .iconst 1, 1), (425, .goto 4, 3), (428, .iconst (-1), 1), (429, .iadd, 1), (430, .iastore, 1), (431, .aload 5, 2), (433, .iconst 2, 1),
  (434, .iload 13, 2), (436, .iastore, 1), (437, .aload 5, 2), (439, .iconst 3, 1), (440, .dup2, 1), (441, .iaload, 1), (442, .iconst 1, 1), (443, .iadd, 1),
  (444, .iastore, 1), (445, .aload_n 0, 1), (446, .iload_n 1, 1), (447, .ifCond .eq 7, 3), (450, .iconst 0, 1), (451, .goto 4, 3), (454, .iconst 1, 1), (455, .iload 9, 2),
  (457, .iload 10, 2), (459, .iload 11, 2), (461, .invokestatic 91, 3), (464, .iload 12, 2), (466, .ifCond .eq 10, 3), (469, .aload 5, 2), (471, .iconst 3, 1), (472, .iaload, 1),
  (473, .goto 6, 3), (476, .sipush (-1003), 3), (479, .if_icmp .ne 7, 3), (482, .iconst 1, 1), (483, .goto 4, 3), (486, .iconst 0, 1), (487, .ireturn, 1)]
def xm_143 : xrM := ((99, 6, ⟨"HexTemplatesLaw", "strings", "(LHexTemplates;ZI[I[I[I)Z"⟩), (method_12_code, 16, (some FieldType.boolean)), [], xc_143)
-- 144: HexTemplatesLaw.elements(LHexTemplates;ZI[I[I)Z
def xc_144 : xrC := [(0, .iload_n 2, 1), (1, .aload 4, 2), (3, .iconst 1, 1), (4, .iaload, 1), (5, .iconst 1, 1), (6, .iadd, 1), (7, .invokestatic 90, 3), (10, .istore 5, 2),
  (12, .iload 5, 2), (14, .aload 4, 2), (16, .iconst 1, 1), (17, .iaload, 1), (18, .if_icmp .ge 16, 3), (21, .aload 4, 2), (23, .iconst 3, 1), (24, .iaload, 1),
  (25, .bipush 29, 2), (27, .if_icmp .ge 7, 3), (30, .iconst 1, 1), (31, .goto 4, 3), (34, .iconst 0, 1), (35, .istore 6, 2), (37, .iload_n 1, 1), (38, .ifCond .eq 14, 3),
  (41, .aload 4, 2), (43, .iconst 1, 1), (44, .iaload, 1), (45, .bipush 7, 2), (47, .if_icmp .ne 5, 3), (50, .iconst 1, 1), (51, .ireturn, 1), (52, .iload 5, 2),
  (54, .aload_n 3, 1), (55, .aload 4, 2), (57, .invokestatic 111, 3), (60, .istore 7, 2), (62, .iload 5, 2), (64, .aload 4, 2), (66, .iconst 1, 1), (67, .iaload, 1),
  (68, .if_icmp .ge 15, 3), (71, .iconst 1, 1), (72, .aload_n 3, 1), (73, .bipush 56, 2), (75, .iload 5, 2), (77, .iadd, 1), (78, .iaload, 1), (79, .iadd, 1),
  (80, .goto 4, 3), (83, .iconst 0, 1), (84, .istore 8, 2), (86, .iload_n 1, 1), (87, .ifCond .eq 11, 3), (90, .iload 7, 2), (92, .iload 8, 2), (94, .iadd, 1),
  (95, .goto 5, 3), (98, .iload 7, 2), (100, .iload 8, 2), (102, .iload_n 1, 1), (103, .aload 4, 2), (105, .invokestatic 134, 3), (108, .istore 9, 2), (110, .iload 6, 2),
  (112, .ifCond .eq 15, 3), (115, .iload 9, 2), (117, .sipush 256, 3), (120, .if_icmp .ge 7, 3), (123, .iconst 1, 1), (124, .goto 4, 3), (127, .iconst 0, 1), (128, .istore 6, 2),
  (130, .iload 6, 2), (132, .ifCond .eq 101, 3), (135, .aload 4, 2), (137, .iconst 1, 1), (138, .iaload, 1), (139, .istore 10, 2), (141, .iload_n 1, 1), (142, .ifCond .eq 26, 3),
  (145, .iload 10, 2), (147, .iload 5, 2), (149, .if_icmp .le 19, 3), (152, .iload 10, 2), (154, .iconst 1, 1), (155, .isub, 1), (156, .iload 10, 2), (158, .aload_n 3, 1),
  (159, .invokestatic 145, 3), (162, .iinc 10 (-1), 3), (165, .goto (-24), 3), (168, .iload 5, 2), (170, .istore 10, 2), (172, .iload_n 1, 1), (173, .ifCond .ne 30, 3), (176, .iload 10, 2),
  (178, .iconst 1, 1), (179, .iadd, 1), (180, .aload 4, 2), (182, .iconst 1, 1), (183, .iaload, 1), (184, .if_icmp .ge 19, 3), (187, .iload 10, 2), (189, .iconst 1, 1),
  (190, .iadd, 1), (191, .iload 10, 2), (193, .aload_n 3, 1), (194, .invokestatic 145, 3), (197, .iinc 10 1, 3), (200, .goto (-28), 3), (203, .aload 4, 2), (205, .iconst 1, 1),
  (206, .dup2, 1), (207, .iaload, 1), (208, .iload_n 1, 1), (209, .ifCond .eq 7, 3), (212, .iconst 1, 1), (213, .goto 4, 3), (216, .iconst (-1), 1), (217, .iadd, 1),
  (218, .iastore, 1), (219, .aload 4, 2), (221, .iconst 2, 1), (222, .iload 9, 2), (224, .iastore, 1), (225, .aload 4, 2), (227, .iconst 3, 1), (228, .dup2, 1),
  (229, .iaload, 1), (230, .iconst 1, 1), (231, .iadd, 1), (232, .iastore, 1), (233, .aload_n 0, 1), (234, .iconst 2, 1), (235, .iconst 5, 1), (236, .iload 5, 2),
  (238, .iload_n 1, 1), (239, .ifCond .eq 7, 3), (242, .iconst 1, 1), (243, .goto 4, 3), (246, .iconst 0, 1), (247, .invokestatic 91, 3), (250, .iload 6, 2), (252, .ifCond .eq 10, 3),
  (255, .aload 4, 2), (257, .iconst 3, 1), (258, .iaload, 1), (259, .goto 6, 3), (262, .sipush (-1003), 3), (265, .if_icmp .ne 7, 3), (268, .iconst 1, 1), (269, .goto 4, 3),
  (272, .iconst 0, 1), (273, .ireturn, 1)]
def xm_144 : xrM := ((99, 5, ⟨"HexTemplatesLaw", "elements", "(LHexTemplates;ZI[I[I)Z"⟩), (method_13_code, 11, (some FieldType.boolean)), [], xc_144)
-- 145: HexTemplatesLaw.copies(II[I)V
def xc_145 : xrC := [(0, .iconst 0, 1), (1, .istore_n 3, 1), (2, .iload_n 3, 1), (3, .bipush 8, 2), (5, .if_icmp .ge 25, 3), (8, .aload_n 2, 1), (9, .bipush 8, 2), (11, .iload_n 1, 1),
  (12, .imul, 1), (13, .iload_n 3, 1), (14, .iadd, 1), (15, .aload_n 2, 1), (16, .bipush 8, 2), (18, .iload_n 0, 1), (19, .imul, 1), (20, .iload_n 3, 1),
  (21, .iadd, 1), (22, .iaload, 1), (23, .iastore, 1), (24, .iinc 3 1, 3), (27, .goto (-25), 3), (30, .aload_n 2, 1), (31, .bipush 56, 2), (33, .iload_n 1, 1),
  (34, .iadd, 1), (35, .aload_n 2, 1), (36, .bipush 56, 2), (38, .iload_n 0, 1), (39, .iadd, 1), (40, .iaload, 1), (41, .iastore, 1), (42, .return_, 1)]
def xm_145 : xrM := ((99, 3, ⟨"HexTemplatesLaw", "copies", "(II[I)V"⟩), (method_14_code, 4, (none)), [], xc_145)
