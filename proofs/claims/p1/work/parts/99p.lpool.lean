/-! THE LAW'S POOLS AND CASES (printed by wip/p1/gen/lawgen.py) -/
def owL0 : kOw := ([], [], [], [], [(18, 22, 1, 9, 2), (22, 111, 1, 10, 2), (23, 23, 0, 9, 1), (27, 112, 0, 10, 1), (28, 24, 1, 9, 2), (31, 113, 1, 10, 2), (32, 25, 2, 9, 3), (36, 114, 2, 10, 3), (37, 26, 2, 9, 3), (40, 115, 2, 10, 3), (41, 27, 2, 9, 3), (44, 116, 2, 10, 3), (45, 28, 1, 9, 2), (48, 117, 1, 10, 2), (49, 29, 2, 9, 3), (52, 118, 2, 10, 3), (53, 30, 1, 9, 2), (56, 119, 1, 10, 2), (57, 31, 1, 9, 2), (60, 120, 1, 10, 2), (61, 32, 1, 9, 2), (64, 121, 1, 10, 2), (65, 33, 1, 9, 2), (68, 122, 1, 10, 2), (69, 34, 1, 9, 2), (72, 123, 1, 10, 2), (73, 35, 1, 9, 2), (76, 124, 1, 10, 2), (77, 36, 1, 9, 2), (80, 125, 1, 10, 2), (81, 37, 1, 9, 2), (84, 126, 1, 10, 2), (85, 38, 2, 9, 3), (88, 127, 2, 10, 3), (89, 39, 0, 9, 1), (92, 128, 0, 10, 1), (93, 40, 0, 9, 1), (96, 129, 0, 10, 1), (97, 41, 0, 9, 1), (100, 130, 0, 10, 1), (101, 42, 1, 9, 2), (104, 131, 1, 10, 2), (105, 43, 1, 9, 2), (108, 132, 1, 10, 2), (109, 44, 1, 9, 2), (112, 133, 1, 10, 2), (113, 45, 1, 9, 2), (116, 134, 1, 10, 2), (117, 46, 0, 9, 1), (120, 135, 0, 10, 1), (121, 47, 0, 9, 1), (124, 136, 0, 10, 1), (125, 48, 1, 9, 2), (128, 137, 1, 10, 2), (129, 49, 0, 9, 1), (132, 138, 0, 10, 1), (133, 50, 1, 9, 2), (136, 139, 1, 10, 2), (137, 51, 0, 9, 1), (140, 140, 0, 10, 1), (141, 52, 1, 9, 2), (144, 141, 1, 10, 2), (145, 53, 1, 9, 2), (148, 142, 1, 10, 2), (149, 54, 1, 9, 2), (152, 143, 1, 10, 2), (153, 55, 1, 9, 2), (156, 144, 1, 10, 2), (157, 56, 1, 9, 2), (160, 145, 1, 10, 2), (161, 57, 1, 9, 2), (164, 146, 1, 10, 2), (165, 58, 2, 9, 3), (168, 147, 2, 10, 3), (169, 59, 3, 9, 4), (173, 148, 3, 10, 4), (174, 60, 2, 9, 3), (177, 149, 2, 10, 3), (178, 61, 1, 9, 2), (181, 150, 1, 10, 2), (182, 62, 2, 9, 3), (185, 151, 2, 10, 3), (186, 63, 2, 9, 3), (189, 152, 2, 10, 3), (190, 64, 0, 9, 1), (193, 153, 0, 10, 1), (194, 65, 1, 9, 2), (197, 154, 1, 10, 2), (198, 66, 1, 9, 2), (201, 155, 1, 10, 2), (202, 67, 1, 9, 2), (205, 156, 1, 10, 2), (206, 68, 1, 9, 2), (209, 157, 1, 10, 2), (210, 69, 1, 9, 2), (213, 158, 1, 10, 2), (214, 70, 0, 9, 1), (217, 159, 0, 10, 1), (218, 71, 0, 9, 1), (221, 160, 0, 10, 1), (222, 72, 2, 9, 3), (225, 161, 2, 10, 3), (226, 73, 1, 9, 2), (229, 162, 1, 10, 2), (230, 74, 2, 9, 3), (234, 163, 2, 10, 3), (235, 75, 1, 9, 2), (238, 164, 1, 10, 2), (239, 76, 2, 9, 3), (242, 165, 2, 10, 3), (243, 77, 2, 9, 3), (246, 166, 2, 10, 3), (247, 78, 2, 9, 3), (250, 167, 2, 10, 3), (251, 79, 0, 9, 1), (254, 168, 0, 10, 1), (255, 80, 0, 9, 1), (258, 169, 0, 10, 1), (259, 81, 2, 9, 3), (262, 170, 2, 10, 3), (263, 82, 3, 9, 4), (266, 171, 3, 10, 4), (267, 83, 1, 9, 2), (270, 172, 1, 10, 2), (271, 84, 1, 9, 2), (274, 173, 1, 10, 2), (279, 85, 1, 9, 2), (282, 174, 1, 10, 2), (289, 86, 3, 9, 5), (293, 175, 3, 10, 5), (294, 87, 5, 9, 6), (297, 176, 5, 10, 6)])
theorem wmL0 : kOwM "SilenceMatchLaw" owL0 k_cl (mw0.map (fun x => x.1)) k_lg [] := kOwMb_ok mo0 k_cpw (ps := [471, 1352, 475, 1360, 641, 1356, 645, 1514, 657, 1449, 665, 1457, 678, 1476, 686, 1489, 698, 1502, 711, 1510, 715, 1579, 731, 1591, 780, 1595, 785, 1603, 789, 1611, 802, 1615, 806, 1619, 828, 1630, 841, 1642, 845, 1646, 849, 1587, 723, 1651, 727, 1655, 853, 1659, 857, 1663, 864, 1667, 868, 1671, 872, 1675, 893, 1683, 1001, 1691, 901, 1699, 909, 1708, 917, 1716, 921, 1720, 929, 1728, 933, 1732, 961, 1736, 992, 1760, 996, 1764, 1010, 1768, 1014, 1772, 1022, 1780, 889, 1784, 1026, 1788, 1056, 1804, 1064, 1808, 1072, 1812, 1087, 1820, 937, 1824, 949, 1832, 953, 1836, 957, 1840, 1092, 1844, 1104, 1859, 1113, 1867, 1122, 1872, 1130, 1880, 1134, 1884, 1142, 1888, 1150, 1892, 1163, 1904, 1146, 1909, 1167, 1913, 1187, 1344, 1199, 1923, 1207, 1930]) (by decide +kernel)
def calL0 : List (Nat × List Nat) := [(393, [22]), (402, [111]), (411, [23]), (415, [112]), (429, [24]), (438, [113]), (457, [25]), (471, [114]), (490, [26]), (504, [115]), (523, [27]), (537, [116]), (551, [28]), (560, [117]), (579, [29]), (593, [118]), (607, [30]), (616, [119]), (630, [31]), (639, [120]), (653, [32]), (662, [121]), (676, [33]), (685, [122]), (699, [34]), (708, [123]), (722, [35]), (731, [124]), (745, [36]), (754, [125]), (768, [37]), (777, [126]), (796, [38]), (810, [127]), (819, [39]), (823, [128]), (832, [40]), (836, [129]), (845, [41]), (849, [130]), (863, [42]), (872, [131]), (886, [43]), (895, [132]), (909, [44]), (918, [133]), (932, [45]), (941, [134]), (950, [46]), (954, [135]), (963, [47]), (967, [136]), (981, [48]), (990, [137]), (999, [49]), (1003, [138]), (1017, [50]), (1026, [139]), (1035, [51]), (1039, [140]), (1053, [52]), (1062, [141]), (1076, [53]), (1085, [142]), (1099, [54]), (1108, [143]), (1122, [55]), (1131, [144]), (1145, [56]), (1154, [145]), (1168, [57]), (1177, [146]), (1196, [58]), (1210, [147]), (1234, [59]), (1253, [148]), (1272, [60]), (1286, [149]), (1300, [61]), (1309, [150]), (1328, [62]), (1342, [151]), (1361, [63]), (1375, [152]), (1384, [64]), (1388, [153]), (1402, [65]), (1411, [154]), (1425, [66]), (1434, [155]), (1448, [67]), (1457, [156]), (1471, [68]), (1480, [157]), (1494, [69]), (1503, [158]), (1512, [70]), (1516, [159]), (1525, [71]), (1529, [160]), (1548, [72]), (1562, [161]), (1576, [73]), (1585, [162]), (1604, [74]), (1618, [163]), (1633, [75]), (1642, [164]), (1661, [76]), (1675, [165]), (1694, [77]), (1708, [166]), (1727, [78]), (1741, [167]), (1750, [79]), (1754, [168]), (1763, [80]), (1767, [169]), (1786, [81]), (1800, [170]), (1824, [82]), (1843, [171]), (1857, [83]), (1866, [172]), (1880, [84]), (1889, [173]), (1926, [85]), (1935, [174]), (2017, [86]), (2051, [175]), (2085, [87]), (2114, [176])]
def owL1 : kOw := ([], [], [], [], [(13, 6, 5, 9, 6), (17, 11, 5, 10, 6), (275, 7, 1, 9, 2), (278, 12, 1, 10, 2), (283, 8, 3, 9, 4), (286, 13, 3, 10, 4)])
theorem wmL1 : kOwM "SilenceMatchLaw" owL1 k_cl (mw1.map (fun x => x.1)) k_lg [] := kOwMb_ok mo1 k_cpw (ps := [463, 1348, 1175, 1336, 1191, 1919]) (by decide +kernel)
def calL1 : List (Nat × List Nat) := [(350, [10]), (379, [15]), (1903, [11]), (1912, [16]), (1959, [12]), (1978, [17])]
def wrL : kW := [(0, none), (1, none), (2, none), (3, none), (4, none), (5, none), (6, none), (7, none), (8, none), (9, none), (10, none), (11, none), (12, none), (13, none), (14, none), (15, none), (16, none), (17, none), (18, none), (19, none), (20, none), (21, none), (22, none), (23, none), (24, none), (25, none), (26, none), (27, none), (28, none), (29, none), (30, none), (31, none), (32, none), (33, none), (34, none), (35, none), (36, none), (37, none), (38, none), (39, none), (40, none), (41, none), (42, none), (43, none), (44, none), (45, none), (46, none), (47, none), (48, none), (49, none), (50, none), (51, none), (52, none), (53, none), (54, none), (55, none), (56, none), (57, none), (58, none), (59, none), (60, none), (61, none), (62, none), (63, none)]
def fcL : List kF := [(0, kcst 0, .inr (.inr (.inl 2))), (2, kcst 1, .inl (kcst 0)), (1, kcst 5, .inl (kcst 0))]
theorem lc_0 : lcase k1_tt k_aty k1_ct owL1 calL1 wrL fcL 324 5 false 13 17 = true := by decide +kernel
theorem lc_1 : lcase k0_tt k_aty k0_ct owL0 calL0 wrL [] 387 1 false 18 22 = true := by decide +kernel
theorem lc_2 : lcase k0_tt k_aty k0_ct owL0 calL0 wrL [] 410 0 false 23 27 = true := by decide +kernel
theorem lc_3 : lcase k0_tt k_aty k0_ct owL0 calL0 wrL [] 423 1 false 28 31 = true := by decide +kernel
theorem lc_4 : lcase k0_tt k_aty k0_ct owL0 calL0 wrL [] 446 2 false 32 36 = true := by decide +kernel
theorem lc_5 : lcase k0_tt k_aty k0_ct owL0 calL0 wrL [] 479 2 false 37 40 = true := by decide +kernel
theorem lc_6 : lcase k0_tt k_aty k0_ct owL0 calL0 wrL [] 512 2 false 41 44 = true := by decide +kernel
theorem lc_7 : lcase k0_tt k_aty k0_ct owL0 calL0 wrL [] 545 1 false 45 48 = true := by decide +kernel
theorem lc_8 : lcase k0_tt k_aty k0_ct owL0 calL0 wrL [] 568 2 false 49 52 = true := by decide +kernel
theorem lc_9 : lcase k0_tt k_aty k0_ct owL0 calL0 wrL [] 601 1 false 53 56 = true := by decide +kernel
theorem lc_10 : lcase k0_tt k_aty k0_ct owL0 calL0 wrL [] 624 1 false 57 60 = true := by decide +kernel
theorem lc_11 : lcase k0_tt k_aty k0_ct owL0 calL0 wrL [] 647 1 false 61 64 = true := by decide +kernel
theorem lc_12 : lcase k0_tt k_aty k0_ct owL0 calL0 wrL [] 670 1 false 65 68 = true := by decide +kernel
theorem lc_13 : lcase k0_tt k_aty k0_ct owL0 calL0 wrL [] 693 1 false 69 72 = true := by decide +kernel
theorem lc_14 : lcase k0_tt k_aty k0_ct owL0 calL0 wrL [] 716 1 false 73 76 = true := by decide +kernel
theorem lc_15 : lcase k0_tt k_aty k0_ct owL0 calL0 wrL [] 739 1 false 77 80 = true := by decide +kernel
theorem lc_16 : lcase k0_tt k_aty k0_ct owL0 calL0 wrL [] 762 1 false 81 84 = true := by decide +kernel
theorem lc_17 : lcase k0_tt k_aty k0_ct owL0 calL0 wrL [] 785 2 false 85 88 = true := by decide +kernel
theorem lc_18 : lcase k0_tt k_aty k0_ct owL0 calL0 wrL [] 818 0 false 89 92 = true := by decide +kernel
theorem lc_19 : lcase k0_tt k_aty k0_ct owL0 calL0 wrL [] 831 0 false 93 96 = true := by decide +kernel
theorem lc_20 : lcase k0_tt k_aty k0_ct owL0 calL0 wrL [] 844 0 false 97 100 = true := by decide +kernel
theorem lc_21 : lcase k0_tt k_aty k0_ct owL0 calL0 wrL [] 857 1 false 101 104 = true := by decide +kernel
theorem lc_22 : lcase k0_tt k_aty k0_ct owL0 calL0 wrL [] 880 1 false 105 108 = true := by decide +kernel
theorem lc_23 : lcase k0_tt k_aty k0_ct owL0 calL0 wrL [] 903 1 false 109 112 = true := by decide +kernel
theorem lc_24 : lcase k0_tt k_aty k0_ct owL0 calL0 wrL [] 926 1 false 113 116 = true := by decide +kernel
theorem lc_25 : lcase k0_tt k_aty k0_ct owL0 calL0 wrL [] 949 0 false 117 120 = true := by decide +kernel
theorem lc_26 : lcase k0_tt k_aty k0_ct owL0 calL0 wrL [] 962 0 false 121 124 = true := by decide +kernel
theorem lc_27 : lcase k0_tt k_aty k0_ct owL0 calL0 wrL [] 975 1 false 125 128 = true := by decide +kernel
theorem lc_28 : lcase k0_tt k_aty k0_ct owL0 calL0 wrL [] 998 0 false 129 132 = true := by decide +kernel
theorem lc_29 : lcase k0_tt k_aty k0_ct owL0 calL0 wrL [] 1011 1 false 133 136 = true := by decide +kernel
theorem lc_30 : lcase k0_tt k_aty k0_ct owL0 calL0 wrL [] 1034 0 false 137 140 = true := by decide +kernel
theorem lc_31 : lcase k0_tt k_aty k0_ct owL0 calL0 wrL [] 1047 1 false 141 144 = true := by decide +kernel
theorem lc_32 : lcase k0_tt k_aty k0_ct owL0 calL0 wrL [] 1070 1 false 145 148 = true := by decide +kernel
theorem lc_33 : lcase k0_tt k_aty k0_ct owL0 calL0 wrL [] 1093 1 false 149 152 = true := by decide +kernel
theorem lc_34 : lcase k0_tt k_aty k0_ct owL0 calL0 wrL [] 1116 1 false 153 156 = true := by decide +kernel
theorem lc_35 : lcase k0_tt k_aty k0_ct owL0 calL0 wrL [] 1139 1 false 157 160 = true := by decide +kernel
theorem lc_36 : lcase k0_tt k_aty k0_ct owL0 calL0 wrL [] 1162 1 false 161 164 = true := by decide +kernel
theorem lc_37 : lcase k0_tt k_aty k0_ct owL0 calL0 wrL [] 1185 2 false 165 168 = true := by decide +kernel
theorem lc_38 : lcase k0_tt k_aty k0_ct owL0 calL0 wrL [] 1218 3 false 169 173 = true := by decide +kernel
theorem lc_39 : lcase k0_tt k_aty k0_ct owL0 calL0 wrL [] 1261 2 false 174 177 = true := by decide +kernel
theorem lc_40 : lcase k0_tt k_aty k0_ct owL0 calL0 wrL [] 1294 1 false 178 181 = true := by decide +kernel
theorem lc_41 : lcase k0_tt k_aty k0_ct owL0 calL0 wrL [] 1317 2 false 182 185 = true := by decide +kernel
theorem lc_42 : lcase k0_tt k_aty k0_ct owL0 calL0 wrL [] 1350 2 false 186 189 = true := by decide +kernel
theorem lc_43 : lcase k0_tt k_aty k0_ct owL0 calL0 wrL [] 1383 0 false 190 193 = true := by decide +kernel
theorem lc_44 : lcase k0_tt k_aty k0_ct owL0 calL0 wrL [] 1396 1 false 194 197 = true := by decide +kernel
theorem lc_45 : lcase k0_tt k_aty k0_ct owL0 calL0 wrL [] 1419 1 false 198 201 = true := by decide +kernel
theorem lc_46 : lcase k0_tt k_aty k0_ct owL0 calL0 wrL [] 1442 1 false 202 205 = true := by decide +kernel
theorem lc_47 : lcase k0_tt k_aty k0_ct owL0 calL0 wrL [] 1465 1 false 206 209 = true := by decide +kernel
theorem lc_48 : lcase k0_tt k_aty k0_ct owL0 calL0 wrL [] 1488 1 false 210 213 = true := by decide +kernel
theorem lc_49 : lcase k0_tt k_aty k0_ct owL0 calL0 wrL [] 1511 0 false 214 217 = true := by decide +kernel
theorem lc_50 : lcase k0_tt k_aty k0_ct owL0 calL0 wrL [] 1524 0 false 218 221 = true := by decide +kernel
theorem lc_51 : lcase k0_tt k_aty k0_ct owL0 calL0 wrL [] 1537 2 false 222 225 = true := by decide +kernel
theorem lc_52 : lcase k0_tt k_aty k0_ct owL0 calL0 wrL [] 1570 1 false 226 229 = true := by decide +kernel
theorem lc_53 : lcase k0_tt k_aty k0_ct owL0 calL0 wrL [] 1593 2 true 230 234 = true := by decide +kernel
theorem lc_54 : lcase k0_tt k_aty k0_ct owL0 calL0 wrL [] 1627 1 false 235 238 = true := by decide +kernel
theorem lc_55 : lcase k0_tt k_aty k0_ct owL0 calL0 wrL [] 1650 2 false 239 242 = true := by decide +kernel
theorem lc_56 : lcase k0_tt k_aty k0_ct owL0 calL0 wrL [] 1683 2 false 243 246 = true := by decide +kernel
theorem lc_57 : lcase k0_tt k_aty k0_ct owL0 calL0 wrL [] 1716 2 false 247 250 = true := by decide +kernel
theorem lc_58 : lcase k0_tt k_aty k0_ct owL0 calL0 wrL [] 1749 0 false 251 254 = true := by decide +kernel
theorem lc_59 : lcase k0_tt k_aty k0_ct owL0 calL0 wrL [] 1762 0 false 255 258 = true := by decide +kernel
theorem lc_60 : lcase k0_tt k_aty k0_ct owL0 calL0 wrL [] 1775 2 false 259 262 = true := by decide +kernel
theorem lc_61 : lcase k0_tt k_aty k0_ct owL0 calL0 wrL [] 1808 3 false 263 266 = true := by decide +kernel
theorem lc_62 : lcase k0_tt k_aty k0_ct owL0 calL0 wrL [] 1851 1 false 267 270 = true := by decide +kernel
theorem lc_63 : lcase k0_tt k_aty k0_ct owL0 calL0 wrL [] 1874 1 false 271 274 = true := by decide +kernel
theorem lc_64 : lcase k1_tt k_aty k1_ct owL1 calL1 wrL fcL 1897 1 false 275 278 = true := by decide +kernel
theorem lc_65 : lcase k0_tt k_aty k0_ct owL0 calL0 wrL [] 1920 1 false 279 282 = true := by decide +kernel
theorem lc_66 : lcase k1_tt k_aty k1_ct owL1 calL1 wrL fcL 1943 3 false 283 286 = true := by decide +kernel
theorem lc_67 : lcase k0_tt k_aty k0_ct owL0 calL0 wrL [] 1986 9 false 289 293 = true := by decide +kernel
theorem lc_68 : lcase k0_tt k_aty k0_ct owL0 calL0 wrL [] 2059 5 false 294 297 = true := by decide +kernel
