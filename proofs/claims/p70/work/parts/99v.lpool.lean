/-! THE LAW'S POOL AND CASES (printed by wip/p68/gen2/lawgen3.py) -/
def owL : kOw := ([], [], [], [], [(13, 119, 5, 9, 6), (17, 178, 5, 10, 6), (18, 114, 1, 9, 2), (22, 179, 1, 10, 2), (23, 126, 0, 9, 1), (27, 301, 0, 10, 1), (28, 118, 1, 9, 2), (31, 180, 1, 10, 2), (32, 147, 2, 9, 3), (36, 210, 2, 10, 3), (37, 158, 2, 9, 3), (40, 185, 2, 10, 3), (41, 117, 2, 9, 3), (44, 186, 2, 10, 3), (45, 161, 1, 9, 2), (48, 187, 1, 10, 2), (49, 113, 2, 9, 3), (52, 188, 2, 10, 3), (53, 110, 1, 9, 2), (56, 190, 1, 10, 2), (57, 148, 1, 9, 2), (60, 191, 1, 10, 2), (61, 105, 1, 9, 2), (64, 211, 1, 10, 2), (65, 141, 1, 9, 2), (68, 213, 1, 10, 2), (69, 142, 1, 9, 2), (72, 214, 1, 10, 2), (73, 133, 1, 9, 2), (76, 215, 1, 10, 2), (77, 120, 1, 9, 2), (80, 216, 1, 10, 2), (81, 121, 1, 9, 2), (84, 217, 1, 10, 2), (85, 151, 2, 9, 3), (88, 218, 2, 10, 3), (89, 162, 0, 9, 1), (92, 219, 0, 10, 1), (93, 134, 0, 9, 1), (96, 220, 0, 10, 1), (97, 131, 0, 9, 1), (100, 221, 0, 10, 1), (101, 157, 1, 9, 2), (104, 212, 1, 10, 2), (105, 109, 1, 9, 2), (108, 222, 1, 10, 2), (109, 140, 1, 9, 2), (112, 223, 1, 10, 2), (113, 125, 1, 9, 2), (116, 224, 1, 10, 2), (117, 102, 0, 9, 1), (120, 225, 0, 10, 1), (121, 103, 0, 9, 1), (124, 226, 0, 10, 1), (125, 100, 1, 9, 2), (128, 227, 1, 10, 2), (129, 122, 0, 9, 1), (132, 228, 0, 10, 1), (133, 156, 1, 9, 2), (136, 234, 1, 10, 2), (137, 127, 0, 9, 1), (140, 235, 0, 10, 1), (141, 150, 1, 9, 2), (144, 236, 1, 10, 2), (145, 146, 1, 9, 2), (148, 237, 1, 10, 2), (149, 132, 1, 9, 2), (152, 238, 1, 10, 2), (153, 101, 1, 9, 2), (156, 239, 1, 10, 2), (157, 124, 1, 9, 2), (160, 240, 1, 10, 2), (161, 129, 1, 9, 2), (164, 241, 1, 10, 2), (165, 107, 2, 9, 3), (168, 245, 2, 10, 3), (169, 108, 3, 9, 4), (173, 246, 3, 10, 4), (174, 138, 2, 9, 3), (177, 247, 2, 10, 3), (178, 153, 1, 9, 2), (181, 248, 1, 10, 2), (182, 143, 2, 9, 3), (185, 250, 2, 10, 3), (186, 144, 2, 9, 3), (189, 251, 2, 10, 3), (190, 128, 0, 9, 1), (193, 252, 0, 10, 1), (194, 123, 1, 9, 2), (197, 256, 1, 10, 2), (198, 152, 1, 9, 2), (201, 257, 1, 10, 2), (202, 160, 1, 9, 2), (205, 258, 1, 10, 2), (206, 97, 1, 9, 2), (209, 259, 1, 10, 2), (210, 135, 1, 9, 2), (213, 260, 1, 10, 2), (214, 115, 0, 9, 1), (217, 262, 0, 10, 1), (218, 116, 0, 9, 1), (221, 263, 0, 10, 1), (222, 163, 2, 9, 3), (225, 264, 2, 10, 3), (226, 112, 1, 9, 2), (229, 265, 1, 10, 2), (230, 104, 2, 9, 3), (234, 271, 2, 10, 3), (235, 155, 1, 9, 2), (238, 270, 1, 10, 2), (239, 154, 2, 9, 3), (242, 272, 2, 10, 3), (243, 139, 2, 9, 3), (246, 274, 2, 10, 3), (247, 136, 2, 9, 3), (250, 275, 2, 10, 3), (251, 159, 0, 9, 1), (254, 276, 0, 10, 1), (255, 96, 0, 9, 1), (258, 277, 0, 10, 1), (259, 111, 2, 9, 3), (262, 279, 2, 10, 3), (263, 137, 3, 9, 4), (266, 280, 3, 10, 4), (267, 99, 1, 9, 2), (270, 281, 1, 10, 2), (271, 106, 1, 9, 2), (274, 282, 1, 10, 2), (275, 130, 1, 9, 2), (278, 302, 1, 10, 2), (279, 98, 1, 9, 2), (282, 303, 1, 10, 2), (283, 149, 3, 9, 4), (286, 283, 3, 10, 4), (289, 164, 3, 9, 5), (293, 284, 3, 10, 5), (294, 145, 5, 9, 6), (297, 285, 5, 10, 6)])
theorem wmL : kOwM "SilenceMatchLaw" owL k_cl (k_mw.map (fun x => x.1)) k_lg k_ns := kOwMb_ok k_mo k_cpw (ps := [463, 1348, 471, 1352, 475, 1360, 641, 1356, 645, 1514, 657, 1449, 665, 1457, 678, 1476, 686, 1489, 698, 1502, 711, 1510, 715, 1579, 731, 1591, 780, 1595, 785, 1603, 789, 1611, 802, 1615, 806, 1619, 828, 1630, 841, 1642, 845, 1646, 849, 1587, 723, 1651, 727, 1655, 853, 1659, 857, 1663, 864, 1667, 868, 1671, 872, 1675, 893, 1683, 1001, 1691, 901, 1699, 909, 1708, 917, 1716, 921, 1720, 929, 1728, 933, 1732, 961, 1736, 992, 1760, 996, 1764, 1010, 1768, 1014, 1772, 1022, 1780, 889, 1784, 1026, 1788, 1056, 1804, 1064, 1808, 1072, 1812, 1087, 1820, 937, 1824, 949, 1832, 953, 1836, 957, 1840, 1092, 1844, 1104, 1859, 1113, 1867, 1122, 1872, 1130, 1880, 1134, 1884, 1142, 1888, 1150, 1892, 1163, 1904, 1146, 1909, 1167, 1913, 1175, 1336, 1187, 1344, 1191, 1919, 1199, 1923, 1207, 1930]) (by decide +kernel)
def calA : List (Nat × List Nat) := [(350, [140]), (380, [232]), (393, [135]), (403, [234]), (429, [139]), (439, [236]), (457, [168]), (472, [281]), (490, [179]), (505, [244]), (523, [138]), (538, [246]), (551, [182]), (561, [248]), (579, [134]), (594, [250]), (607, [131]), (617, [253]), (630, [169]), (640, [255]), (653, [126]), (663, [283]), (676, [162]), (686, [287]), (699, [163]), (709, [289]), (722, [154]), (732, [291]), (745, [141]), (755, [293]), (768, [142]), (778, [295]), (796, [172]), (811, [297]), (819, [183]), (824, [299]), (832, [155]), (837, [301]), (845, [152]), (850, [303]), (863, [178]), (873, [285]), (886, [130]), (896, [305]), (909, [161]), (919, [307]), (932, [146]), (942, [309]), (950, [123]), (955, [311]), (963, [124]), (968, [313]), (981, [121]), (991, [315]), (999, [143]), (1004, [317]), (1017, [177]), (1027, [324]), (1035, [148]), (1040, [326]), (1053, [171]), (1063, [328]), (1076, [167]), (1086, [330]), (1099, [153]), (1109, [332]), (1122, [122]), (1132, [334]), (1145, [145]), (1155, [336]), (1168, [150]), (1178, [338]), (1196, [128]), (1211, [344]), (1234, [129]), (1254, [346]), (1272, [159]), (1287, [348]), (1300, [174]), (1310, [350]), (1328, [164]), (1343, [353]), (1361, [165]), (1376, [355]), (1384, [149]), (1389, [357]), (1402, [144]), (1412, [363]), (1425, [173]), (1435, [365]), (1448, [181]), (1458, [367]), (1471, [118]), (1481, [369]), (1494, [156]), (1504, [371]), (1512, [136]), (1517, [374]), (1525, [137]), (1530, [376]), (1548, [184]), (1563, [378]), (1576, [133]), (1586, [380]), (1604, [125]), (1619, [392]), (1632, [176]), (1642, [390]), (1660, [175]), (1675, [394]), (1693, [160]), (1708, [398]), (1726, [157]), (1741, [400]), (1749, [180]), (1754, [402]), (1762, [117]), (1767, [404]), (1785, [132]), (1800, [407]), (1823, [158]), (1843, [409]), (1856, [120]), (1866, [411]), (1879, [127]), (1889, [413]), (2016, [185]), (2051, [417])]
def calB : List (Nat × List Nat) := [(350, [140]), (380, [233]), (393, [135]), (403, [235]), (429, [139]), (439, [237]), (457, [168]), (472, [282]), (490, [179]), (505, [245]), (523, [138]), (538, [247]), (551, [182]), (561, [249]), (579, [134]), (594, [251]), (607, [131]), (617, [254]), (630, [169]), (640, [256]), (653, [126]), (663, [284]), (676, [162]), (686, [288]), (699, [163]), (709, [290]), (722, [154]), (732, [292]), (745, [141]), (755, [294]), (768, [142]), (778, [296]), (796, [172]), (811, [298]), (819, [183]), (824, [300]), (832, [155]), (837, [302]), (845, [152]), (850, [304]), (863, [178]), (873, [286]), (886, [130]), (896, [306]), (909, [161]), (919, [308]), (932, [146]), (942, [310]), (950, [123]), (955, [312]), (963, [124]), (968, [314]), (981, [121]), (991, [316]), (999, [143]), (1004, [318]), (1017, [177]), (1027, [325]), (1035, [148]), (1040, [327]), (1053, [171]), (1063, [329]), (1076, [167]), (1086, [331]), (1099, [153]), (1109, [333]), (1122, [122]), (1132, [335]), (1145, [145]), (1155, [337]), (1168, [150]), (1178, [339]), (1196, [128]), (1211, [345]), (1234, [129]), (1254, [347]), (1272, [159]), (1287, [349]), (1300, [174]), (1310, [351]), (1328, [164]), (1343, [354]), (1361, [165]), (1376, [356]), (1384, [149]), (1389, [358]), (1402, [144]), (1412, [364]), (1425, [173]), (1435, [366]), (1448, [181]), (1458, [368]), (1471, [118]), (1481, [370]), (1494, [156]), (1504, [372]), (1512, [136]), (1517, [375]), (1525, [137]), (1530, [377]), (1548, [184]), (1563, [379]), (1576, [133]), (1586, [381]), (1604, [125]), (1619, [393]), (1632, [176]), (1642, [391]), (1660, [175]), (1675, [395]), (1693, [160]), (1708, [399]), (1726, [157]), (1741, [401]), (1749, [180]), (1754, [403]), (1762, [117]), (1767, [405]), (1785, [132]), (1800, [408]), (1823, [158]), (1843, [410]), (1856, [120]), (1866, [412]), (1879, [127]), (1889, [414]), (2016, [185]), (2051, [418])]
def calW : List (Nat × List Nat) := [(411, [147]), (416, [491]), (1902, [151]), (1912, [492]), (1925, [119]), (1935, [493])]
def wrM : kW := [(1, none), (2, none), (3, none), (4, none), (5, none), (6, none), (7, none), (8, none), (9, none), (10, none), (11, none), (12, none), (13, none), (14, none), (15, none), (16, none), (17, none), (18, none), (19, none), (20, none), (21, none), (22, none), (23, none), (24, none), (25, none), (26, none), (27, none), (28, none), (29, none), (31, none), (33, none), (34, none), (35, none), (37, none), (39, none), (40, none), (41, none), (42, none), (43, none), (44, none), (45, none), (46, none), (47, none), (48, none), (49, none), (50, none), (53, none), (54, none), (36, some 0), (36, some 3), (36, some 4), (36, some 5), (36, some 6), (36, some 7), (36, some 8), (36, some 9), (36, some 10), (36, some 11), (36, some 12), (36, some 13), (36, some 14), (36, some 15), (36, some 16), (36, some 17), (36, some 18), (36, some 19), (36, some 20), (36, some 21), (36, some 22), (36, some 23), (36, some 24), (36, some 25), (36, some 26), (36, some 27), (36, some 28), (36, some 29), (36, some 30), (36, some 31), (36, some 32), (36, some 33), (36, some 36), (36, some 37)]
def wrW : kW := [(1, none), (2, none), (3, none), (4, none), (5, none), (6, none), (7, none), (8, none), (9, none), (10, none), (11, none), (12, none), (13, none), (14, none), (15, none), (16, none), (17, none), (18, none), (19, none), (20, none), (21, none), (22, none), (23, none), (24, none), (25, none), (26, none), (27, none), (28, none), (29, none), (31, none), (33, none), (34, none), (35, none), (37, none), (38, none), (39, none), (40, none), (41, none), (42, none), (43, none), (44, none), (45, none), (46, none), (47, none), (48, none), (49, none), (50, none), (53, none), (54, none), (36, some 0), (36, some 3), (36, some 4), (36, some 5), (36, some 6), (36, some 7), (36, some 8), (36, some 9), (36, some 10), (36, some 11), (36, some 12), (36, some 13), (36, some 14), (36, some 15), (36, some 16), (36, some 17), (36, some 18), (36, some 19), (36, some 20), (36, some 21), (36, some 22), (36, some 23), (36, some 24), (36, some 25), (36, some 26), (36, some 27), (36, some 28), (36, some 29), (36, some 30), (36, some 31), (36, some 32), (36, some 33), (36, some 36), (36, some 37)]
theorem wf_M : lrww wrM = true := by decide +kernel
theorem wf_W : lrww wrW = true := by decide +kernel
theorem lcA_0 : lcgP k_tt k_aty k_ctX owL calA wrM (lend wrM []) lsA 324 5 false 13 17 = true := by decide +kernel
theorem lcB_0 : lcgP k_tt k_aty k_ctX owL calB wrM (lend wrM []) lsB 324 5 false 13 17 = true := by decide +kernel
theorem lcA_1 : lcgP k_tt k_aty k_ctX owL calA wrM (lend wrM []) lsA 387 1 false 18 22 = true := by decide +kernel
theorem lcB_1 : lcgP k_tt k_aty k_ctX owL calB wrM (lend wrM []) lsB 387 1 false 18 22 = true := by decide +kernel
theorem lcW_2 : lcgP k_tt k_aty k_ctX owL calW wrW (lend wrW stW) lsW 410 0 false 23 27 = true := by decide +kernel
theorem lcA_3 : lcgP k_tt k_aty k_ctX owL calA wrM (lend wrM []) lsA 423 1 false 28 31 = true := by decide +kernel
theorem lcB_3 : lcgP k_tt k_aty k_ctX owL calB wrM (lend wrM []) lsB 423 1 false 28 31 = true := by decide +kernel
theorem lcA_4 : lcgP k_tt k_aty k_ctX owL calA wrM (lend wrM []) lsA 446 2 false 32 36 = true := by decide +kernel
theorem lcB_4 : lcgP k_tt k_aty k_ctX owL calB wrM (lend wrM []) lsB 446 2 false 32 36 = true := by decide +kernel
theorem lcA_5 : lcgP k_tt k_aty k_ctX owL calA wrM (lend wrM []) lsA 479 2 false 37 40 = true := by decide +kernel
theorem lcB_5 : lcgP k_tt k_aty k_ctX owL calB wrM (lend wrM []) lsB 479 2 false 37 40 = true := by decide +kernel
theorem lcA_6 : lcgP k_tt k_aty k_ctX owL calA wrM (lend wrM []) lsA 512 2 false 41 44 = true := by decide +kernel
theorem lcB_6 : lcgP k_tt k_aty k_ctX owL calB wrM (lend wrM []) lsB 512 2 false 41 44 = true := by decide +kernel
theorem lcA_7 : lcgP k_tt k_aty k_ctX owL calA wrM (lend wrM []) lsA 545 1 false 45 48 = true := by decide +kernel
theorem lcB_7 : lcgP k_tt k_aty k_ctX owL calB wrM (lend wrM []) lsB 545 1 false 45 48 = true := by decide +kernel
theorem lcA_8 : lcgP k_tt k_aty k_ctX owL calA wrM (lend wrM []) lsA 568 2 false 49 52 = true := by decide +kernel
theorem lcB_8 : lcgP k_tt k_aty k_ctX owL calB wrM (lend wrM []) lsB 568 2 false 49 52 = true := by decide +kernel
theorem lcA_9 : lcgP k_tt k_aty k_ctX owL calA wrM (lend wrM []) lsA 601 1 false 53 56 = true := by decide +kernel
theorem lcB_9 : lcgP k_tt k_aty k_ctX owL calB wrM (lend wrM []) lsB 601 1 false 53 56 = true := by decide +kernel
theorem lcA_10 : lcgP k_tt k_aty k_ctX owL calA wrM (lend wrM []) lsA 624 1 false 57 60 = true := by decide +kernel
theorem lcB_10 : lcgP k_tt k_aty k_ctX owL calB wrM (lend wrM []) lsB 624 1 false 57 60 = true := by decide +kernel
theorem lcA_11 : lcgP k_tt k_aty k_ctX owL calA wrM (lend wrM []) lsA 647 1 false 61 64 = true := by decide +kernel
theorem lcB_11 : lcgP k_tt k_aty k_ctX owL calB wrM (lend wrM []) lsB 647 1 false 61 64 = true := by decide +kernel
theorem lcA_12 : lcgP k_tt k_aty k_ctX owL calA wrM (lend wrM []) lsA 670 1 false 65 68 = true := by decide +kernel
theorem lcB_12 : lcgP k_tt k_aty k_ctX owL calB wrM (lend wrM []) lsB 670 1 false 65 68 = true := by decide +kernel
theorem lcA_13 : lcgP k_tt k_aty k_ctX owL calA wrM (lend wrM []) lsA 693 1 false 69 72 = true := by decide +kernel
theorem lcB_13 : lcgP k_tt k_aty k_ctX owL calB wrM (lend wrM []) lsB 693 1 false 69 72 = true := by decide +kernel
theorem lcA_14 : lcgP k_tt k_aty k_ctX owL calA wrM (lend wrM []) lsA 716 1 false 73 76 = true := by decide +kernel
theorem lcB_14 : lcgP k_tt k_aty k_ctX owL calB wrM (lend wrM []) lsB 716 1 false 73 76 = true := by decide +kernel
theorem lcA_15 : lcgP k_tt k_aty k_ctX owL calA wrM (lend wrM []) lsA 739 1 false 77 80 = true := by decide +kernel
theorem lcB_15 : lcgP k_tt k_aty k_ctX owL calB wrM (lend wrM []) lsB 739 1 false 77 80 = true := by decide +kernel
theorem lcA_16 : lcgP k_tt k_aty k_ctX owL calA wrM (lend wrM []) lsA 762 1 false 81 84 = true := by decide +kernel
theorem lcB_16 : lcgP k_tt k_aty k_ctX owL calB wrM (lend wrM []) lsB 762 1 false 81 84 = true := by decide +kernel
theorem lcA_17 : lcgP k_tt k_aty k_ctX owL calA wrM (lend wrM []) lsA 785 2 false 85 88 = true := by decide +kernel
theorem lcB_17 : lcgP k_tt k_aty k_ctX owL calB wrM (lend wrM []) lsB 785 2 false 85 88 = true := by decide +kernel
theorem lcA_18 : lcgP k_tt k_aty k_ctX owL calA wrM (lend wrM []) lsA 818 0 false 89 92 = true := by decide +kernel
theorem lcB_18 : lcgP k_tt k_aty k_ctX owL calB wrM (lend wrM []) lsB 818 0 false 89 92 = true := by decide +kernel
theorem lcA_19 : lcgP k_tt k_aty k_ctX owL calA wrM (lend wrM []) lsA 831 0 false 93 96 = true := by decide +kernel
theorem lcB_19 : lcgP k_tt k_aty k_ctX owL calB wrM (lend wrM []) lsB 831 0 false 93 96 = true := by decide +kernel
theorem lcA_20 : lcgP k_tt k_aty k_ctX owL calA wrM (lend wrM []) lsA 844 0 false 97 100 = true := by decide +kernel
theorem lcB_20 : lcgP k_tt k_aty k_ctX owL calB wrM (lend wrM []) lsB 844 0 false 97 100 = true := by decide +kernel
theorem lcA_21 : lcgP k_tt k_aty k_ctX owL calA wrM (lend wrM []) lsA 857 1 false 101 104 = true := by decide +kernel
theorem lcB_21 : lcgP k_tt k_aty k_ctX owL calB wrM (lend wrM []) lsB 857 1 false 101 104 = true := by decide +kernel
theorem lcA_22 : lcgP k_tt k_aty k_ctX owL calA wrM (lend wrM []) lsA 880 1 false 105 108 = true := by decide +kernel
theorem lcB_22 : lcgP k_tt k_aty k_ctX owL calB wrM (lend wrM []) lsB 880 1 false 105 108 = true := by decide +kernel
theorem lcA_23 : lcgP k_tt k_aty k_ctX owL calA wrM (lend wrM []) lsA 903 1 false 109 112 = true := by decide +kernel
theorem lcB_23 : lcgP k_tt k_aty k_ctX owL calB wrM (lend wrM []) lsB 903 1 false 109 112 = true := by decide +kernel
theorem lcA_24 : lcgP k_tt k_aty k_ctX owL calA wrM (lend wrM []) lsA 926 1 false 113 116 = true := by decide +kernel
theorem lcB_24 : lcgP k_tt k_aty k_ctX owL calB wrM (lend wrM []) lsB 926 1 false 113 116 = true := by decide +kernel
theorem lcA_25 : lcgP k_tt k_aty k_ctX owL calA wrM (lend wrM []) lsA 949 0 false 117 120 = true := by decide +kernel
theorem lcB_25 : lcgP k_tt k_aty k_ctX owL calB wrM (lend wrM []) lsB 949 0 false 117 120 = true := by decide +kernel
theorem lcA_26 : lcgP k_tt k_aty k_ctX owL calA wrM (lend wrM []) lsA 962 0 false 121 124 = true := by decide +kernel
theorem lcB_26 : lcgP k_tt k_aty k_ctX owL calB wrM (lend wrM []) lsB 962 0 false 121 124 = true := by decide +kernel
theorem lcA_27 : lcgP k_tt k_aty k_ctX owL calA wrM (lend wrM []) lsA 975 1 false 125 128 = true := by decide +kernel
theorem lcB_27 : lcgP k_tt k_aty k_ctX owL calB wrM (lend wrM []) lsB 975 1 false 125 128 = true := by decide +kernel
theorem lcA_28 : lcgP k_tt k_aty k_ctX owL calA wrM (lend wrM []) lsA 998 0 false 129 132 = true := by decide +kernel
theorem lcB_28 : lcgP k_tt k_aty k_ctX owL calB wrM (lend wrM []) lsB 998 0 false 129 132 = true := by decide +kernel
theorem lcA_29 : lcgP k_tt k_aty k_ctX owL calA wrM (lend wrM []) lsA 1011 1 false 133 136 = true := by decide +kernel
theorem lcB_29 : lcgP k_tt k_aty k_ctX owL calB wrM (lend wrM []) lsB 1011 1 false 133 136 = true := by decide +kernel
theorem lcA_30 : lcgP k_tt k_aty k_ctX owL calA wrM (lend wrM []) lsA 1034 0 false 137 140 = true := by decide +kernel
theorem lcB_30 : lcgP k_tt k_aty k_ctX owL calB wrM (lend wrM []) lsB 1034 0 false 137 140 = true := by decide +kernel
theorem lcA_31 : lcgP k_tt k_aty k_ctX owL calA wrM (lend wrM []) lsA 1047 1 false 141 144 = true := by decide +kernel
theorem lcB_31 : lcgP k_tt k_aty k_ctX owL calB wrM (lend wrM []) lsB 1047 1 false 141 144 = true := by decide +kernel
theorem lcA_32 : lcgP k_tt k_aty k_ctX owL calA wrM (lend wrM []) lsA 1070 1 false 145 148 = true := by decide +kernel
theorem lcB_32 : lcgP k_tt k_aty k_ctX owL calB wrM (lend wrM []) lsB 1070 1 false 145 148 = true := by decide +kernel
theorem lcA_33 : lcgP k_tt k_aty k_ctX owL calA wrM (lend wrM []) lsA 1093 1 false 149 152 = true := by decide +kernel
theorem lcB_33 : lcgP k_tt k_aty k_ctX owL calB wrM (lend wrM []) lsB 1093 1 false 149 152 = true := by decide +kernel
theorem lcA_34 : lcgP k_tt k_aty k_ctX owL calA wrM (lend wrM []) lsA 1116 1 false 153 156 = true := by decide +kernel
theorem lcB_34 : lcgP k_tt k_aty k_ctX owL calB wrM (lend wrM []) lsB 1116 1 false 153 156 = true := by decide +kernel
theorem lcA_35 : lcgP k_tt k_aty k_ctX owL calA wrM (lend wrM []) lsA 1139 1 false 157 160 = true := by decide +kernel
theorem lcB_35 : lcgP k_tt k_aty k_ctX owL calB wrM (lend wrM []) lsB 1139 1 false 157 160 = true := by decide +kernel
theorem lcA_36 : lcgP k_tt k_aty k_ctX owL calA wrM (lend wrM []) lsA 1162 1 false 161 164 = true := by decide +kernel
theorem lcB_36 : lcgP k_tt k_aty k_ctX owL calB wrM (lend wrM []) lsB 1162 1 false 161 164 = true := by decide +kernel
theorem lcA_37 : lcgP k_tt k_aty k_ctX owL calA wrM (lend wrM []) lsA 1185 2 false 165 168 = true := by decide +kernel
theorem lcB_37 : lcgP k_tt k_aty k_ctX owL calB wrM (lend wrM []) lsB 1185 2 false 165 168 = true := by decide +kernel
theorem lcA_38 : lcgP k_tt k_aty k_ctX owL calA wrM (lend wrM []) lsA 1218 3 false 169 173 = true := by decide +kernel
theorem lcB_38 : lcgP k_tt k_aty k_ctX owL calB wrM (lend wrM []) lsB 1218 3 false 169 173 = true := by decide +kernel
theorem lcA_39 : lcgP k_tt k_aty k_ctX owL calA wrM (lend wrM []) lsA 1261 2 false 174 177 = true := by decide +kernel
theorem lcB_39 : lcgP k_tt k_aty k_ctX owL calB wrM (lend wrM []) lsB 1261 2 false 174 177 = true := by decide +kernel
theorem lcA_40 : lcgP k_tt k_aty k_ctX owL calA wrM (lend wrM []) lsA 1294 1 false 178 181 = true := by decide +kernel
theorem lcB_40 : lcgP k_tt k_aty k_ctX owL calB wrM (lend wrM []) lsB 1294 1 false 178 181 = true := by decide +kernel
theorem lcA_41 : lcgP k_tt k_aty k_ctX owL calA wrM (lend wrM []) lsA 1317 2 false 182 185 = true := by decide +kernel
theorem lcB_41 : lcgP k_tt k_aty k_ctX owL calB wrM (lend wrM []) lsB 1317 2 false 182 185 = true := by decide +kernel
theorem lcA_42 : lcgP k_tt k_aty k_ctX owL calA wrM (lend wrM []) lsA 1350 2 false 186 189 = true := by decide +kernel
theorem lcB_42 : lcgP k_tt k_aty k_ctX owL calB wrM (lend wrM []) lsB 1350 2 false 186 189 = true := by decide +kernel
theorem lcA_43 : lcgP k_tt k_aty k_ctX owL calA wrM (lend wrM []) lsA 1383 0 false 190 193 = true := by decide +kernel
theorem lcB_43 : lcgP k_tt k_aty k_ctX owL calB wrM (lend wrM []) lsB 1383 0 false 190 193 = true := by decide +kernel
theorem lcA_44 : lcgP k_tt k_aty k_ctX owL calA wrM (lend wrM []) lsA 1396 1 false 194 197 = true := by decide +kernel
theorem lcB_44 : lcgP k_tt k_aty k_ctX owL calB wrM (lend wrM []) lsB 1396 1 false 194 197 = true := by decide +kernel
theorem lcA_45 : lcgP k_tt k_aty k_ctX owL calA wrM (lend wrM []) lsA 1419 1 false 198 201 = true := by decide +kernel
theorem lcB_45 : lcgP k_tt k_aty k_ctX owL calB wrM (lend wrM []) lsB 1419 1 false 198 201 = true := by decide +kernel
theorem lcA_46 : lcgP k_tt k_aty k_ctX owL calA wrM (lend wrM []) lsA 1442 1 false 202 205 = true := by decide +kernel
theorem lcB_46 : lcgP k_tt k_aty k_ctX owL calB wrM (lend wrM []) lsB 1442 1 false 202 205 = true := by decide +kernel
theorem lcA_47 : lcgP k_tt k_aty k_ctX owL calA wrM (lend wrM []) lsA 1465 1 false 206 209 = true := by decide +kernel
theorem lcB_47 : lcgP k_tt k_aty k_ctX owL calB wrM (lend wrM []) lsB 1465 1 false 206 209 = true := by decide +kernel
theorem lcA_48 : lcgP k_tt k_aty k_ctX owL calA wrM (lend wrM []) lsA 1488 1 false 210 213 = true := by decide +kernel
theorem lcB_48 : lcgP k_tt k_aty k_ctX owL calB wrM (lend wrM []) lsB 1488 1 false 210 213 = true := by decide +kernel
theorem lcA_49 : lcgP k_tt k_aty k_ctX owL calA wrM (lend wrM []) lsA 1511 0 false 214 217 = true := by decide +kernel
theorem lcB_49 : lcgP k_tt k_aty k_ctX owL calB wrM (lend wrM []) lsB 1511 0 false 214 217 = true := by decide +kernel
theorem lcA_50 : lcgP k_tt k_aty k_ctX owL calA wrM (lend wrM []) lsA 1524 0 false 218 221 = true := by decide +kernel
theorem lcB_50 : lcgP k_tt k_aty k_ctX owL calB wrM (lend wrM []) lsB 1524 0 false 218 221 = true := by decide +kernel
theorem lcA_51 : lcgP k_tt k_aty k_ctX owL calA wrM (lend wrM []) lsA 1537 2 false 222 225 = true := by decide +kernel
theorem lcB_51 : lcgP k_tt k_aty k_ctX owL calB wrM (lend wrM []) lsB 1537 2 false 222 225 = true := by decide +kernel
theorem lcA_52 : lcgP k_tt k_aty k_ctX owL calA wrM (lend wrM []) lsA 1570 1 false 226 229 = true := by decide +kernel
theorem lcB_52 : lcgP k_tt k_aty k_ctX owL calB wrM (lend wrM []) lsB 1570 1 false 226 229 = true := by decide +kernel
theorem lcA_53 : lcgP k_tt k_aty k_ctX owL calA wrM (lend wrM []) lsA 1593 2 true 230 234 = true := by decide +kernel
theorem lcB_53 : lcgP k_tt k_aty k_ctX owL calB wrM (lend wrM []) lsB 1593 2 true 230 234 = true := by decide +kernel
theorem lcA_54 : lcgP k_tt k_aty k_ctX owL calA wrM (lend wrM []) lsA 1626 1 false 235 238 = true := by decide +kernel
theorem lcB_54 : lcgP k_tt k_aty k_ctX owL calB wrM (lend wrM []) lsB 1626 1 false 235 238 = true := by decide +kernel
theorem lcA_55 : lcgP k_tt k_aty k_ctX owL calA wrM (lend wrM []) lsA 1649 2 false 239 242 = true := by decide +kernel
theorem lcB_55 : lcgP k_tt k_aty k_ctX owL calB wrM (lend wrM []) lsB 1649 2 false 239 242 = true := by decide +kernel
theorem lcA_56 : lcgP k_tt k_aty k_ctX owL calA wrM (lend wrM []) lsA 1682 2 false 243 246 = true := by decide +kernel
theorem lcB_56 : lcgP k_tt k_aty k_ctX owL calB wrM (lend wrM []) lsB 1682 2 false 243 246 = true := by decide +kernel
theorem lcA_57 : lcgP k_tt k_aty k_ctX owL calA wrM (lend wrM []) lsA 1715 2 false 247 250 = true := by decide +kernel
theorem lcB_57 : lcgP k_tt k_aty k_ctX owL calB wrM (lend wrM []) lsB 1715 2 false 247 250 = true := by decide +kernel
theorem lcA_58 : lcgP k_tt k_aty k_ctX owL calA wrM (lend wrM []) lsA 1748 0 false 251 254 = true := by decide +kernel
theorem lcB_58 : lcgP k_tt k_aty k_ctX owL calB wrM (lend wrM []) lsB 1748 0 false 251 254 = true := by decide +kernel
theorem lcA_59 : lcgP k_tt k_aty k_ctX owL calA wrM (lend wrM []) lsA 1761 0 false 255 258 = true := by decide +kernel
theorem lcB_59 : lcgP k_tt k_aty k_ctX owL calB wrM (lend wrM []) lsB 1761 0 false 255 258 = true := by decide +kernel
theorem lcA_60 : lcgP k_tt k_aty k_ctX owL calA wrM (lend wrM []) lsA 1774 2 false 259 262 = true := by decide +kernel
theorem lcB_60 : lcgP k_tt k_aty k_ctX owL calB wrM (lend wrM []) lsB 1774 2 false 259 262 = true := by decide +kernel
theorem lcA_61 : lcgP k_tt k_aty k_ctX owL calA wrM (lend wrM []) lsA 1807 3 false 263 266 = true := by decide +kernel
theorem lcB_61 : lcgP k_tt k_aty k_ctX owL calB wrM (lend wrM []) lsB 1807 3 false 263 266 = true := by decide +kernel
theorem lcA_62 : lcgP k_tt k_aty k_ctX owL calA wrM (lend wrM []) lsA 1850 1 false 267 270 = true := by decide +kernel
theorem lcB_62 : lcgP k_tt k_aty k_ctX owL calB wrM (lend wrM []) lsB 1850 1 false 267 270 = true := by decide +kernel
theorem lcA_63 : lcgP k_tt k_aty k_ctX owL calA wrM (lend wrM []) lsA 1873 1 false 271 274 = true := by decide +kernel
theorem lcB_63 : lcgP k_tt k_aty k_ctX owL calB wrM (lend wrM []) lsB 1873 1 false 271 274 = true := by decide +kernel
theorem lcW_64 : lcgP k_tt k_aty k_ctX owL calW wrW (lend wrW stW) lsW 1896 1 false 275 278 = true := by decide +kernel
theorem lcW_65 : lcgP k_tt k_aty k_ctX owL calW wrW (lend wrW stW) lsW 1919 1 false 279 282 = true := by decide +kernel
theorem lcA_67 : lcgP k_tt k_aty k_ctX owL calA wrM (lend wrM []) lsA 1985 9 false 289 293 = true := by decide +kernel
theorem lcB_67 : lcgP k_tt k_aty k_ctX owL calB wrM (lend wrM []) lsB 1985 9 false 289 293 = true := by decide +kernel
def calRsn : List (Nat × List Nat) := [(1958, [552]), (1978, [553])]
theorem lc_rowsn : lcgP k_tt k_aty k_ctX owL calRsn wrW (lend wrW stW) (lq3 lsW (-2147483648, -1) k32 k32) 1942 3 false 283 286 = true := by decide +kernel
def calRsp : List (Nat × List Nat) := [(1958, [554]), (1978, [555])]
theorem lc_rowsp : lcgP k_tt k_aty k_ctX owL calRsp wrW (lend wrW stW) (lq3 lsW (4, 2147483647) k32 k32) 1942 3 false 283 286 = true := by decide +kernel
def calRwn : List (Nat × List Nat) := [(1958, [556]), (1978, [557])]
theorem lc_rowwn : lcgP k_tt k_aty k_ctX owL calRwn wrW (lend wrW stW) (lq3 lsW (0, 3) (-2147483648, -1) k32) 1942 3 false 283 286 = true := by decide +kernel
def calRwp : List (Nat × List Nat) := [(1958, [558]), (1978, [559])]
theorem lc_rowwp : lcgP k_tt k_aty k_ctX owL calRwp wrW (lend wrW stW) (lq3 lsW (0, 3) (4, 2147483647) k32) 1942 3 false 283 286 = true := by decide +kernel
def calRnp : List (Nat × List Nat) := [(1958, [560]), (1978, [561])]
theorem lc_rownp : lcgP k_tt k_aty k_ctX owL calRnp wrW (lend wrW stW) (lq3 lsW (0, 3) (0, 3) (61, 2147483647)) 1942 3 false 283 286 = true := by decide +kernel
def calRnn : List (Nat × List Nat) := [(1958, [562]), (1978, [563])]
theorem lc_rownn : lcgP k_tt k_aty k_ctX owL calRnn wrW (lend wrW stW) (lq3 lsW (0, 3) (0, 3) (-2147483648, -1)) 1942 3 false 283 286 = true := by decide +kernel
def calRC (K : Nat) : List (Nat × List Nat) := [(1958, [2 + K])]
def calRM (K : Nat) : List (Nat × List Nat) := [(1978, [548 + K])]
theorem lc_rowC : ∀ K, K < 4 → lrowb owL (calRC K) K (1942 + 1 + laln 3) 283 = true := by decide +kernel
theorem lc_rowM : ∀ K, K < 4 → lrowd owL (calRM K) K (1942 + 1 + laln 3 + 3 + 1 + 1 + laln 3) 286 = true := by decide +kernel
def calXn : List (Nat × List Nat) := [(2084, [522]), (2113, [523])]
theorem lc_xn : lcgR k_tt k_aty k_ctX owL calXn wrW (lend wrW stW) (lsn lsW 0 (-2147483648, -1)) 2058 5 294 297 = true := by decide +kernel
def calXp : List (Nat × List Nat) := [(2084, [524]), (2113, [525])]
theorem lc_xp : lcgR k_tt k_aty k_ctX owL calXp wrW (lend wrW stW) (lsn lsW 0 (4, 2147483647)) 2058 5 294 297 = true := by decide +kernel
def calXon : List (Nat × List Nat) := [(2084, [526]), (2113, [527])]
theorem lc_xon : lcgR k_tt k_aty k_ctX owL calXon wrW (lend wrW stW) (lsn (lsn lsW 0 (0, 3)) 2 (-2147483648, -1)) 2058 5 294 297 = true := by decide +kernel
def calXop : List (Nat × List Nat) := [(2084, [528]), (2113, [529])]
theorem lc_xop : lcgR k_tt k_aty k_ctX owL calXop wrW (lend wrW stW) (lsn (lsn lsW 0 (0, 3)) 2 (4, 2147483647)) 2058 5 294 297 = true := by decide +kernel
def calXE : List (Nat × List Nat) := [(2084, [530]), (2113, [531])]
theorem lc_xE : lcgR k_tt k_aty k_ctX owL calXE wrW (lend wrW stW) (lsn (lsn lsPE 0 (0, 3)) 2 (0, 3)) 2058 5 294 297 = true := by decide +kernel
def calXFE : List (Nat × List Nat) := [(2084, [532]), (2113, [533])]
theorem lc_xFE : lcgR k_tt k_aty k_ctX owL calXFE wrW (lend wrW stW) (lsn (lsn lsPG 0 (0, 3)) 2 (0, 3)) 2058 5 294 297 = true := by decide +kernel
def calXFF : List (Nat × List Nat) := [(2084, [534]), (2113, [535])]
theorem lc_xFF : lcgR k_tt k_aty k_ctX owL calXFF wrW (lend wrW stW) (lsn (lsn lsPQ 0 (0, 3)) 2 (0, 3)) 2058 5 294 297 = true := by decide +kernel
def calXL (c : Nat) : List (Nat × List Nat) := [(2084, [536 + 2 * c]), (2113, [537 + 2 * c])]
theorem lc_xL : ∀ c, c < 3 → lcgR k_tt k_aty k_ctX owL (calXL c) wrW (lend wrW stW) (lsn (lsn (lsPF (0, (c : Int)) ((c : Int) + 1, 3)) 0 (0, 3)) 2 (0, 3)) 2058 5 294 297 = true := by decide +kernel
def calXG (c : Nat) : List (Nat × List Nat) := [(2084, [542 + 2 * c]), (2113, [543 + 2 * c])]
theorem lc_xG : ∀ c, c < 3 → lcgR k_tt k_aty k_ctX owL (calXG c) wrW (lend wrW stW) (lsn (lsn (lsPF ((c : Int) + 1, 3) (0, (c : Int))) 0 (0, 3)) 2 (0, 3)) 2058 5 294 297 = true := by decide +kernel
