theorem pl_mem {big ws : List Cond} (ps : List Nat) (h : ws = ps.filterMap (fun i => big[i]?)) : ∀ w ∈ ws, w ∈ big := by
  intro w hw
  rw [h] at hw
  obtain ⟨i, -, hi⟩ := List.mem_filterMap.mp hw
  exact List.mem_of_getElem? hi
set_option maxRecDepth 20000 in
theorem in_r1 : ∀ w ∈ wsL_law_r1, w ∈ lw_tbl := pl_mem [99, 100, 85, 947, 948, 95, 101, 102, 103, 104, 105, 106, 107, 108, 86, 326, 327, 328, 125, 126, 87, 329, 330, 331] (by decide +kernel)
set_option maxRecDepth 20000 in
theorem in_r2 : ∀ w ∈ wsL_law_r2, w ∈ lw_tbl := pl_mem [124, 332, 333, 144, 145, 88, 334, 178, 179, 89, 335, 336, 337, 207, 208, 90, 338, 254, 255, 91, 339, 271, 272, 92] (by decide +kernel)
set_option maxRecDepth 20000 in
theorem in_r3 : ∀ w ∈ wsL_law_r3, w ∈ lw_tbl := pl_mem [340, 304, 305, 94, 341, 342, 343, 344, 345, 109, 110, 111, 112, 113, 114, 127, 128, 129, 130, 131, 133, 147, 148, 149] (by decide +kernel)
set_option maxRecDepth 20000 in
theorem in_r4 : ∀ w ∈ wsL_law_r4, w ∈ lw_tbl := pl_mem [150, 162, 163, 164, 180, 181, 182, 183, 184, 187, 188, 189, 190, 185, 186, 209, 210, 211, 212, 215, 216, 217, 213, 218] (by decide +kernel)
set_option maxRecDepth 20000 in
theorem in_r5 : ∀ w ∈ wsL_law_r5, w ∈ lw_tbl := pl_mem [219, 220, 221, 222, 223, 224, 214, 257, 258, 259, 260, 270, 261, 262, 273, 274, 275, 276, 280, 282, 285, 286, 287, 288] (by decide +kernel)
set_option maxRecDepth 20000 in
theorem in_r6 : ∀ w ∈ wsL_law_r6, w ∈ lw_tbl := pl_mem [277, 278, 93, 279, 306, 307, 308, 309, 312, 314, 310, 316, 311, 325, 949, 950, 951, 952, 953, 954, 955, 956, 958, 959] (by decide +kernel)
set_option maxRecDepth 20000 in
theorem in_r7 : ∀ w ∈ wsL_law_r7, w ∈ lw_tbl := pl_mem [961, 962, 963, 964, 966, 967, 968, 969, 971, 972, 973, 974, 975, 976, 977, 978, 980, 981, 986, 387, 388, 389, 390, 116] (by decide +kernel)
set_option maxRecDepth 20000 in
theorem in_r8 : ∀ w ∈ wsL_law_r8, w ∈ lw_tbl := pl_mem [391, 392, 393, 394, 395, 396, 397, 399, 0, 400, 401, 402, 403, 404, 115, 405, 406, 407, 408, 409, 1096, 1097, 1098, 1099] (by decide +kernel)
set_option maxRecDepth 20000 in
theorem in_r9 : ∀ w ∈ wsL_law_r9, w ∈ lw_tbl := pl_mem [1103, 1100, 1101, 1102, 1067, 1064, 1065, 1066, 410, 411, 412, 413, 1104, 1105, 1106, 1107, 414, 415, 416, 417, 1108, 1109, 1110, 1111] (by decide +kernel)
set_option maxRecDepth 20000 in
theorem in_r10 : ∀ w ∈ wsL_law_r10, w ∈ lw_tbl := pl_mem [418, 419, 420, 421, 422, 423, 424, 425, 426, 428, 1, 429, 1112, 1113, 1114, 1115, 1116, 1118, 41, 1119, 960, 1120, 1122, 42] (by decide +kernel)
set_option maxRecDepth 20000 in
theorem in_r11 : ∀ w ∈ wsL_law_r11, w ∈ lw_tbl := pl_mem [1123, 1124, 1126, 43, 1127, 1132, 1133, 1134, 1135, 1136, 1128, 1130, 44, 1131, 430, 431, 432, 433, 434, 436, 2, 437, 438, 439] (by decide +kernel)
set_option maxRecDepth 20000 in
theorem in_r12 : ∀ w ∈ wsL_law_r12, w ∈ lw_tbl := pl_mem [440, 441, 159, 151, 156, 442, 443, 444, 445, 446, 447, 448, 449, 450, 451, 453, 3, 454, 455, 456, 457, 458, 459, 461] (by decide +kernel)
set_option maxRecDepth 20000 in
theorem in_r13 : ∀ w ∈ wsL_law_r13, w ∈ lw_tbl := pl_mem [4, 462, 137, 134, 463, 465, 5, 466, 467, 468, 469, 470, 191, 160, 153, 471, 473, 6, 474, 475, 477, 7, 478, 157] (by decide +kernel)
set_option maxRecDepth 20000 in
theorem in_r14 : ∀ w ∈ wsL_law_r14, w ∈ lw_tbl := pl_mem [479, 480, 481, 482, 483, 484, 485, 486, 487, 488, 489, 490, 491, 493, 8, 494, 496, 497, 498, 499, 501, 9, 502, 503] (by decide +kernel)
set_option maxRecDepth 20000 in
theorem in_r15 : ∀ w ∈ wsL_law_r15, w ∈ lw_tbl := pl_mem [505, 504, 96, 506, 507, 508, 509, 511, 10, 512, 154, 513, 514, 515, 516, 1176, 1177, 1178, 1179, 1141, 1143, 45, 1144, 1169] (by decide +kernel)
set_option maxRecDepth 20000 in
theorem in_r16 : ∀ w ∈ wsL_law_r16, w ∈ lw_tbl := pl_mem [1170, 1171, 1172, 1180, 1182, 47, 1183, 1173, 1174, 1175, 1184, 1186, 48, 1187, 965, 517, 518, 519, 520, 530, 531, 97, 532, 521] (by decide +kernel)
set_option maxRecDepth 20000 in
theorem in_r17 : ∀ w ∈ wsL_law_r17, w ∈ lw_tbl := pl_mem [523, 11, 524, 158, 525, 526, 527, 528, 529, 1137, 1138, 1139, 1140, 1145, 1147, 46, 1148, 533, 534, 535, 536, 1149, 1150, 1151] (by decide +kernel)
set_option maxRecDepth 20000 in
theorem in_r18 : ∀ w ∈ wsL_law_r18, w ∈ lw_tbl := pl_mem [1152, 1153, 1154, 1155, 537, 538, 539, 540, 541, 542, 543, 1156, 1157, 1158, 1159, 1164, 1160, 1161, 1162, 1163, 544, 545, 546, 547] (by decide +kernel)
set_option maxRecDepth 20000 in
theorem in_r19 : ∀ w ∈ wsL_law_r19, w ∈ lw_tbl := pl_mem [138, 548, 549, 550, 551, 136, 552, 553, 554, 555, 1165, 1166, 1167, 1168, 1063, 556, 557, 558, 559, 1430, 1431, 1432, 1433, 970] (by decide +kernel)
set_option maxRecDepth 20000 in
theorem in_r20 : ∀ w ∈ wsL_law_r20, w ∈ lw_tbl := pl_mem [985, 560, 561, 562, 563, 564, 565, 566, 567, 1188, 1189, 1190, 1191, 1192, 1194, 49, 1195, 1196, 1198, 50, 1199, 1200, 1202, 51] (by decide +kernel)
set_option maxRecDepth 20000 in
theorem in_r21 : ∀ w ∈ wsL_law_r21, w ∈ lw_tbl := pl_mem [1203, 1204, 1206, 52, 1207, 1208, 1210, 53, 1211, 1212, 1214, 54, 1215, 1216, 1218, 55, 1219, 1220, 1222, 56, 1223, 1224, 1226, 57] (by decide +kernel)
set_option maxRecDepth 20000 in
theorem in_r22 : ∀ w ∈ wsL_law_r22, w ∈ lw_tbl := pl_mem [1227, 568, 569, 570, 571, 572, 573, 574, 575, 1228, 1229, 1230, 1231, 1232, 1234, 58, 1235, 576, 577, 578, 579, 580, 581, 582] (by decide +kernel)
set_option maxRecDepth 20000 in
theorem in_r23 : ∀ w ∈ wsL_law_r23, w ∈ lw_tbl := pl_mem [583, 1236, 1237, 1238, 1239, 584, 585, 586, 587, 1240, 1241, 1242, 1243, 1244, 1246, 59, 1247, 588, 589, 590, 591, 1248, 1249, 1250] (by decide +kernel)
set_option maxRecDepth 20000 in
theorem in_r24 : ∀ w ∈ wsL_law_r24, w ∈ lw_tbl := pl_mem [1251, 592, 593, 594, 595, 596, 597, 599, 12, 600, 135, 601, 603, 13, 604, 605, 607, 14, 608, 1252, 1253, 1254, 1255, 1268] (by decide +kernel)
set_option maxRecDepth 20000 in
theorem in_r25 : ∀ w ∈ wsL_law_r25, w ∈ lw_tbl := pl_mem [1256, 1258, 60, 1259, 1260, 1262, 61, 1263, 1264, 1266, 62, 1267, 609, 610, 611, 612, 613, 615, 15, 616, 617, 1269, 1270, 1271] (by decide +kernel)
set_option maxRecDepth 20000 in
theorem in_r26 : ∀ w ∈ wsL_law_r26, w ∈ lw_tbl := pl_mem [1272, 1273, 1275, 63, 1276, 618, 619, 620, 621, 1277, 1278, 1279, 1280, 1281, 1283, 64, 1284, 1285, 1286, 1287, 622, 623, 624, 625] (by decide +kernel)
set_option maxRecDepth 20000 in
theorem in_r27 : ∀ w ∈ wsL_law_r27, w ∈ lw_tbl := pl_mem [626, 627, 628, 629, 152, 630, 632, 16, 633, 155, 634, 635, 636, 637, 638, 639, 640, 641, 643, 17, 644, 645, 646, 648] (by decide +kernel)
set_option maxRecDepth 20000 in
theorem in_r28 : ∀ w ∈ wsL_law_r28, w ∈ lw_tbl := pl_mem [650, 18, 651, 1288, 1289, 1290, 1291, 1292, 1293, 1295, 65, 1296, 1297, 1299, 66, 1300, 1301, 1303, 67, 1304, 1305, 1307, 68, 1308] (by decide +kernel)
set_option maxRecDepth 20000 in
theorem in_r29 : ∀ w ∈ wsL_law_r29, w ∈ lw_tbl := pl_mem [1309, 1311, 69, 1312, 1313, 1315, 70, 1316, 652, 653, 654, 655, 656, 657, 658, 659, 225, 161, 226, 660, 662, 19, 663, 664] (by decide +kernel)
set_option maxRecDepth 20000 in
theorem in_r30 : ∀ w ∈ wsL_law_r30, w ∈ lw_tbl := pl_mem [666, 20, 667, 668, 670, 21, 671, 1317, 1318, 1319, 1320, 1321, 1323, 71, 1324, 672, 673, 674, 675, 676, 677, 678, 679, 680] (by decide +kernel)
set_option maxRecDepth 20000 in
theorem in_r31 : ∀ w ∈ wsL_law_r31, w ∈ lw_tbl := pl_mem [682, 22, 683, 684, 686, 23, 687, 688, 689, 690, 691, 692, 693, 695, 24, 696, 698, 697, 699, 700, 701, 702, 1325, 1326] (by decide +kernel)
set_option maxRecDepth 20000 in
theorem in_r32 : ∀ w ∈ wsL_law_r32, w ∈ lw_tbl := pl_mem [1327, 1328, 1329, 1331, 72, 1332, 1333, 1335, 73, 1336, 1337, 1339, 74, 1340, 703, 704, 705, 706, 707, 708, 709, 710, 711, 713] (by decide +kernel)
set_option maxRecDepth 20000 in
theorem in_r33 : ∀ w ∈ wsL_law_r33, w ∈ lw_tbl := pl_mem [25, 714, 715, 716, 718, 26, 719, 1341, 1342, 1343, 1344, 1345, 1347, 75, 1348, 1349, 1351, 76, 1352, 720, 721, 722, 723, 728] (by decide +kernel)
set_option maxRecDepth 20000 in
theorem in_r34 : ∀ w ∈ wsL_law_r34, w ∈ lw_tbl := pl_mem [755, 724, 725, 726, 729, 730, 731, 732, 733, 734, 736, 27, 737, 738, 740, 28, 741, 742, 743, 744, 745, 746, 747, 749] (by decide +kernel)
set_option maxRecDepth 20000 in
theorem in_r35 : ∀ w ∈ wsL_law_r35, w ∈ lw_tbl := pl_mem [29, 750, 752, 753, 754, 756, 757, 758, 759, 1353, 1354, 1355, 1356, 1357, 1358, 1360, 77, 1361, 1362, 1364, 78, 1365, 979, 1366] (by decide +kernel)
set_option maxRecDepth 20000 in
theorem in_r36 : ∀ w ∈ wsL_law_r36, w ∈ lw_tbl := pl_mem [1367, 1368, 1369, 1371, 79, 1372, 1373, 1374, 1375, 1376, 1377, 1378, 1379, 760, 761, 762, 763, 1380, 1381, 1382, 1383, 764, 765, 766] (by decide +kernel)
set_option maxRecDepth 20000 in
theorem in_r37 : ∀ w ∈ wsL_law_r37, w ∈ lw_tbl := pl_mem [767, 768, 769, 770, 771, 772, 773, 98, 774, 775, 776, 777, 778, 780, 30, 781, 1384, 1385, 1386, 1387, 1388, 1390, 80, 1391] (by decide +kernel)
set_option maxRecDepth 20000 in
theorem in_r38 : ∀ w ∈ wsL_law_r38, w ∈ lw_tbl := pl_mem [1392, 1393, 1394, 782, 783, 784, 785, 786, 787, 788, 790, 791, 792, 793, 1395, 1396, 1397, 1398, 794, 795, 796, 797, 281, 283] (by decide +kernel)
set_option maxRecDepth 20000 in
theorem in_r39 : ∀ w ∈ wsL_law_r39, w ∈ lw_tbl := pl_mem [798, 799, 800, 801, 284, 802, 804, 31, 805, 806, 808, 32, 809, 810, 811, 813, 33, 814, 816, 817, 818, 819, 1399, 1400] (by decide +kernel)
set_option maxRecDepth 20000 in
theorem in_r40 : ∀ w ∈ wsL_law_r40, w ∈ lw_tbl := pl_mem [1401, 1402, 1403, 1404, 1406, 81, 1407, 982, 983, 984, 1408, 1409, 1410, 1411, 1412, 1413, 1414, 1416, 82, 1417, 820, 821, 822, 823] (by decide +kernel)
set_option maxRecDepth 20000 in
theorem in_r41 : ∀ w ∈ wsL_law_r41, w ∈ lw_tbl := pl_mem [1418, 1419, 1420, 1421, 824, 825, 826, 827, 1422, 1423, 1424, 1425, 1426, 1428, 83, 1429, 828, 829, 830, 831, 832, 833, 834, 836] (by decide +kernel)
set_option maxRecDepth 20000 in
theorem in_r42 : ∀ w ∈ wsL_law_r42, w ∈ lw_tbl := pl_mem [837, 838, 839, 841, 34, 842, 843, 844, 845, 846, 1056, 1057, 1058, 1059, 1060, 1061, 1062, 1068, 1070, 39, 1071, 957, 847, 848] (by decide +kernel)
set_option maxRecDepth 20000 in
theorem in_r43 : ∀ w ∈ wsL_law_r43, w ∈ lw_tbl := pl_mem [849, 850, 315, 851, 852, 853, 854, 855, 856, 857, 858, 1072, 1073, 1074, 1075, 859, 860, 861, 862, 863, 864, 865, 866, 867] (by decide +kernel)
set_option maxRecDepth 20000 in
theorem in_r44 : ∀ w ∈ wsL_law_r44, w ∈ lw_tbl := pl_mem [868, 869, 870, 871, 1076, 1077, 1078, 1079, 1080, 1082, 40, 1083, 1084, 1085, 1086, 872, 873, 874, 875, 876, 317, 1087, 1088, 1089] (by decide +kernel)
set_option maxRecDepth 20000 in
theorem in_r45 : ∀ w ∈ wsL_law_r45, w ∈ lw_tbl := pl_mem [1090, 1091, 877, 878, 879, 880, 313, 881, 882, 883, 884, 1092, 1093, 1094, 1095, 885, 886, 887, 888, 889, 890, 891, 1434, 1435] (by decide +kernel)
set_option maxRecDepth 20000 in
theorem in_r46 : ∀ w ∈ wsL_law_r46, w ∈ lw_tbl := pl_mem [1436, 1437, 1438, 892, 893, 894, 895, 1439, 1440, 1441, 1442, 896, 897, 898, 899, 900, 1443, 1444, 1445, 1446, 901, 902, 903, 904] (by decide +kernel)
set_option maxRecDepth 20000 in
theorem in_r47 : ∀ w ∈ wsL_law_r47, w ∈ lw_tbl := pl_mem [905, 906, 907, 908, 909, 910, 911, 912, 914, 35, 915, 916, 918, 919, 920, 921, 922, 923, 925, 36, 926, 927, 928, 929] (by decide +kernel)
set_option maxRecDepth 20000 in
theorem in_r48 : ∀ w ∈ wsL_law_r48, w ∈ lw_tbl := pl_mem [930, 931, 933, 37, 934, 935, 936, 937, 938, 940, 38, 941, 942, 943, 944, 945, 946, 1447, 1448, 1449, 1450, 1451, 1452, 1453] (by decide +kernel)
set_option maxRecDepth 20000 in
theorem in_r49 : ∀ w ∈ wsL_law_r49, w ∈ lw_tbl := pl_mem [1454, 1455, 1456, 1457] (by decide +kernel)
set_option maxRecDepth 20000 in
theorem in_fX8 : ∀ w ∈ wsX80, w ∈ lw_tbl := pl_mem [346, 348, 350, 352, 354, 356, 358, 360, 362, 364, 366, 368, 370, 372, 374, 376, 378, 380, 382, 384] (by decide +kernel)
set_option maxRecDepth 20000 in
theorem in_fX9 : ∀ w ∈ wsX90, w ∈ lw_tbl := pl_mem [987, 989, 991, 993, 995, 997, 999, 1001, 1003, 1005, 1007, 1009, 1011, 1013, 1015, 1017, 1019, 1021, 1023, 1025, 1027, 1029, 1031, 1033, 1035, 1037, 1039, 1041, 1043, 1045, 1047, 1049, 1051, 1053] (by decide +kernel)
set_option maxRecDepth 20000 in
theorem in_fX5 : ∀ w ∈ wsX50, w ∈ lw_tbl := pl_mem [117, 119, 121] (by decide +kernel)
set_option maxRecDepth 20000 in
theorem in_fX3 : ∀ w ∈ wsX30, w ∈ lw_tbl := pl_mem [139, 141] (by decide +kernel)
set_option maxRecDepth 20000 in
theorem in_fX2 : ∀ w ∈ wsX20, w ∈ lw_tbl := pl_mem [165, 167, 169, 171, 173, 175] (by decide +kernel)
set_option maxRecDepth 20000 in
theorem in_fX1 : ∀ w ∈ wsX10, w ∈ lw_tbl := pl_mem [192, 194, 196, 198, 200, 202, 204] (by decide +kernel)
set_option maxRecDepth 20000 in
theorem in_fX0 : ∀ w ∈ wsX00, w ∈ lw_tbl := pl_mem [227, 229, 231, 233, 235, 237, 239, 241, 243, 245, 247, 249, 251] (by decide +kernel)
set_option maxRecDepth 20000 in
theorem in_fX7 : ∀ w ∈ wsX70, w ∈ lw_tbl := pl_mem [263, 265, 267] (by decide +kernel)
set_option maxRecDepth 20000 in
theorem in_fX6 : ∀ w ∈ wsX60, w ∈ lw_tbl := pl_mem [289, 291, 293, 295, 297, 299, 301] (by decide +kernel)
set_option maxRecDepth 20000 in
theorem in_fX4 : ∀ w ∈ wsX40, w ∈ lw_tbl := pl_mem [318, 320, 322] (by decide +kernel)
theorem UW_in : ∀ w ∈ UW, w ∈ lw_tbl := List.forall_mem_append.mpr ⟨List.forall_mem_append.mpr ⟨List.forall_mem_append.mpr ⟨List.forall_mem_append.mpr ⟨List.forall_mem_append.mpr ⟨List.forall_mem_append.mpr ⟨List.forall_mem_append.mpr ⟨List.forall_mem_append.mpr ⟨List.forall_mem_append.mpr ⟨List.forall_mem_append.mpr ⟨List.forall_mem_append.mpr ⟨List.forall_mem_append.mpr ⟨in_r1, List.forall_mem_append.mpr ⟨in_r2, List.forall_mem_append.mpr ⟨in_r3, List.forall_mem_append.mpr ⟨in_r4, List.forall_mem_append.mpr ⟨in_r5, List.forall_mem_append.mpr ⟨in_r6, List.forall_mem_append.mpr ⟨in_r7, List.forall_mem_append.mpr ⟨in_r8, List.forall_mem_append.mpr ⟨in_r9, List.forall_mem_append.mpr ⟨in_r10, List.forall_mem_append.mpr ⟨in_r11, List.forall_mem_append.mpr ⟨in_r12, List.forall_mem_append.mpr ⟨in_r13, List.forall_mem_append.mpr ⟨in_r14, List.forall_mem_append.mpr ⟨in_r15, List.forall_mem_append.mpr ⟨in_r16, List.forall_mem_append.mpr ⟨in_r17, List.forall_mem_append.mpr ⟨in_r18, List.forall_mem_append.mpr ⟨in_r19, List.forall_mem_append.mpr ⟨in_r20, List.forall_mem_append.mpr ⟨in_r21, List.forall_mem_append.mpr ⟨in_r22, List.forall_mem_append.mpr ⟨in_r23, List.forall_mem_append.mpr ⟨in_r24, List.forall_mem_append.mpr ⟨in_r25, List.forall_mem_append.mpr ⟨in_r26, List.forall_mem_append.mpr ⟨in_r27, List.forall_mem_append.mpr ⟨in_r28, List.forall_mem_append.mpr ⟨in_r29, List.forall_mem_append.mpr ⟨in_r30, List.forall_mem_append.mpr ⟨in_r31, List.forall_mem_append.mpr ⟨in_r32, List.forall_mem_append.mpr ⟨in_r33, List.forall_mem_append.mpr ⟨in_r34, List.forall_mem_append.mpr ⟨in_r35, List.forall_mem_append.mpr ⟨in_r36, List.forall_mem_append.mpr ⟨in_r37, List.forall_mem_append.mpr ⟨in_r38, List.forall_mem_append.mpr ⟨in_r39, List.forall_mem_append.mpr ⟨in_r40, List.forall_mem_append.mpr ⟨in_r41, List.forall_mem_append.mpr ⟨in_r42, List.forall_mem_append.mpr ⟨in_r43, List.forall_mem_append.mpr ⟨in_r44, List.forall_mem_append.mpr ⟨in_r45, List.forall_mem_append.mpr ⟨in_r46, List.forall_mem_append.mpr ⟨in_r47, List.forall_mem_append.mpr ⟨in_r48, in_r49⟩⟩⟩⟩⟩⟩⟩⟩⟩⟩⟩⟩⟩⟩⟩⟩⟩⟩⟩⟩⟩⟩⟩⟩⟩⟩⟩⟩⟩⟩⟩⟩⟩⟩⟩⟩⟩⟩⟩⟩⟩⟩⟩⟩⟩⟩⟩⟩, in_fX8⟩, in_fX9⟩, in_fX5⟩, in_fX3⟩, in_fX2⟩, in_fX1⟩, in_fX0⟩, in_fX7⟩, in_fX6⟩, in_fX4⟩, fun _ h => absurd h List.not_mem_nil⟩
theorem in_over : Cond.arrayOver (.array .int) ∈ lw_tbl := List.mem_of_getElem? (i := 132) (by decide +kernel)
theorem in_lays : Cond.laysStatic "PoundVotes" "DIGEST_YEARS" "[I" ∈ lw_tbl := List.mem_of_getElem? (i := 917) (by decide +kernel)
