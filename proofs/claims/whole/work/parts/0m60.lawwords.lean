theorem in_ps {big ws : List Cond} (ps : List Nat) (h : ws = ps.filterMap (fun i => big[i]?)) : ∀ w ∈ ws, w ∈ big := by
  intro w hw
  rw [h] at hw
  obtain ⟨i, -, hi⟩ := List.mem_filterMap.mp hw
  exact List.mem_of_getElem? hi
set_option maxRecDepth 20000 in
theorem lwi_wsL_law_r1 : ∀ w ∈ wsL_law_r1, w ∈ lw_tbl := in_ps [74, 75, 58, 1051, 1052, 68, 76, 77, 78, 79, 80, 81, 82, 83, 59, 298, 106, 299, 121, 122, 61, 300, 140, 141] (by decide +kernel)
set_option maxRecDepth 20000 in
theorem lwi_wsL_law_r2 : ∀ w ∈ wsL_law_r2, w ∈ lw_tbl := in_ps [62, 301, 302, 303, 304, 305, 85, 86, 87, 88, 89, 60, 105, 107, 109, 111, 91, 92, 93, 104, 94, 96, 124, 125] (by decide +kernel)
set_option maxRecDepth 20000 in
theorem lwi_wsL_law_r3 : ∀ w ∈ wsL_law_r3, w ∈ lw_tbl := in_ps [126, 127, 129, 130, 131, 143, 144, 145, 254, 256, 260, 262, 264, 146, 147, 63, 266, 174, 175, 64, 270, 206, 207, 65] (by decide +kernel)
set_option maxRecDepth 20000 in
theorem lwi_wsL_law_r4 : ∀ w ∈ wsL_law_r4, w ∈ lw_tbl := in_ps [273, 225, 226, 67, 275, 149, 150, 151, 152, 156, 158, 173, 160, 177, 178, 179, 180, 184, 187, 189, 192, 208, 209, 210] (by decide +kernel)
set_option maxRecDepth 20000 in
theorem lwi_wsL_law_r5 : ∀ w ∈ wsL_law_r5, w ∈ lw_tbl := in_ps [211, 215, 216, 217, 212, 213, 66, 214, 228, 229, 230, 231, 233, 236, 239, 242, 1053, 1054, 1055, 1056, 1109, 1057, 1058, 1059] (by decide +kernel)
set_option maxRecDepth 20000 in
theorem lwi_wsL_law_r6 : ∀ w ∈ wsL_law_r6, w ∈ lw_tbl := in_ps [1061, 1062, 1063, 1072, 323, 324, 325, 326, 330, 97, 335, 327, 328, 329, 331, 332, 333, 334, 1110, 1111, 1112, 1113, 1114, 1118] (by decide +kernel)
set_option maxRecDepth 20000 in
theorem lwi_wsL_law_r7 : ∀ w ∈ wsL_law_r7, w ∈ lw_tbl := in_ps [1064, 1119, 1115, 1116, 1117, 336, 337, 338, 339, 110, 404, 108, 277, 340, 341, 342, 343, 98, 344, 346, 0, 347, 255, 257] (by decide +kernel)
set_option maxRecDepth 20000 in
theorem lwi_wsL_law_r8 : ∀ w ∈ wsL_law_r8, w ∈ lw_tbl := in_ps [261, 263, 348, 350, 1, 351, 352, 353, 354, 355, 356, 358, 2, 359, 360, 362, 3, 363, 365, 366, 367, 368, 181, 369] (by decide +kernel)
set_option maxRecDepth 20000 in
theorem lwi_wsL_law_r9 : ∀ w ∈ wsL_law_r9, w ∈ lw_tbl := in_ps [370, 371, 372, 373, 374, 69, 375, 376, 377, 378, 379, 380, 381, 382, 383, 384, 386, 4, 387, 268, 157, 388, 389, 390] (by decide +kernel)
set_option maxRecDepth 20000 in
theorem lwi_wsL_law_r10 : ∀ w ∈ wsL_law_r10, w ∈ lw_tbl := in_ps [391, 392, 394, 5, 395, 278, 397, 398, 399, 400, 401, 402, 405, 406, 407, 408, 409, 410, 411, 412, 413, 415, 414, 70] (by decide +kernel)
set_option maxRecDepth 20000 in
theorem lwi_wsL_law_r11 : ∀ w ∈ wsL_law_r11, w ∈ lw_tbl := in_ps [416, 417, 418, 419, 420, 421, 422, 423, 424, 425, 426, 427, 428, 429, 430, 431, 432, 433, 434, 435, 436, 437, 438, 1120] (by decide +kernel)
set_option maxRecDepth 20000 in
theorem lwi_wsL_law_r12 : ∀ w ∈ wsL_law_r12, w ∈ lw_tbl := in_ps [1121, 1122, 1123, 1065, 1069, 1067, 1071, 1164, 1070, 1060, 1124, 1126, 28, 1127, 1066, 1068, 1132, 1133, 1134, 1135, 1128, 1130, 29, 1131] (by decide +kernel)
set_option maxRecDepth 20000 in
theorem lwi_wsL_law_r13 : ∀ w ∈ wsL_law_r13, w ∈ lw_tbl := in_ps [1136, 1138, 30, 1139, 1140, 1142, 31, 1143, 1144, 1146, 32, 1147, 1148, 1150, 33, 1151, 1152, 1154, 34, 1155, 1156, 1158, 35, 1159] (by decide +kernel)
set_option maxRecDepth 20000 in
theorem lwi_wsL_law_r14 : ∀ w ∈ wsL_law_r14, w ∈ lw_tbl := in_ps [1160, 1162, 36, 1163, 1165, 1166, 1167, 439, 440, 441, 442, 1168, 1169, 1170, 1171, 443, 444, 445, 446, 132, 452, 447, 448, 449] (by decide +kernel)
set_option maxRecDepth 20000 in
theorem lwi_wsL_law_r15 : ∀ w ∈ wsL_law_r15, w ∈ lw_tbl := in_ps [450, 451, 1172, 1173, 1174, 1175, 1176, 453, 454, 455, 456, 457, 458, 459, 460, 461, 462, 71, 463, 464, 466, 467, 468, 469] (by decide +kernel)
set_option maxRecDepth 20000 in
theorem lwi_wsL_law_r16 : ∀ w ∈ wsL_law_r16, w ∈ lw_tbl := in_ps [470, 471, 472, 473, 475, 476, 1177, 1178, 1179, 1180, 1188, 1181, 1183, 37, 1184, 1185, 1186, 1187, 1189, 1191, 38, 1192, 1193, 1195] (by decide +kernel)
set_option maxRecDepth 20000 in
theorem lwi_wsL_law_r17 : ∀ w ∈ wsL_law_r17, w ∈ lw_tbl := in_ps [39, 1196, 477, 478, 479, 480, 95, 481, 483, 6, 484, 485, 486, 487, 488, 490, 491, 492, 494, 7, 495, 259, 496, 498] (by decide +kernel)
set_option maxRecDepth 20000 in
theorem lwi_wsL_law_r18 : ∀ w ∈ wsL_law_r18, w ∈ lw_tbl := in_ps [8, 499, 500, 501, 502, 503, 240, 561, 689, 504, 505, 506, 507, 508, 509, 510, 511, 513, 515, 9, 516, 525, 235, 154] (by decide +kernel)
set_option maxRecDepth 20000 in
theorem lwi_wsL_law_r19 : ∀ w ∈ wsL_law_r19, w ∈ lw_tbl := in_ps [517, 518, 519, 520, 521, 522, 523, 524, 526, 527, 528, 529, 530, 531, 532, 533, 534, 536, 10, 537, 538, 539, 540, 541] (by decide +kernel)
set_option maxRecDepth 20000 in
theorem lwi_wsL_law_r20 : ∀ w ∈ wsL_law_r20, w ∈ lw_tbl := in_ps [542, 544, 11, 545, 547, 548, 549, 550, 551, 552, 553, 554, 555, 556, 557, 558, 559, 560, 562, 563, 564, 565, 566, 567] (by decide +kernel)
set_option maxRecDepth 20000 in
theorem lwi_wsL_law_r21 : ∀ w ∈ wsL_law_r21, w ∈ lw_tbl := in_ps [568, 569, 570, 571, 572, 573, 574, 575, 576, 577, 578, 579, 580, 581, 582, 583, 584, 585, 586, 587, 588, 589, 590, 591] (by decide +kernel)
set_option maxRecDepth 20000 in
theorem lwi_wsL_law_r22 : ∀ w ∈ wsL_law_r22, w ∈ lw_tbl := in_ps [592, 593, 594, 595, 596, 597, 598, 599, 600, 602, 12, 603, 604, 605, 606, 607, 608, 609, 610, 611, 612, 613, 614, 615] (by decide +kernel)
set_option maxRecDepth 20000 in
theorem lwi_wsL_law_r23 : ∀ w ∈ wsL_law_r23, w ∈ lw_tbl := in_ps [616, 185, 617, 618, 619, 620, 621, 622, 623, 624, 625, 626, 627, 628, 629, 630, 631, 632, 633, 634, 635, 636, 637, 638] (by decide +kernel)
set_option maxRecDepth 20000 in
theorem lwi_wsL_law_r24 : ∀ w ∈ wsL_law_r24, w ∈ lw_tbl := in_ps [639, 640, 641, 642, 643, 644, 645, 191, 194, 646, 647, 648, 649, 650, 651, 653, 13, 654, 655, 657, 14, 658, 659, 660] (by decide +kernel)
set_option maxRecDepth 20000 in
theorem lwi_wsL_law_r25 : ∀ w ∈ wsL_law_r25, w ∈ lw_tbl := in_ps [662, 15, 663, 665, 666, 667, 664, 668, 670, 16, 671, 672, 673, 674, 675, 676, 678, 17, 679, 163, 680, 681, 682, 683] (by decide +kernel)
set_option maxRecDepth 20000 in
theorem lwi_wsL_law_r26 : ∀ w ∈ wsL_law_r26, w ∈ lw_tbl := in_ps [684, 685, 686, 687, 688, 1197, 1198, 1199, 1200, 1201, 1203, 40, 1204, 1073, 1205, 1207, 41, 1208, 1209, 1211, 42, 1212, 1322, 1213] (by decide +kernel)
set_option maxRecDepth 20000 in
theorem lwi_wsL_law_r27 : ∀ w ∈ wsL_law_r27, w ∈ lw_tbl := in_ps [1214, 1215, 1216, 1217, 1218, 1219, 1226, 1256, 1220, 1221, 1222, 1223, 1224, 1225, 1227, 1228, 1229, 1230, 1231, 1232, 1233, 1234, 1235, 1236] (by decide +kernel)
set_option maxRecDepth 20000 in
theorem lwi_wsL_law_r28 : ∀ w ∈ wsL_law_r28, w ∈ lw_tbl := in_ps [1237, 1238, 1239, 1240, 1241, 1242, 1243, 1244, 1245, 1246, 1247, 1248, 1249, 1250, 1251, 1252, 1253, 1254, 1255, 1257, 1258, 1259, 1260, 1261] (by decide +kernel)
set_option maxRecDepth 20000 in
theorem lwi_wsL_law_r29 : ∀ w ∈ wsL_law_r29, w ∈ lw_tbl := in_ps [1262, 1263, 1264, 1265, 1266, 1267, 1268, 1269, 1270, 1271, 1272, 1273, 1274, 1275, 1276, 1277, 1278, 1279, 1280, 1281, 1282, 1283, 1284, 1285] (by decide +kernel)
set_option maxRecDepth 20000 in
theorem lwi_wsL_law_r30 : ∀ w ∈ wsL_law_r30, w ∈ lw_tbl := in_ps [1286, 1287, 1288, 1289, 1290, 1291, 1292, 1293, 1294, 1295, 1296, 1297, 1298, 1307, 1299, 1300, 1301, 1302, 1303, 1304, 1305, 1306, 1308, 1309] (by decide +kernel)
set_option maxRecDepth 20000 in
theorem lwi_wsL_law_r31 : ∀ w ∈ wsL_law_r31, w ∈ lw_tbl := in_ps [1310, 1311, 1313, 43, 1314, 1315, 1316, 1317, 1318, 1320, 44, 1321, 690, 691, 692, 693, 234, 694, 695, 696, 697, 698, 700, 701] (by decide +kernel)
set_option maxRecDepth 20000 in
theorem lwi_wsL_law_r32 : ∀ w ∈ wsL_law_r32, w ∈ lw_tbl := in_ps [702, 703, 704, 705, 707, 18, 708, 709, 711, 19, 712, 713, 715, 20, 716, 717, 718, 1323, 1324, 1325, 1326, 1327, 1328, 1330] (by decide +kernel)
set_option maxRecDepth 20000 in
theorem lwi_wsL_law_r33 : ∀ w ∈ wsL_law_r33, w ∈ lw_tbl := in_ps [45, 1331, 1332, 1333, 1334, 719, 720, 721, 722, 723, 724, 725, 726, 727, 1335, 1336, 1337, 1338, 728, 729, 730, 731, 732, 733] (by decide +kernel)
set_option maxRecDepth 20000 in
theorem lwi_wsL_law_r34 : ∀ w ∈ wsL_law_r34, w ∈ lw_tbl := in_ps [734, 735, 736, 738, 21, 739, 740, 742, 22, 743, 744, 745, 746, 747, 748, 749, 750, 751, 1339, 1340, 1341, 1342, 1343, 1344] (by decide +kernel)
set_option maxRecDepth 20000 in
theorem lwi_wsL_law_r35 : ∀ w ∈ wsL_law_r35, w ∈ lw_tbl := in_ps [1345, 1346, 1347, 1348, 1349, 752, 753, 754, 755, 756, 757, 758, 759, 760, 1350, 1351, 1352, 1353, 761, 762, 763, 764, 765, 766] (by decide +kernel)
set_option maxRecDepth 20000 in
theorem lwi_wsL_law_r36 : ∀ w ∈ wsL_law_r36, w ∈ lw_tbl := in_ps [767, 768, 238, 769, 1354, 1355, 1356, 1357, 1358, 770, 771, 772, 773, 774, 776, 23, 777, 269, 162, 778, 779, 780, 781, 782] (by decide +kernel)
set_option maxRecDepth 20000 in
theorem lwi_wsL_law_r37 : ∀ w ∈ wsL_law_r37, w ∈ lw_tbl := in_ps [783, 784, 785, 72, 786, 787, 788, 789, 1359, 1360, 1361, 1362, 1363, 1365, 46, 1366, 1367, 1369, 47, 1370, 1371, 1372, 1373, 790] (by decide +kernel)
set_option maxRecDepth 20000 in
theorem lwi_wsL_law_r38 : ∀ w ∈ wsL_law_r38, w ∈ lw_tbl := in_ps [791, 792, 793, 1374, 1375, 1376, 1377, 794, 795, 796, 797, 159, 1378, 1379, 1380, 1381, 1382, 798, 799, 800, 801, 802, 803, 804] (by decide +kernel)
set_option maxRecDepth 20000 in
theorem lwi_wsL_law_r39 : ∀ w ∈ wsL_law_r39, w ∈ lw_tbl := in_ps [805, 806, 808, 24, 809, 810, 811, 812, 813, 814, 815, 816, 817, 818, 819, 820, 821, 822, 1383, 1384, 1385, 1386, 823, 824] (by decide +kernel)
set_option maxRecDepth 20000 in
theorem lwi_wsL_law_r40 : ∀ w ∈ wsL_law_r40, w ∈ lw_tbl := in_ps [825, 826, 844, 827, 828, 829, 830, 831, 832, 833, 834, 835, 836, 838, 25, 839, 840, 841, 842, 843, 845, 846, 847, 848] (by decide +kernel)
set_option maxRecDepth 20000 in
theorem lwi_wsL_law_r41 : ∀ w ∈ wsL_law_r41, w ∈ lw_tbl := in_ps [849, 851, 26, 852, 1387, 1388, 1389, 1390, 1397, 1391, 1392, 1393, 1394, 1395, 1396, 1398, 1399, 1400, 853, 854, 855, 856, 274, 868] (by decide +kernel)
set_option maxRecDepth 20000 in
theorem lwi_wsL_law_r42 : ∀ w ∈ wsL_law_r42, w ∈ lw_tbl := in_ps [857, 858, 859, 860, 861, 862, 863, 864, 865, 866, 867, 1401, 1402, 1403, 1404, 1412, 1405, 1407, 48, 1408, 1409, 1410, 1411, 869] (by decide +kernel)
set_option maxRecDepth 20000 in
theorem lwi_wsL_law_r43 : ∀ w ∈ wsL_law_r43, w ∈ lw_tbl := in_ps [870, 871, 872, 272, 186, 188, 190, 193, 873, 874, 875, 876, 877, 878, 879, 880, 1413, 1414, 1415, 1416, 1417, 1419, 49, 1420] (by decide +kernel)
set_option maxRecDepth 20000 in
theorem lwi_wsL_law_r44 : ∀ w ∈ wsL_law_r44, w ∈ lw_tbl := in_ps [1421, 1423, 50, 1424, 881, 882, 883, 884, 232, 241, 237, 885, 1425, 1426, 1427, 1428, 1429, 1430, 886, 887, 888, 889, 890, 891] (by decide +kernel)
set_option maxRecDepth 20000 in
theorem lwi_wsL_law_r45 : ∀ w ∈ wsL_law_r45, w ∈ lw_tbl := in_ps [892, 893, 1431, 1432, 1433, 1434, 1435, 1436, 1437, 894, 895, 896, 897, 898, 899, 900, 901, 902, 903, 905, 904, 1438, 1439, 1440] (by decide +kernel)
set_option maxRecDepth 20000 in
theorem lwi_wsL_law_r46 : ∀ w ∈ wsL_law_r46, w ∈ lw_tbl := in_ps [1441, 1442, 1443, 906, 907, 908, 909, 910, 911, 912, 913, 914, 916, 27, 917, 918, 919, 920, 921, 1444, 1445, 1446, 1447, 1448] (by decide +kernel)
set_option maxRecDepth 20000 in
theorem lwi_wsL_law_r47 : ∀ w ∈ wsL_law_r47, w ∈ lw_tbl := in_ps [1450, 51, 1451, 922, 923, 924, 925, 265, 183, 926, 927, 928, 929, 930, 931, 932, 933, 934, 935, 936, 937, 938, 939, 940] (by decide +kernel)
set_option maxRecDepth 20000 in
theorem lwi_wsL_law_r48 : ∀ w ∈ wsL_law_r48, w ∈ lw_tbl := in_ps [941, 942, 943, 944, 945, 946, 948, 949, 950, 951, 1452, 1453, 1454, 1455, 1456, 1458, 52, 1459, 1460, 1461, 1462, 1463, 1465, 53] (by decide +kernel)
set_option maxRecDepth 20000 in
theorem lwi_wsL_law_r49 : ∀ w ∈ wsL_law_r49, w ∈ lw_tbl := in_ps [1466, 1467, 1469, 54, 1470, 952, 953, 954, 955, 1471, 1472, 1473, 1474, 1475, 1476, 1477, 956, 957, 958, 959, 960, 1478, 1479, 1480] (by decide +kernel)
set_option maxRecDepth 20000 in
theorem lwi_wsL_law_r50 : ∀ w ∈ wsL_law_r50, w ∈ lw_tbl := in_ps [1481, 961, 962, 963, 964, 965, 966, 967, 968, 1482, 1483, 1484, 1485, 969, 970, 971, 972, 973, 974, 73, 975, 976, 276, 980] (by decide +kernel)
set_option maxRecDepth 20000 in
theorem lwi_wsL_law_r51 : ∀ w ∈ wsL_law_r51, w ∈ lw_tbl := in_ps [977, 978, 979, 1486, 1487, 1488, 1489, 981, 982, 983, 984, 985, 986, 987, 271, 182, 988, 989, 1490, 1491, 1492, 1493, 1494, 1496] (by decide +kernel)
set_option maxRecDepth 20000 in
theorem lwi_wsL_law_r52 : ∀ w ∈ wsL_law_r52, w ∈ lw_tbl := in_ps [55, 1497, 990, 991, 992, 993, 994, 995, 996, 997, 998, 267, 999, 1000, 1001, 1002, 1003, 1004, 1005, 153, 161, 1007, 1008, 1009] (by decide +kernel)
set_option maxRecDepth 20000 in
theorem lwi_wsL_law_r53 : ∀ w ∈ wsL_law_r53, w ∈ lw_tbl := in_ps [1010, 1011, 1012, 1013, 1498, 1499, 1500, 1501, 1502, 1503, 1504, 1506, 56, 1507, 1508, 1509, 1510, 1014, 1015, 1016, 1017, 1018, 1019, 1020] (by decide +kernel)
set_option maxRecDepth 20000 in
theorem lwi_wsL_law_r54 : ∀ w ∈ wsL_law_r54, w ∈ lw_tbl := in_ps [1021, 258, 1022, 1023, 1024, 1029, 1030, 1031, 1032, 1025, 1026, 1027, 1028, 1033, 1034, 1035, 1511, 1512, 1513, 1514, 1515, 1516, 1517, 1518] (by decide +kernel)
set_option maxRecDepth 20000 in
theorem lwi_wsL_law_r55 : ∀ w ∈ wsL_law_r55, w ∈ lw_tbl := in_ps [1519, 1520, 1521, 1522, 1523, 1036, 1037, 1038, 1039, 1040, 1041, 1042, 1524, 1525, 1526, 1527, 1043, 1044, 1045, 1046, 1528, 1529, 1530, 1531] (by decide +kernel)
set_option maxRecDepth 20000 in
theorem lwi_wsL_law_r56 : ∀ w ∈ wsL_law_r56, w ∈ lw_tbl := in_ps [1047, 1048, 1049, 1050, 155, 1532, 1533, 1534, 1535] (by decide +kernel)
set_option maxRecDepth 20000 in
theorem lwi_wsX100 : ∀ w ∈ wsX100, w ∈ lw_tbl := in_ps [306, 308, 310, 312, 314, 316, 318, 320] (by decide +kernel)
set_option maxRecDepth 20000 in
theorem lwi_wsX110 : ∀ w ∈ wsX110, w ∈ lw_tbl := in_ps [1074, 1076, 1078, 1080, 1082, 1084, 1086, 1088, 1090, 1092, 1094, 1096, 1098, 1100, 1102, 1104, 1106] (by decide +kernel)
set_option maxRecDepth 20000 in
theorem lwi_wsX70 : ∀ w ∈ wsX70, w ∈ lw_tbl := in_ps [112, 114, 116, 118] (by decide +kernel)
set_option maxRecDepth 20000 in
theorem lwi_wsX00 : ∀ w ∈ wsX00, w ∈ lw_tbl := in_ps [133, 135, 137] (by decide +kernel)
set_option maxRecDepth 20000 in
theorem lwi_wsX50 : ∀ w ∈ wsX50, w ∈ lw_tbl := in_ps [279, 281, 283, 285, 287, 289, 291, 293, 295] (by decide +kernel)
set_option maxRecDepth 20000 in
theorem lwi_wsX90 : ∀ w ∈ wsX90, w ∈ lw_tbl := in_ps [99, 101] (by decide +kernel)
set_option maxRecDepth 20000 in
theorem lwi_wsX80 : ∀ w ∈ wsX80, w ∈ lw_tbl := in_ps [164, 166, 168, 170] (by decide +kernel)
set_option maxRecDepth 20000 in
theorem lwi_wsX10 : ∀ w ∈ wsX10, w ∈ lw_tbl := in_ps [195, 197, 199, 201, 203] (by decide +kernel)
set_option maxRecDepth 20000 in
theorem lwi_wsX20 : ∀ w ∈ wsX20, w ∈ lw_tbl := in_ps [218, 220, 222] (by decide +kernel)
set_option maxRecDepth 20000 in
theorem lwi_wsX30 : ∀ w ∈ wsX30, w ∈ lw_tbl := in_ps [243, 245, 247, 249, 251] (by decide +kernel)
