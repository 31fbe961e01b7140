section
def floatDs : List String := ["(D)D", "(DD)D", "(DDD)D", "(F)F", "(FF)F", "(FFF)F"]
/-- of each method: 0 instance, 1 static, 2 constructor; the places of its words: instance or static, selects, initialized -/
def mWs : List (Nat × Nat × Nat × Nat) := [(2, 343, 0, 119), (0, 911, 912, 119), (0, 917, 918, 119), (0, 930, 931, 119), (0, 934, 935, 119), (0, 948, 949, 119), (0, 954, 41, 119), (0, 959, 42, 119), (0, 967, 968, 119), (0, 972, 43, 119), (0, 976, 44, 119), (2, 290, 0, 117), (0, 538, 539, 117), (0, 543, 11, 117), (0, 547, 12, 117), (1, 550, 0, 117), (0, 554, 13, 117), (1, 557, 0, 117), (0, 561, 14, 117), (1, 564, 0, 117), (0, 569, 570, 117), (0, 573, 574, 117), (0, 578, 579, 117), (0, 1003, 1004, 117), (2, 146, 0, 114), (0, 512, 513, 114), (0, 517, 6, 114), (0, 521, 7, 114), (0, 525, 8, 114), (0, 585, 586, 114), (0, 590, 15, 114), (1, 657, 0, 114), (0, 987, 988, 114), (0, 1161, 1162, 114), (2, 310, 0, 118), (0, 852, 853, 118), (0, 857, 35, 118), (0, 863, 36, 118), (0, 868, 37, 118), (0, 873, 38, 118), (0, 881, 39, 118), (0, 888, 889, 118), (0, 892, 893, 118), (2, 357, 0, 120), (0, 1041, 1042, 120), (0, 1049, 1050, 120), (0, 1074, 1075, 120), (0, 1080, 1081, 120), (0, 1110, 1111, 120), (0, 1118, 1119, 120), (0, 1130, 1131, 120), (0, 1148, 1149, 120), (2, 140, 0, 113), (0, 425, 426, 113), (0, 430, 0, 113), (0, 437, 438, 113), (0, 441, 442, 113), (0, 445, 446, 113), (0, 450, 1, 113), (0, 454, 2, 113), (0, 458, 3, 113), (0, 475, 476, 113), (0, 493, 494, 113), (0, 500, 501, 113), (0, 505, 5, 113), (1, 509, 0, 113), (0, 599, 600, 113), (0, 609, 610, 113), (0, 613, 614, 113), (0, 625, 626, 113), (0, 633, 634, 113), (0, 646, 647, 113), (0, 665, 666, 113), (0, 670, 17, 113), (0, 678, 679, 113), (0, 683, 18, 113), (0, 983, 984, 113), (0, 995, 996, 113), (0, 1013, 1014, 113), (2, 243, 0, 116), (0, 704, 705, 116), (0, 840, 841, 116), (2, 237, 0, 115), (0, 692, 693, 115), (0, 700, 701, 115), (0, 709, 19, 115), (0, 713, 20, 115), (1, 716, 0, 115), (1, 719, 0, 115), (0, 723, 21, 115), (0, 727, 22, 115), (0, 732, 23, 115), (0, 789, 24, 115), (1, 797, 0, 115), (0, 801, 25, 115), (0, 805, 26, 115), (0, 809, 27, 115), (0, 813, 28, 115), (0, 817, 29, 115), (0, 821, 30, 115), (0, 825, 31, 115), (0, 829, 32, 115), (0, 833, 33, 115), (0, 837, 34, 115), (2, 132, 0, 112), (0, 415, 416, 112), (1, 419, 0, 112), (1, 422, 0, 112), (0, 433, 434, 112), (0, 467, 468, 112), (0, 472, 4, 112), (1, 479, 0, 112), (0, 483, 484, 112), (0, 488, 489, 112), (0, 531, 9, 112), (0, 535, 10, 112), (0, 595, 596, 112), (0, 617, 618, 112), (1, 621, 0, 112), (0, 629, 630, 112), (0, 638, 16, 112), (0, 642, 643, 112), (0, 652, 653, 112), (0, 661, 662, 112), (0, 674, 675, 112), (0, 688, 689, 112), (0, 696, 697, 112), (0, 844, 845, 112), (0, 848, 849, 112), (1, 885, 0, 112), (0, 897, 898, 112), (0, 902, 903, 112), (0, 907, 908, 112), (0, 922, 923, 112), (0, 927, 40, 112), (0, 940, 941, 112), (0, 944, 945, 112), (0, 963, 964, 112), (0, 979, 980, 112), (0, 999, 1000, 112), (0, 1008, 1009, 112), (1, 1019, 0, 112), (0, 1022, 1023, 112), (1, 1026, 0, 112), (0, 1030, 1031, 112), (0, 1034, 1035, 112), (1, 1038, 0, 112), (0, 1046, 45, 112), (0, 1055, 46, 112), (0, 1059, 47, 112), (0, 1063, 48, 112), (0, 1067, 49, 112), (0, 1070, 1071, 112), (0, 1086, 1087, 112), (0, 1090, 1091, 112), (0, 1094, 1095, 112), (0, 1098, 1099, 112), (0, 1102, 1103, 112), (0, 1107, 50, 112), (0, 1114, 1115, 112), (0, 1122, 1123, 112), (0, 1126, 1127, 112), (0, 1135, 1136, 112), (0, 1139, 1140, 112), (0, 1144, 1145, 112), (0, 1153, 1154, 112), (0, 1157, 1158, 112), (2, 1169, 0, 121), (0, 1175, 51, 121), (0, 1387, 1388, 121), (1, 1392, 0, 121), (0, 1396, 52, 121), (0, 1399, 1400, 121), (1, 1403, 0, 121), (0, 1408, 1409, 121), (0, 1415, 53, 121), (0, 1419, 54, 121), (0, 1423, 55, 121), (0, 1426, 1427, 121), (0, 1431, 56, 121), (0, 1435, 57, 121), (0, 1438, 1439, 121), (0, 1442, 1443, 121), (0, 1447, 58, 121), (1, 1450, 0, 121), (0, 1454, 59, 121), (0, 1458, 60, 121), (0, 1462, 61, 121), (0, 1466, 62, 121), (0, 1469, 1470, 121), (1, 1474, 0, 121), (0, 1478, 1479, 121), (0, 1483, 1484, 121), (0, 1488, 63, 121), (0, 1492, 64, 121), (0, 1496, 65, 121), (0, 1505, 66, 121), (0, 1509, 67, 121), (0, 1513, 68, 121), (0, 1517, 69, 121), (0, 1521, 70, 121), (0, 1525, 71, 121), (0, 1529, 72, 121), (0, 1533, 73, 121), (0, 1537, 74, 121), (0, 1541, 75, 121), (0, 1545, 76, 121), (0, 1549, 77, 121), (0, 1553, 78, 121), (0, 1558, 1559, 121), (0, 1562, 1563, 121), (0, 1570, 79, 121), (1, 1573, 0, 121), (0, 1577, 80, 121), (0, 1581, 81, 121), (0, 1592, 82, 121), (1, 1595, 0, 121), (0, 1599, 83, 121), (0, 1603, 84, 121), (0, 1607, 85, 121), (1, 1610, 0, 121), (0, 1614, 86, 121), (0, 1618, 87, 121), (0, 1623, 1624, 121), (0, 1628, 88, 121), (0, 1635, 89, 121), (0, 1639, 90, 121), (0, 1642, 1643, 121), (0, 1647, 91, 121), (0, 1650, 1651, 121), (0, 1655, 92, 121), (0, 1658, 1659, 121), (0, 1663, 93, 121), (0, 1666, 1667, 121), (0, 1671, 94, 121), (0, 1675, 95, 121), (0, 1678, 1679, 121), (0, 1685, 96, 121), (0, 1689, 97, 121), (0, 1693, 98, 121), (0, 1697, 99, 121), (0, 1701, 100, 121), (0, 1705, 101, 121), (0, 1708, 1709, 121), (0, 1712, 1713, 121), (0, 1716, 1717, 121), (0, 1721, 102, 121), (0, 1724, 1725, 121), (0, 1728, 1729, 121), (0, 1733, 103, 121), (0, 1736, 1737, 121), (1, 1740, 0, 121), (0, 1744, 104, 121), (0, 1747, 1748, 121), (0, 1751, 1752, 121), (0, 1756, 105, 121), (0, 1759, 1760, 121), (0, 1765, 106, 121), (1, 1768, 0, 121), (0, 1771, 1772, 121), (0, 1776, 1777, 121), (0, 1782, 1783, 121), (1, 1786, 0, 121), (0, 1791, 107, 121), (0, 1795, 108, 121), (0, 1799, 109, 121), (0, 1802, 1803, 121), (0, 1806, 1807, 121), (0, 1811, 1812, 121), (0, 1815, 1816, 121), (0, 1819, 1820, 121), (0, 1824, 1825, 121), (0, 1829, 110, 121), (0, 1832, 1833, 121), (0, 1836, 1837, 121), (0, 1840, 1841, 121), (0, 1844, 1845, 121), (0, 1848, 1849, 121), (0, 1853, 1854, 121), (0, 1858, 1859, 121), (0, 1862, 1863, 121), (1, 1866, 0, 121), (1, 461, 0, 122), (1, 464, 0, 122), (1, 497, 0, 122), (1, 582, 0, 122), (1, 603, 0, 123)]
def mW (i : Nat) : Nat × Nat × Nat × Nat := mWs.getD i (9, 0, 0, 0)
def mP (i : Nat) : Nat := ((parseMethodDescriptor (mN i).desc).map (fun d => d.parameters.length)).getD 99
def mCk (i : Nat) : Bool := decide ((mN i).cls ≠ "java/lang/invoke/MethodHandle" ∧ (mN i).cls ≠ "java/lang/invoke/VarHandle" ∧ (parseMethodDescriptor (mN i).desc).map (fun d => d.parameters.length) = some (mP i) ∧ lw_tbl[(mW i).2.2.2]? = some (Cond.initialized (mN i).cls) ∧ (plainName (mN i).cls = true ∨ ((mN i).cls = "java/lang/Math" ∧ floatDs.contains (mN i).desc = false)) ∧ mL i ≤ 81) && (match (mW i).1 with | 0 => decide (lw_tbl[(mW i).2.1]? = some (Cond.instanceMethod (mN i)) ∧ lw_tbl[(mW i).2.2.1]? = some (Cond.selects (mN i).cls (mN i) (mN i))) | 1 => decide (lw_tbl[(mW i).2.1]? = some (Cond.static (mN i))) | 2 => decide (lw_tbl[(mW i).2.1]? = some (Cond.instanceMethod (mN i)) ∧ (mN i).name = "<init>" ∧ mR i = none) | _ => false)
set_option maxRecDepth 100000 in
theorem mk_0 : mCk 0 = true := by decide +kernel
set_option maxRecDepth 100000 in
theorem mk_1 : mCk 1 = true := by decide +kernel
set_option maxRecDepth 100000 in
theorem mk_2 : mCk 2 = true := by decide +kernel
set_option maxRecDepth 100000 in
theorem mk_3 : mCk 3 = true := by decide +kernel
set_option maxRecDepth 100000 in
theorem mk_4 : mCk 4 = true := by decide +kernel
set_option maxRecDepth 100000 in
theorem mk_5 : mCk 5 = true := by decide +kernel
set_option maxRecDepth 100000 in
theorem mk_6 : mCk 6 = true := by decide +kernel
set_option maxRecDepth 100000 in
theorem mk_7 : mCk 7 = true := by decide +kernel
set_option maxRecDepth 100000 in
theorem mk_8 : mCk 8 = true := by decide +kernel
set_option maxRecDepth 100000 in
theorem mk_9 : mCk 9 = true := by decide +kernel
set_option maxRecDepth 100000 in
theorem mk_10 : mCk 10 = true := by decide +kernel
set_option maxRecDepth 100000 in
theorem mk_11 : mCk 11 = true := by decide +kernel
set_option maxRecDepth 100000 in
theorem mk_12 : mCk 12 = true := by decide +kernel
set_option maxRecDepth 100000 in
theorem mk_13 : mCk 13 = true := by decide +kernel
set_option maxRecDepth 100000 in
theorem mk_14 : mCk 14 = true := by decide +kernel
set_option maxRecDepth 100000 in
theorem mk_15 : mCk 15 = true := by decide +kernel
set_option maxRecDepth 100000 in
theorem mk_16 : mCk 16 = true := by decide +kernel
set_option maxRecDepth 100000 in
theorem mk_17 : mCk 17 = true := by decide +kernel
set_option maxRecDepth 100000 in
theorem mk_18 : mCk 18 = true := by decide +kernel
set_option maxRecDepth 100000 in
theorem mk_19 : mCk 19 = true := by decide +kernel
set_option maxRecDepth 100000 in
theorem mk_20 : mCk 20 = true := by decide +kernel
set_option maxRecDepth 100000 in
theorem mk_21 : mCk 21 = true := by decide +kernel
set_option maxRecDepth 100000 in
theorem mk_22 : mCk 22 = true := by decide +kernel
set_option maxRecDepth 100000 in
theorem mk_23 : mCk 23 = true := by decide +kernel
set_option maxRecDepth 100000 in
theorem mk_24 : mCk 24 = true := by decide +kernel
set_option maxRecDepth 100000 in
theorem mk_25 : mCk 25 = true := by decide +kernel
set_option maxRecDepth 100000 in
theorem mk_26 : mCk 26 = true := by decide +kernel
set_option maxRecDepth 100000 in
theorem mk_27 : mCk 27 = true := by decide +kernel
set_option maxRecDepth 100000 in
theorem mk_28 : mCk 28 = true := by decide +kernel
set_option maxRecDepth 100000 in
theorem mk_29 : mCk 29 = true := by decide +kernel
set_option maxRecDepth 100000 in
theorem mk_30 : mCk 30 = true := by decide +kernel
set_option maxRecDepth 100000 in
theorem mk_31 : mCk 31 = true := by decide +kernel
set_option maxRecDepth 100000 in
theorem mk_32 : mCk 32 = true := by decide +kernel
set_option maxRecDepth 100000 in
theorem mk_33 : mCk 33 = true := by decide +kernel
set_option maxRecDepth 100000 in
theorem mk_34 : mCk 34 = true := by decide +kernel
set_option maxRecDepth 100000 in
theorem mk_35 : mCk 35 = true := by decide +kernel
set_option maxRecDepth 100000 in
theorem mk_36 : mCk 36 = true := by decide +kernel
set_option maxRecDepth 100000 in
theorem mk_37 : mCk 37 = true := by decide +kernel
set_option maxRecDepth 100000 in
theorem mk_38 : mCk 38 = true := by decide +kernel
set_option maxRecDepth 100000 in
theorem mk_39 : mCk 39 = true := by decide +kernel
set_option maxRecDepth 100000 in
theorem mk_40 : mCk 40 = true := by decide +kernel
set_option maxRecDepth 100000 in
theorem mk_41 : mCk 41 = true := by decide +kernel
set_option maxRecDepth 100000 in
theorem mk_42 : mCk 42 = true := by decide +kernel
set_option maxRecDepth 100000 in
theorem mk_43 : mCk 43 = true := by decide +kernel
set_option maxRecDepth 100000 in
theorem mk_44 : mCk 44 = true := by decide +kernel
set_option maxRecDepth 100000 in
theorem mk_45 : mCk 45 = true := by decide +kernel
set_option maxRecDepth 100000 in
theorem mk_46 : mCk 46 = true := by decide +kernel
set_option maxRecDepth 100000 in
theorem mk_47 : mCk 47 = true := by decide +kernel
set_option maxRecDepth 100000 in
theorem mk_48 : mCk 48 = true := by decide +kernel
set_option maxRecDepth 100000 in
theorem mk_49 : mCk 49 = true := by decide +kernel
set_option maxRecDepth 100000 in
theorem mk_50 : mCk 50 = true := by decide +kernel
set_option maxRecDepth 100000 in
theorem mk_51 : mCk 51 = true := by decide +kernel
set_option maxRecDepth 100000 in
theorem mk_52 : mCk 52 = true := by decide +kernel
set_option maxRecDepth 100000 in
theorem mk_53 : mCk 53 = true := by decide +kernel
set_option maxRecDepth 100000 in
theorem mk_54 : mCk 54 = true := by decide +kernel
set_option maxRecDepth 100000 in
theorem mk_55 : mCk 55 = true := by decide +kernel
set_option maxRecDepth 100000 in
theorem mk_56 : mCk 56 = true := by decide +kernel
set_option maxRecDepth 100000 in
theorem mk_57 : mCk 57 = true := by decide +kernel
set_option maxRecDepth 100000 in
theorem mk_58 : mCk 58 = true := by decide +kernel
set_option maxRecDepth 100000 in
theorem mk_59 : mCk 59 = true := by decide +kernel
set_option maxRecDepth 100000 in
theorem mk_60 : mCk 60 = true := by decide +kernel
set_option maxRecDepth 100000 in
theorem mk_61 : mCk 61 = true := by decide +kernel
set_option maxRecDepth 100000 in
theorem mk_62 : mCk 62 = true := by decide +kernel
set_option maxRecDepth 100000 in
theorem mk_63 : mCk 63 = true := by decide +kernel
set_option maxRecDepth 100000 in
theorem mk_64 : mCk 64 = true := by decide +kernel
set_option maxRecDepth 100000 in
theorem mk_65 : mCk 65 = true := by decide +kernel
set_option maxRecDepth 100000 in
theorem mk_66 : mCk 66 = true := by decide +kernel
set_option maxRecDepth 100000 in
theorem mk_67 : mCk 67 = true := by decide +kernel
set_option maxRecDepth 100000 in
theorem mk_68 : mCk 68 = true := by decide +kernel
set_option maxRecDepth 100000 in
theorem mk_69 : mCk 69 = true := by decide +kernel
set_option maxRecDepth 100000 in
theorem mk_70 : mCk 70 = true := by decide +kernel
set_option maxRecDepth 100000 in
theorem mk_71 : mCk 71 = true := by decide +kernel
set_option maxRecDepth 100000 in
theorem mk_72 : mCk 72 = true := by decide +kernel
set_option maxRecDepth 100000 in
theorem mk_73 : mCk 73 = true := by decide +kernel
set_option maxRecDepth 100000 in
theorem mk_74 : mCk 74 = true := by decide +kernel
set_option maxRecDepth 100000 in
theorem mk_75 : mCk 75 = true := by decide +kernel
set_option maxRecDepth 100000 in
theorem mk_76 : mCk 76 = true := by decide +kernel
set_option maxRecDepth 100000 in
theorem mk_77 : mCk 77 = true := by decide +kernel
set_option maxRecDepth 100000 in
theorem mk_78 : mCk 78 = true := by decide +kernel
set_option maxRecDepth 100000 in
theorem mk_79 : mCk 79 = true := by decide +kernel
set_option maxRecDepth 100000 in
theorem mk_80 : mCk 80 = true := by decide +kernel
set_option maxRecDepth 100000 in
theorem mk_81 : mCk 81 = true := by decide +kernel
set_option maxRecDepth 100000 in
theorem mk_82 : mCk 82 = true := by decide +kernel
set_option maxRecDepth 100000 in
theorem mk_83 : mCk 83 = true := by decide +kernel
set_option maxRecDepth 100000 in
theorem mk_84 : mCk 84 = true := by decide +kernel
set_option maxRecDepth 100000 in
theorem mk_85 : mCk 85 = true := by decide +kernel
set_option maxRecDepth 100000 in
theorem mk_86 : mCk 86 = true := by decide +kernel
set_option maxRecDepth 100000 in
theorem mk_87 : mCk 87 = true := by decide +kernel
set_option maxRecDepth 100000 in
theorem mk_88 : mCk 88 = true := by decide +kernel
set_option maxRecDepth 100000 in
theorem mk_89 : mCk 89 = true := by decide +kernel
set_option maxRecDepth 100000 in
theorem mk_90 : mCk 90 = true := by decide +kernel
set_option maxRecDepth 100000 in
theorem mk_91 : mCk 91 = true := by decide +kernel
set_option maxRecDepth 100000 in
theorem mk_92 : mCk 92 = true := by decide +kernel
set_option maxRecDepth 100000 in
theorem mk_93 : mCk 93 = true := by decide +kernel
set_option maxRecDepth 100000 in
theorem mk_94 : mCk 94 = true := by decide +kernel
set_option maxRecDepth 100000 in
theorem mk_95 : mCk 95 = true := by decide +kernel
set_option maxRecDepth 100000 in
theorem mk_96 : mCk 96 = true := by decide +kernel
set_option maxRecDepth 100000 in
theorem mk_97 : mCk 97 = true := by decide +kernel
set_option maxRecDepth 100000 in
theorem mk_98 : mCk 98 = true := by decide +kernel
set_option maxRecDepth 100000 in
theorem mk_99 : mCk 99 = true := by decide +kernel
set_option maxRecDepth 100000 in
theorem mk_100 : mCk 100 = true := by decide +kernel
set_option maxRecDepth 100000 in
theorem mk_101 : mCk 101 = true := by decide +kernel
set_option maxRecDepth 100000 in
theorem mk_102 : mCk 102 = true := by decide +kernel
set_option maxRecDepth 100000 in
theorem mk_103 : mCk 103 = true := by decide +kernel
set_option maxRecDepth 100000 in
theorem mk_104 : mCk 104 = true := by decide +kernel
set_option maxRecDepth 100000 in
theorem mk_105 : mCk 105 = true := by decide +kernel
set_option maxRecDepth 100000 in
theorem mk_106 : mCk 106 = true := by decide +kernel
set_option maxRecDepth 100000 in
theorem mk_107 : mCk 107 = true := by decide +kernel
set_option maxRecDepth 100000 in
theorem mk_108 : mCk 108 = true := by decide +kernel
set_option maxRecDepth 100000 in
theorem mk_109 : mCk 109 = true := by decide +kernel
set_option maxRecDepth 100000 in
theorem mk_110 : mCk 110 = true := by decide +kernel
set_option maxRecDepth 100000 in
theorem mk_111 : mCk 111 = true := by decide +kernel
set_option maxRecDepth 100000 in
theorem mk_112 : mCk 112 = true := by decide +kernel
set_option maxRecDepth 100000 in
theorem mk_113 : mCk 113 = true := by decide +kernel
set_option maxRecDepth 100000 in
theorem mk_114 : mCk 114 = true := by decide +kernel
set_option maxRecDepth 100000 in
theorem mk_115 : mCk 115 = true := by decide +kernel
set_option maxRecDepth 100000 in
theorem mk_116 : mCk 116 = true := by decide +kernel
set_option maxRecDepth 100000 in
theorem mk_117 : mCk 117 = true := by decide +kernel
set_option maxRecDepth 100000 in
theorem mk_118 : mCk 118 = true := by decide +kernel
set_option maxRecDepth 100000 in
theorem mk_119 : mCk 119 = true := by decide +kernel
set_option maxRecDepth 100000 in
theorem mk_120 : mCk 120 = true := by decide +kernel
set_option maxRecDepth 100000 in
theorem mk_121 : mCk 121 = true := by decide +kernel
set_option maxRecDepth 100000 in
theorem mk_122 : mCk 122 = true := by decide +kernel
set_option maxRecDepth 100000 in
theorem mk_123 : mCk 123 = true := by decide +kernel
set_option maxRecDepth 100000 in
theorem mk_124 : mCk 124 = true := by decide +kernel
set_option maxRecDepth 100000 in
theorem mk_125 : mCk 125 = true := by decide +kernel
set_option maxRecDepth 100000 in
theorem mk_126 : mCk 126 = true := by decide +kernel
set_option maxRecDepth 100000 in
theorem mk_127 : mCk 127 = true := by decide +kernel
set_option maxRecDepth 100000 in
theorem mk_128 : mCk 128 = true := by decide +kernel
set_option maxRecDepth 100000 in
theorem mk_129 : mCk 129 = true := by decide +kernel
set_option maxRecDepth 100000 in
theorem mk_130 : mCk 130 = true := by decide +kernel
set_option maxRecDepth 100000 in
theorem mk_131 : mCk 131 = true := by decide +kernel
set_option maxRecDepth 100000 in
theorem mk_132 : mCk 132 = true := by decide +kernel
set_option maxRecDepth 100000 in
theorem mk_133 : mCk 133 = true := by decide +kernel
set_option maxRecDepth 100000 in
theorem mk_134 : mCk 134 = true := by decide +kernel
set_option maxRecDepth 100000 in
theorem mk_135 : mCk 135 = true := by decide +kernel
set_option maxRecDepth 100000 in
theorem mk_136 : mCk 136 = true := by decide +kernel
set_option maxRecDepth 100000 in
theorem mk_137 : mCk 137 = true := by decide +kernel
set_option maxRecDepth 100000 in
theorem mk_138 : mCk 138 = true := by decide +kernel
set_option maxRecDepth 100000 in
theorem mk_139 : mCk 139 = true := by decide +kernel
set_option maxRecDepth 100000 in
theorem mk_140 : mCk 140 = true := by decide +kernel
set_option maxRecDepth 100000 in
theorem mk_141 : mCk 141 = true := by decide +kernel
set_option maxRecDepth 100000 in
theorem mk_142 : mCk 142 = true := by decide +kernel
set_option maxRecDepth 100000 in
theorem mk_143 : mCk 143 = true := by decide +kernel
set_option maxRecDepth 100000 in
theorem mk_144 : mCk 144 = true := by decide +kernel
set_option maxRecDepth 100000 in
theorem mk_145 : mCk 145 = true := by decide +kernel
set_option maxRecDepth 100000 in
theorem mk_146 : mCk 146 = true := by decide +kernel
set_option maxRecDepth 100000 in
theorem mk_147 : mCk 147 = true := by decide +kernel
set_option maxRecDepth 100000 in
theorem mk_148 : mCk 148 = true := by decide +kernel
set_option maxRecDepth 100000 in
theorem mk_149 : mCk 149 = true := by decide +kernel
set_option maxRecDepth 100000 in
theorem mk_150 : mCk 150 = true := by decide +kernel
set_option maxRecDepth 100000 in
theorem mk_151 : mCk 151 = true := by decide +kernel
set_option maxRecDepth 100000 in
theorem mk_152 : mCk 152 = true := by decide +kernel
set_option maxRecDepth 100000 in
theorem mk_153 : mCk 153 = true := by decide +kernel
set_option maxRecDepth 100000 in
theorem mk_154 : mCk 154 = true := by decide +kernel
set_option maxRecDepth 100000 in
theorem mk_155 : mCk 155 = true := by decide +kernel
set_option maxRecDepth 100000 in
theorem mk_156 : mCk 156 = true := by decide +kernel
set_option maxRecDepth 100000 in
theorem mk_157 : mCk 157 = true := by decide +kernel
set_option maxRecDepth 100000 in
theorem mk_158 : mCk 158 = true := by decide +kernel
set_option maxRecDepth 100000 in
theorem mk_159 : mCk 159 = true := by decide +kernel
set_option maxRecDepth 100000 in
theorem mk_160 : mCk 160 = true := by decide +kernel
set_option maxRecDepth 100000 in
theorem mk_161 : mCk 161 = true := by decide +kernel
set_option maxRecDepth 100000 in
theorem mk_162 : mCk 162 = true := by decide +kernel
set_option maxRecDepth 100000 in
theorem mk_163 : mCk 163 = true := by decide +kernel
set_option maxRecDepth 100000 in
theorem mk_164 : mCk 164 = true := by decide +kernel
set_option maxRecDepth 100000 in
theorem mk_165 : mCk 165 = true := by decide +kernel
set_option maxRecDepth 100000 in
theorem mk_166 : mCk 166 = true := by decide +kernel
set_option maxRecDepth 100000 in
theorem mk_167 : mCk 167 = true := by decide +kernel
set_option maxRecDepth 100000 in
theorem mk_168 : mCk 168 = true := by decide +kernel
set_option maxRecDepth 100000 in
theorem mk_169 : mCk 169 = true := by decide +kernel
set_option maxRecDepth 100000 in
theorem mk_170 : mCk 170 = true := by decide +kernel
set_option maxRecDepth 100000 in
theorem mk_171 : mCk 171 = true := by decide +kernel
set_option maxRecDepth 100000 in
theorem mk_172 : mCk 172 = true := by decide +kernel
set_option maxRecDepth 100000 in
theorem mk_173 : mCk 173 = true := by decide +kernel
set_option maxRecDepth 100000 in
theorem mk_174 : mCk 174 = true := by decide +kernel
set_option maxRecDepth 100000 in
theorem mk_175 : mCk 175 = true := by decide +kernel
set_option maxRecDepth 100000 in
theorem mk_176 : mCk 176 = true := by decide +kernel
set_option maxRecDepth 100000 in
theorem mk_177 : mCk 177 = true := by decide +kernel
set_option maxRecDepth 100000 in
theorem mk_178 : mCk 178 = true := by decide +kernel
set_option maxRecDepth 100000 in
theorem mk_179 : mCk 179 = true := by decide +kernel
set_option maxRecDepth 100000 in
theorem mk_180 : mCk 180 = true := by decide +kernel
set_option maxRecDepth 100000 in
theorem mk_181 : mCk 181 = true := by decide +kernel
set_option maxRecDepth 100000 in
theorem mk_182 : mCk 182 = true := by decide +kernel
set_option maxRecDepth 100000 in
theorem mk_183 : mCk 183 = true := by decide +kernel
set_option maxRecDepth 100000 in
theorem mk_184 : mCk 184 = true := by decide +kernel
set_option maxRecDepth 100000 in
theorem mk_185 : mCk 185 = true := by decide +kernel
set_option maxRecDepth 100000 in
theorem mk_186 : mCk 186 = true := by decide +kernel
set_option maxRecDepth 100000 in
theorem mk_187 : mCk 187 = true := by decide +kernel
set_option maxRecDepth 100000 in
theorem mk_188 : mCk 188 = true := by decide +kernel
set_option maxRecDepth 100000 in
theorem mk_189 : mCk 189 = true := by decide +kernel
set_option maxRecDepth 100000 in
theorem mk_190 : mCk 190 = true := by decide +kernel
set_option maxRecDepth 100000 in
theorem mk_191 : mCk 191 = true := by decide +kernel
set_option maxRecDepth 100000 in
theorem mk_192 : mCk 192 = true := by decide +kernel
set_option maxRecDepth 100000 in
theorem mk_193 : mCk 193 = true := by decide +kernel
set_option maxRecDepth 100000 in
theorem mk_194 : mCk 194 = true := by decide +kernel
set_option maxRecDepth 100000 in
theorem mk_195 : mCk 195 = true := by decide +kernel
set_option maxRecDepth 100000 in
theorem mk_196 : mCk 196 = true := by decide +kernel
set_option maxRecDepth 100000 in
theorem mk_197 : mCk 197 = true := by decide +kernel
set_option maxRecDepth 100000 in
theorem mk_198 : mCk 198 = true := by decide +kernel
set_option maxRecDepth 100000 in
theorem mk_199 : mCk 199 = true := by decide +kernel
set_option maxRecDepth 100000 in
theorem mk_200 : mCk 200 = true := by decide +kernel
set_option maxRecDepth 100000 in
theorem mk_201 : mCk 201 = true := by decide +kernel
set_option maxRecDepth 100000 in
theorem mk_202 : mCk 202 = true := by decide +kernel
set_option maxRecDepth 100000 in
theorem mk_203 : mCk 203 = true := by decide +kernel
set_option maxRecDepth 100000 in
theorem mk_204 : mCk 204 = true := by decide +kernel
set_option maxRecDepth 100000 in
theorem mk_205 : mCk 205 = true := by decide +kernel
set_option maxRecDepth 100000 in
theorem mk_206 : mCk 206 = true := by decide +kernel
set_option maxRecDepth 100000 in
theorem mk_207 : mCk 207 = true := by decide +kernel
set_option maxRecDepth 100000 in
theorem mk_208 : mCk 208 = true := by decide +kernel
set_option maxRecDepth 100000 in
theorem mk_209 : mCk 209 = true := by decide +kernel
set_option maxRecDepth 100000 in
theorem mk_210 : mCk 210 = true := by decide +kernel
set_option maxRecDepth 100000 in
theorem mk_211 : mCk 211 = true := by decide +kernel
set_option maxRecDepth 100000 in
theorem mk_212 : mCk 212 = true := by decide +kernel
set_option maxRecDepth 100000 in
theorem mk_213 : mCk 213 = true := by decide +kernel
set_option maxRecDepth 100000 in
theorem mk_214 : mCk 214 = true := by decide +kernel
set_option maxRecDepth 100000 in
theorem mk_215 : mCk 215 = true := by decide +kernel
set_option maxRecDepth 100000 in
theorem mk_216 : mCk 216 = true := by decide +kernel
set_option maxRecDepth 100000 in
theorem mk_217 : mCk 217 = true := by decide +kernel
set_option maxRecDepth 100000 in
theorem mk_218 : mCk 218 = true := by decide +kernel
set_option maxRecDepth 100000 in
theorem mk_219 : mCk 219 = true := by decide +kernel
set_option maxRecDepth 100000 in
theorem mk_220 : mCk 220 = true := by decide +kernel
set_option maxRecDepth 100000 in
theorem mk_221 : mCk 221 = true := by decide +kernel
set_option maxRecDepth 100000 in
theorem mk_222 : mCk 222 = true := by decide +kernel
set_option maxRecDepth 100000 in
theorem mk_223 : mCk 223 = true := by decide +kernel
set_option maxRecDepth 100000 in
theorem mk_224 : mCk 224 = true := by decide +kernel
set_option maxRecDepth 100000 in
theorem mk_225 : mCk 225 = true := by decide +kernel
set_option maxRecDepth 100000 in
theorem mk_226 : mCk 226 = true := by decide +kernel
set_option maxRecDepth 100000 in
theorem mk_227 : mCk 227 = true := by decide +kernel
set_option maxRecDepth 100000 in
theorem mk_228 : mCk 228 = true := by decide +kernel
set_option maxRecDepth 100000 in
theorem mk_229 : mCk 229 = true := by decide +kernel
set_option maxRecDepth 100000 in
theorem mk_230 : mCk 230 = true := by decide +kernel
set_option maxRecDepth 100000 in
theorem mk_231 : mCk 231 = true := by decide +kernel
set_option maxRecDepth 100000 in
theorem mk_232 : mCk 232 = true := by decide +kernel
set_option maxRecDepth 100000 in
theorem mk_233 : mCk 233 = true := by decide +kernel
set_option maxRecDepth 100000 in
theorem mk_234 : mCk 234 = true := by decide +kernel
set_option maxRecDepth 100000 in
theorem mk_235 : mCk 235 = true := by decide +kernel
set_option maxRecDepth 100000 in
theorem mk_236 : mCk 236 = true := by decide +kernel
set_option maxRecDepth 100000 in
theorem mk_237 : mCk 237 = true := by decide +kernel
set_option maxRecDepth 100000 in
theorem mk_238 : mCk 238 = true := by decide +kernel
set_option maxRecDepth 100000 in
theorem mk_239 : mCk 239 = true := by decide +kernel
set_option maxRecDepth 100000 in
theorem mk_240 : mCk 240 = true := by decide +kernel
set_option maxRecDepth 100000 in
theorem mk_241 : mCk 241 = true := by decide +kernel
set_option maxRecDepth 100000 in
theorem mk_242 : mCk 242 = true := by decide +kernel
set_option maxRecDepth 100000 in
theorem mk_243 : mCk 243 = true := by decide +kernel
set_option maxRecDepth 100000 in
theorem mk_244 : mCk 244 = true := by decide +kernel
set_option maxRecDepth 100000 in
theorem mk_245 : mCk 245 = true := by decide +kernel
set_option maxRecDepth 100000 in
theorem mk_246 : mCk 246 = true := by decide +kernel
set_option maxRecDepth 100000 in
theorem mk_247 : mCk 247 = true := by decide +kernel
set_option maxRecDepth 100000 in
theorem mk_248 : mCk 248 = true := by decide +kernel
set_option maxRecDepth 100000 in
theorem mk_249 : mCk 249 = true := by decide +kernel
set_option maxRecDepth 100000 in
theorem mk_250 : mCk 250 = true := by decide +kernel
set_option maxRecDepth 100000 in
theorem mk_251 : mCk 251 = true := by decide +kernel
set_option maxRecDepth 100000 in
theorem mk_252 : mCk 252 = true := by decide +kernel
set_option maxRecDepth 100000 in
theorem mk_253 : mCk 253 = true := by decide +kernel
set_option maxRecDepth 100000 in
theorem mk_254 : mCk 254 = true := by decide +kernel
set_option maxRecDepth 100000 in
theorem mk_255 : mCk 255 = true := by decide +kernel
set_option maxRecDepth 100000 in
theorem mk_256 : mCk 256 = true := by decide +kernel
set_option maxRecDepth 100000 in
theorem mk_257 : mCk 257 = true := by decide +kernel
set_option maxRecDepth 100000 in
theorem mk_258 : mCk 258 = true := by decide +kernel
set_option maxRecDepth 100000 in
theorem mk_259 : mCk 259 = true := by decide +kernel
set_option maxRecDepth 100000 in
theorem mk_260 : mCk 260 = true := by decide +kernel
set_option maxRecDepth 100000 in
theorem mk_261 : mCk 261 = true := by decide +kernel
set_option maxRecDepth 100000 in
theorem mk_262 : mCk 262 = true := by decide +kernel
set_option maxRecDepth 100000 in
theorem mk_263 : mCk 263 = true := by decide +kernel
set_option maxRecDepth 100000 in
theorem mk_264 : mCk 264 = true := by decide +kernel
set_option maxRecDepth 100000 in
theorem mk_265 : mCk 265 = true := by decide +kernel
set_option maxRecDepth 100000 in
theorem mk_266 : mCk 266 = true := by decide +kernel
set_option maxRecDepth 100000 in
theorem mk_267 : mCk 267 = true := by decide +kernel
set_option maxRecDepth 100000 in
theorem mk_268 : mCk 268 = true := by decide +kernel
set_option maxRecDepth 100000 in
theorem mk_269 : mCk 269 = true := by decide +kernel
set_option maxRecDepth 100000 in
theorem mk_270 : mCk 270 = true := by decide +kernel
set_option maxRecDepth 100000 in
theorem mk_271 : mCk 271 = true := by decide +kernel
set_option maxRecDepth 100000 in
theorem mk_272 : mCk 272 = true := by decide +kernel
set_option maxRecDepth 100000 in
theorem mk_273 : mCk 273 = true := by decide +kernel
set_option maxRecDepth 100000 in
theorem mk_274 : mCk 274 = true := by decide +kernel
set_option maxRecDepth 100000 in
theorem mk_275 : mCk 275 = true := by decide +kernel
set_option maxRecDepth 100000 in
theorem mk_276 : mCk 276 = true := by decide +kernel
set_option maxRecDepth 100000 in
theorem mk_277 : mCk 277 = true := by decide +kernel
set_option maxRecDepth 100000 in
theorem mk_278 : mCk 278 = true := by decide +kernel
set_option maxRecDepth 100000 in
theorem mk_279 : mCk 279 = true := by decide +kernel
set_option maxRecDepth 100000 in
theorem mk_280 : mCk 280 = true := by decide +kernel
set_option maxRecDepth 100000 in
theorem mk_281 : mCk 281 = true := by decide +kernel
set_option maxRecDepth 100000 in
theorem mk_282 : mCk 282 = true := by decide +kernel
set_option maxRecDepth 100000 in
theorem mk_283 : mCk 283 = true := by decide +kernel
set_option maxRecDepth 100000 in
theorem mk_284 : mCk 284 = true := by decide +kernel
set_option maxRecDepth 100000 in
theorem mk_285 : mCk 285 = true := by decide +kernel
set_option maxRecDepth 100000 in
theorem mk_286 : mCk 286 = true := by decide +kernel
/-- the methods that a class links: index, method, 1 by a nest mate, place in the tables -/
def lTs : List (List (Nat × Nat × Nat × Nat)) := [[(21, 61, 0, 914), (25, 71, 0, 915), (29, 1, 0, 920), (33, 4, 0, 933), (37, 282, 0, 937), (45, 286, 0, 951), (51, 6, 0, 952), (54, 111, 1, 956), (58, 7, 0, 957), (63, 9, 0, 970), (66, 10, 0, 974)],
 [(35, 13, 0, 541), (42, 282, 0, 566), (48, 283, 0, 567), (51, 21, 0, 572), (55, 111, 1, 576), (72, 285, 0, 581), (76, 29, 0, 584), (82, 22, 0, 1006), (89, 14, 0, 545), (93, 15, 0, 549), (97, 16, 0, 552), (100, 18, 0, 559), (109, 17, 0, 556), (113, 19, 0, 563)],
 [(33, 30, 0, 588), (37, 283, 0, 592), (42, 282, 0, 593), (45, 26, 0, 515), (49, 27, 0, 519), (53, 28, 0, 523)],
 [(35, 36, 0, 855), (39, 37, 0, 861), (43, 38, 0, 866), (47, 39, 0, 871), (56, 67, 0, 859), (60, 68, 0, 860), (64, 111, 1, 865), (68, 31, 0, 870), (73, 66, 0, 875), (79, 21, 0, 876), (87, 63, 0, 877), (90, 22, 0, 878), (94, 40, 0, 879), (98, 282, 0, 883), (104, 129, 1, 884), (108, 107, 1, 895)],
 [(30, 282, 0, 1077), (36, 283, 0, 1078), (39, 47, 0, 1079)],
 [(11, 24, 1, 145), (56, 32, 0, 986), (78, 107, 1, 1016), (82, 70, 0, 1017), (86, 111, 1, 478), (90, 54, 0, 428), (94, 56, 0, 440), (98, 57, 0, 444), (102, 58, 0, 448), (106, 60, 0, 456), (110, 59, 0, 452), (114, 282, 0, 460), (119, 283, 0, 463), (122, 61, 0, 672), (126, 73, 0, 668), (129, 75, 0, 681), (132, 66, 0, 685), (135, 286, 0, 686), (140, 284, 0, 496), (143, 285, 0, 649), (146, 29, 0, 650), (150, 65, 0, 508), (153, 25, 0, 511), (157, 64, 0, 503), (160, 62, 0, 507)],
 [],
 [(36, 79, 0, 242), (41, 80, 0, 703), (44, 85, 0, 707), (47, 95, 0, 803), (51, 97, 0, 811), (58, 96, 0, 807), (61, 98, 0, 815), (64, 81, 0, 839), (67, 99, 0, 819), (70, 100, 0, 823), (73, 101, 0, 827), (76, 102, 0, 831), (79, 103, 0, 835), (82, 86, 0, 711), (86, 87, 0, 715), (90, 88, 0, 718), (93, 89, 0, 721), (96, 93, 0, 796), (99, 94, 0, 799), (102, 90, 0, 725), (106, 92, 0, 787), (111, 91, 0, 730)],
 [(9, 52, 1, 139), (24, 82, 1, 236), (31, 11, 1, 289), (38, 34, 1, 309), (45, 0, 1, 342), (56, 79, 0, 352), (63, 43, 1, 356), (72, 106, 0, 418), (79, 53, 0, 424), (83, 107, 0, 421), (89, 55, 0, 436), (93, 110, 0, 470), (97, 61, 0, 474), (100, 57, 0, 481), (108, 56, 0, 486), (119, 62, 0, 492), (123, 63, 0, 499), (127, 114, 0, 529), (130, 115, 0, 533), (134, 12, 0, 537), (138, 20, 0, 568), (145, 22, 0, 577), (152, 66, 0, 598), (159, 286, 0, 602), (164, 67, 0, 608), (167, 68, 0, 612), (176, 118, 0, 620), (180, 69, 0, 624), (186, 70, 0, 632), (190, 120, 0, 636), (194, 71, 0, 645), (198, 31, 0, 656), (201, 72, 0, 664), (204, 74, 0, 677), (210, 83, 0, 691), (213, 84, 0, 699), (220, 35, 0, 851), (233, 41, 0, 887), (237, 42, 0, 891), (240, 111, 0, 900), (243, 129, 0, 905), (247, 1, 0, 910), (250, 2, 0, 916), (253, 134, 0, 925), (257, 3, 0, 929), (261, 4, 0, 938), (265, 5, 0, 947), (268, 8, 0, 966), (271, 76, 0, 982), (275, 77, 0, 994), (278, 23, 0, 1002), (287, 78, 0, 1012), (291, 141, 0, 1018), (295, 143, 0, 1025), (299, 146, 0, 1037), (302, 44, 0, 1040), (307, 147, 0, 1044), (311, 148, 0, 1053), (314, 149, 0, 1057), (317, 150, 0, 1061), (320, 151, 0, 1065), (323, 45, 0, 1048), (336, 46, 0, 1073), (340, 47, 0, 1084), (343, 158, 0, 1105), (346, 49, 0, 1117), (352, 48, 0, 1109), (355, 50, 0, 1129), (359, 108, 0, 1142), (362, 51, 0, 1147), (365, 33, 0, 1160), (368, 21, 0, 640)],
 [(147, 168, 0, 1173), (158, 170, 0, 1391), (170, 171, 0, 1394), (174, 173, 0, 1402), (178, 176, 0, 1417), (181, 177, 0, 1421), (189, 175, 0, 1413), (193, 179, 0, 1429), (197, 180, 0, 1433), (200, 187, 0, 1460), (204, 188, 0, 1464), (207, 186, 0, 1456), (211, 222, 0, 1616), (218, 184, 0, 1449), (221, 185, 0, 1452), (225, 183, 0, 1445), (230, 190, 0, 1473), (234, 212, 0, 1572), (237, 220, 0, 1609), (240, 211, 0, 1568), (243, 226, 0, 1637), (246, 221, 0, 1612), (250, 219, 0, 1605), (267, 195, 0, 1494), (297, 197, 0, 1507), (304, 199, 0, 1515), (307, 194, 0, 1490), (310, 196, 0, 1503), (332, 207, 0, 1547), (335, 203, 0, 1531), (338, 206, 0, 1543), (342, 200, 0, 1519), (345, 208, 0, 1551), (348, 205, 0, 1539), (352, 202, 0, 1527), (355, 204, 0, 1535), (360, 201, 0, 1523), (363, 198, 0, 1511), (367, 193, 0, 1486), (389, 214, 0, 1579), (392, 216, 0, 1594), (395, 215, 0, 1590), (401, 213, 0, 1575), (404, 217, 0, 1597), (407, 218, 0, 1601), (410, 224, 0, 1626), (419, 225, 0, 1633), (422, 228, 0, 1645), (425, 230, 0, 1653), (428, 232, 0, 1661), (431, 234, 0, 1669), (434, 235, 0, 1673), (437, 242, 0, 1703), (440, 241, 0, 1699), (444, 238, 0, 1687), (456, 239, 0, 1691), (459, 240, 0, 1695), (467, 237, 0, 1683), (471, 246, 0, 1719), (474, 249, 0, 1731), (477, 251, 0, 1739), (480, 252, 0, 1742), (483, 255, 0, 1754), (488, 257, 0, 1763), (491, 258, 0, 1767), (498, 259, 0, 1780), (501, 264, 0, 1793), (504, 262, 0, 1785), (509, 263, 0, 1789), (512, 265, 0, 1797), (516, 267, 0, 1805), (527, 272, 0, 1827), (530, 174, 0, 1851), (535, 281, 0, 1865)],
 [(9, 104, 0, 131), (12, 167, 0, 1168), (13, 105, 0, 414), (17, 172, 0, 1398), (18, 108, 0, 432), (22, 174, 0, 1407), (23, 109, 0, 466), (26, 178, 0, 1425), (27, 112, 0, 482), (31, 181, 0, 1437), (32, 113, 0, 487), (35, 210, 0, 1561), (36, 116, 0, 594), (39, 223, 0, 1622), (40, 117, 0, 616), (43, 169, 0, 1386), (44, 119, 0, 628), (47, 227, 0, 1641), (48, 121, 0, 641), (51, 182, 0, 1441), (52, 122, 0, 651), (56, 189, 0, 1468), (57, 123, 0, 660), (60, 229, 0, 1649), (61, 124, 0, 673), (65, 231, 0, 1657), (66, 125, 0, 687), (69, 191, 0, 1477), (70, 126, 0, 695), (73, 192, 0, 1482), (74, 127, 0, 843), (77, 209, 0, 1557), (78, 128, 0, 847), (81, 236, 0, 1677), (82, 130, 0, 896), (85, 243, 0, 1707), (86, 131, 0, 901), (89, 244, 0, 1711), (90, 132, 0, 906), (93, 245, 0, 1715), (94, 133, 0, 921), (97, 247, 0, 1723), (98, 136, 0, 943), (101, 248, 0, 1727), (102, 137, 0, 962), (105, 250, 0, 1735), (106, 135, 0, 939), (109, 253, 0, 1746), (110, 138, 0, 978), (113, 233, 0, 1665), (114, 139, 0, 998), (117, 254, 0, 1750), (118, 140, 0, 1007), (122, 256, 0, 1758), (123, 142, 0, 1021), (127, 260, 0, 1775), (128, 144, 0, 1029), (131, 259, 0, 1770), (132, 145, 0, 1033), (135, 261, 0, 1781), (136, 152, 0, 1069), (139, 266, 0, 1801), (140, 153, 0, 1085), (143, 268, 0, 1810), (144, 154, 0, 1089), (147, 269, 0, 1814), (148, 155, 0, 1093), (151, 270, 0, 1818), (152, 156, 0, 1097), (155, 267, 0, 1822), (156, 157, 0, 1101), (159, 271, 0, 1823), (160, 159, 0, 1113), (163, 273, 0, 1831), (164, 160, 0, 1121), (167, 274, 0, 1835), (168, 161, 0, 1125), (172, 275, 0, 1839), (173, 162, 0, 1134), (176, 276, 0, 1843), (177, 163, 0, 1138), (180, 277, 0, 1847), (181, 164, 0, 1143), (184, 278, 0, 1852), (185, 165, 0, 1152), (188, 279, 0, 1857), (189, 166, 0, 1156), (192, 280, 0, 1861)],
 [],
 []]
def lT (o : Nat) : List (Nat × Nat × Nat × Nat) := lTs.getD o []
def lCk (o : Nat) (e : Nat × Nat × Nat × Nat) : Bool := decide (e.2.1 < 287) && (if e.2.2.1 = 1 then decide (lw_tbl[e.2.2.2]? = some (Cond.methodLinkNest (cN o) e.1 (mN e.2.1) "VectorShelf")) else decide (lw_tbl[e.2.2.2]? = some (Cond.methodLink (cN o) e.1 (mN e.2.1))))
set_option maxRecDepth 100000 in
set_option maxHeartbeats 4000000 in
theorem l_all : ∀ o, o < 13 → (lT o).all (lCk o) = true := by decide +kernel
/-- the constants that a class links: index, value, place in the tables -/
def cTs : List (List (Nat × Value × Nat)) := [[(62, .int (999999999), 961)],
 [],
 [(16, .int (999999), 149), (57, .float 1065353200, 528), (58, .float 1082130432, 527), (59, .float 1065353224, 659)],
 [],
 [(43, .float 1048576000, 1083), (44, .float 1082130432, 1052), (45, .long (1000), 1151)],
 [],
 [],
 [],
 [(112, .int (-99999), 491), (183, .int (999999), 623), (197, .int (999999999), 655), (285, .long (-4611686018427387904), 1011), (298, .int (1103515245), 1028)],
 [(146, .int (999999), 1172), (154, .long (-999), 1405), (156, .long (999), 1406), (168, .long (6), 1390), (185, .long (-99), 1411), (187, .long (99), 1412), (215, .float 1082130432, 1620), (216, .float 1065353200, 1621), (217, .float 1065353224, 1476), (228, .long (999999999), 1472), (253, .long (255), 1481), (276, .long (97), 1498), (278, .long (122), 1499), (280, .long (48), 1500), (282, .long (57), 1501), (288, .long (10), 1502), (350, .long (43), 1555), (358, .long (60), 1556), (373, .long (2), 1583), (375, .long (2048), 1584), (377, .long (1000), 1585), (379, .long (256), 1586), (381, .long (100), 1587), (383, .long (16), 1588), (385, .long (8), 1567), (387, .long (7046029254386353131), 1589), (398, .long (12), 1565), (400, .int (-99999), 1566), (413, .long (11), 1630), (415, .long (3), 1631), (417, .long (9), 1632), (463, .long (5), 1681), (465, .long (7), 1682), (486, .long (-4611686018427387904), 1762), (495, .int (1103515245), 1774), (496, .long (20), 1779), (507, .long (4), 1788), (525, .long (-1), 1809), (534, .float 1132068864, 1856)],
 [],
 [],
 [(265, .int (1431655765), 605), (266, .int (858993459), 606), (267, .int (252645135), 607)]]
def cT (o : Nat) : List (Nat × Value × Nat) := cTs.getD o []
def cCk (o : Nat) (e : Nat × Value × Nat) : Bool := match e.2.1 with | .int v => decide (lw_tbl[e.2.2]? = some (Cond.constant (cN o) e.1 v)) | .long v => decide (lw_tbl[e.2.2]? = some (Cond.constantLong (cN o) e.1 v)) | .float v => decide (lw_tbl[e.2.2]? = some (Cond.constantFloat (cN o) e.1 v)) | _ => false
set_option maxRecDepth 100000 in
set_option maxHeartbeats 4000000 in
theorem c_all : ∀ o, o < 13 → (cT o).all (cCk o) = true := by decide +kernel
def mOs : List Nat := [0, 0, 0, 0, 0, 0, 0, 0, 0, 0, 0, 1, 1, 1, 1, 1, 1, 1, 1, 1, 1, 1, 1, 1, 2, 2, 2, 2, 2, 2, 2, 2, 2, 2, 3, 3, 3, 3, 3, 3, 3, 3, 3, 4, 4, 4, 4, 4, 4, 4, 4, 4, 5, 5, 5, 5, 5, 5, 5, 5, 5, 5, 5, 5, 5, 5, 5, 5, 5, 5, 5, 5, 5, 5, 5, 5, 5, 5, 5, 6, 6, 6, 7, 7, 7, 7, 7, 7, 7, 7, 7, 7, 7, 7, 7, 7, 7, 7, 7, 7, 7, 7, 7, 7, 8, 8, 8, 8, 8, 8, 8, 8, 8, 8, 8, 8, 8, 8, 8, 8, 8, 8, 8, 8, 8, 8, 8, 8, 8, 8, 8, 8, 8, 8, 8, 8, 8, 8, 8, 8, 8, 8, 8, 8, 8, 8, 8, 8, 8, 8, 8, 8, 8, 8, 8, 8, 8, 8, 8, 8, 8, 8, 8, 8, 8, 8, 8, 9, 9, 9, 9, 9, 9, 9, 9, 9, 9, 9, 9, 9, 9, 9, 9, 9, 9, 9, 9, 9, 9, 9, 9, 9, 9, 9, 9, 9, 9, 9, 9, 9, 9, 9, 9, 9, 9, 9, 9, 9, 9, 9, 9, 9, 9, 9, 9, 9, 9, 9, 9, 9, 9, 9, 9, 9, 9, 9, 9, 9, 9, 9, 9, 9, 9, 9, 9, 9, 9, 9, 9, 9, 9, 9, 9, 9, 9, 9, 9, 9, 9, 9, 9, 9, 9, 9, 9, 9, 9, 9, 9, 9, 9, 9, 9, 9, 9, 9, 9, 9, 9, 9, 9, 9, 9, 9, 9, 9, 9, 9, 9, 9, 9, 9, 11, 11, 11, 11, 12, 10]
def mO (i : Nat) : Nat := mOs.getD i 99
theorem m_own : ∀ i, i < 288 → (mN i).cls = cN (mO i) := by decide +kernel
set_option maxRecDepth 100000 in
theorem tbl_good : gTbl.all goodWord = true := by rw [List.all_eq_true]; intro w hw; exact (List.mem_filter.mp hw).2
/-- the classes that a class links: index, class, place in the tables -/
def kTs : List (List (Nat × Nat × Nat)) := [[], [], [], [], [], [(9, 2, 143)], [], [(34, 6, 240)], [(7, 5, 137), (22, 7, 234), (29, 1, 287), (36, 3, 307), (43, 0, 340), (50, 6, 350), (57, 4, 353)], [], [(7, 8, 129), (10, 9, 1166)], [], []]
def kT (o : Nat) : List (Nat × Nat × Nat) := kTs.getD o []
def kI : List Nat := [341, 288, 144, 308, 355, 138, 241, 235, 130, 1167]
def kIn : List Nat := [119, 117, 114, 118, 120, 113, 116, 115, 112, 121]
def kCk (o : Nat) (e : Nat × Nat × Nat) : Bool := decide (e.2.1 < 10 ∧ lw_tbl[e.2.2]? = some (Cond.classLink (cN o) e.1 (clsT.getD e.2.1 (RX0, TX0, 0)).1) ∧ lw_tbl[kI.getD e.2.1 0]? = some (Cond.instantiable (clsT.getD e.2.1 (RX0, TX0, 0)).1 (clsT.getD e.2.1 (RX0, TX0, 0)).2.2) ∧ lw_tbl[kIn.getD e.2.1 0]? = some (Cond.initialized (clsT.getD e.2.1 (RX0, TX0, 0)).1))
set_option maxRecDepth 100000 in
theorem k_all : ∀ o, o < 13 → (kT o).all (kCk o) = true := by decide +kernel
theorem mathRows : (Jvm.natives.all fun r => r.cls != "java/lang/Math" || floatDs.contains r.desc) = true := by decide +kernel
theorem mathPlain {x : MethodName} (hc : x.cls = "java/lang/Math") (hd : floatDs.contains x.desc = false) : plainFor x = true := by
  unfold plainFor
  rw [Bool.or_eq_true]; right
  rw [Option.isNone_iff_eq_none, NativeRow.find?, List.find?_eq_none]
  intro r hr h
  have := List.all_eq_true.mp mathRows r hr
  simp only [Bool.and_eq_true, beq_iff_eq] at h
  rw [h.1.2, h.2, hc, hd] at this
  simp at this
theorem m_plain {i : Nat} (h1 : mCk i = true) : plainFor (mN i) = true := by
  unfold mCk at h1
  simp only [Bool.and_eq_true, decide_eq_true_eq] at h1
  rcases h1.1.2.2.2.2.1 with h2 | h2
  · exact plainFor_of_name h2
  · exact mathPlain h2.1 h2.2
end
