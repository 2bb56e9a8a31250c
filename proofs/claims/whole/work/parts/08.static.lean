def am_ons : List String := ["DialectAtlas$Answers", "DialectAtlas$Asked", "DialectAtlas$Border", "DialectAtlas$Dialects", "DialectAtlas$Forms", "DialectAtlas$History", "DialectAtlas$Land", "DialectAtlas$Sheets", "DialectAtlas$Spread", "DialectAtlas$Texts", "DialectAtlas$Tour", "DialectAtlas", "DialectAtlasModel", "DialectAtlasLaw", "java/lang/Integer", "java/lang/Math", "java/util/Arrays"]
def am_owl : List Nat := [0, 0, 0, 0, 0, 0, 0, 0, 0, 1, 1, 1, 1, 1, 1, 1, 1, 2, 2, 3, 3, 3, 3, 4, 4, 4, 4, 4, 4, 4, 5, 5, 5, 5, 5, 5, 6, 6, 6, 6, 6, 6, 6, 6, 6, 6, 6, 6, 6, 6, 6, 7, 7, 7, 7, 7, 7, 7, 7, 7, 9, 9, 9, 9, 9, 9, 9, 10, 10, 10, 11, 11, 11, 12, 12, 12, 12, 12, 12, 12, 12, 12, 12, 12, 12, 12, 14, 15, 15, 16, 16, 0, 0, 2, 3, 4, 4, 5, 6, 6, 6, 8, 9, 9, 9, 10, 11, 11, 11, 11, 11, 11, 11, 11, 12, 12, 12, 12, 12, 12, 12, 12, 12, 12, 12, 12, 12, 12, 12, 12, 12, 12, 12, 12, 12, 12, 12, 16, 0, 0, 2, 3, 4, 4, 4, 6, 6, 7, 8, 9, 9, 9, 10, 10, 11, 11, 11, 11, 11, 11, 11, 12, 12, 12, 12, 12, 12, 12, 12, 12, 12, 12, 12, 12, 12, 2, 3, 3, 4, 6, 6, 8, 9, 9, 11, 11, 11, 11, 11, 11, 12, 12, 12, 12, 12, 12, 12, 12, 12, 12, 12, 12, 2, 3, 3, 6, 8, 10, 11, 11, 11, 11, 11, 11, 11, 11, 11, 12, 12, 12, 3, 3, 10, 11, 11, 11, 11, 11, 11, 11, 11, 13]
def am_ow (k : Nat) : Nat := am_owl.getD k 99
def am_on (o : Nat) : String := am_ons.getD o ""
def am_T (t : Nat) : String × String × String × Bool := (am_cls.getD (t / 64) ("", fun _ => ("", "", "", false), 0)).2.1 (t % 64)
def am_fl : List (Nat × Nat × Nat × Nat) := [(6, 27, 384, 89), (6, 11, 385, 90), (6, 15, 386, 91), (6, 18, 387, 92), (6, 21, 388, 93), (6, 24, 389, 94), (1, 21, 64, 115), (1, 11, 65, 116), (1, 15, 66, 117), (1, 18, 67, 118), (4, 27, 256, 134), (4, 11, 257, 135), (4, 15, 258, 136), (4, 33, 259, 137), (4, 18, 260, 138), (4, 21, 261, 139), (4, 24, 262, 140), (0, 32, 0, 162), (0, 36, 1, 163), (0, 11, 2, 164), (0, 15, 3, 165), (0, 18, 4, 166), (0, 21, 5, 167), (0, 24, 6, 168), (0, 29, 7, 169), (9, 35, 576, 193), (9, 39, 577, 194), (9, 11, 578, 195), (9, 15, 579, 196), (9, 18, 580, 197), (9, 21, 581, 198), (9, 24, 582, 199), (9, 27, 583, 200), (9, 68, 584, 201), (9, 32, 585, 202), (2, 9, 128, 230), (2, 15, 129, 231), (2, 55, 130, 232), (2, 58, 131, 233), (2, 19, 132, 234), (2, 23, 133, 235), (2, 26, 134, 236), (2, 29, 135, 237), (3, 29, 192, 261), (3, 33, 193, 262), (3, 37, 194, 263), (3, 11, 195, 264), (3, 17, 196, 265), (3, 20, 197, 266), (3, 23, 198, 267), (3, 26, 199, 268), (3, 82, 200, 269), (3, 73, 201, 270), (10, 24, 640, 298), (10, 36, 641, 299), (10, 11, 642, 300), (10, 15, 643, 301), (10, 18, 644, 302), (10, 21, 645, 303), (10, 28, 646, 304), (8, 20, 512, 326), (8, 11, 513, 327), (8, 17, 514, 328), (7, 9, 448, 342), (7, 13, 449, 343), (7, 16, 450, 344), (5, 19, 320, 358), (5, 9, 321, 359), (5, 13, 322, 360), (5, 16, 323, 361), (11, 10, 704, 371), (11, 19, 705, 372), (11, 26, 706, 373), (11, 35, 707, 374), (11, 44, 708, 375), (11, 53, 709, 376), (11, 62, 710, 377), (11, 71, 711, 378), (11, 78, 712, 379), (11, 85, 713, 380), (11, 92, 714, 381), (11, 96, 715, 382), (11, 146, 716, 383), (11, 371, 717, 384), (12, 7, 768, 1131), (12, 13, 769, 1132), (12, 87, 770, 1133), (12, 79, 771, 1134), (12, 16, 772, 1135), (12, 19, 773, 1136), (12, 22, 774, 1137), (12, 25, 775, 1138), (12, 28, 776, 1139), (12, 31, 777, 1140), (12, 34, 778, 1141), (12, 37, 779, 1142), (12, 40, 780, 1143), (12, 43, 781, 1144), (12, 148, 782, 1145), (12, 151, 783, 1146), (12, 164, 784, 1147), (12, 46, 785, 1148), (12, 49, 786, 1149), (12, 52, 787, 1150), (12, 55, 788, 1151), (12, 192, 789, 1152), (12, 58, 790, 1153), (12, 61, 791, 1154), (12, 64, 792, 1155), (12, 206, 793, 1156), (12, 203, 794, 1157), (12, 215, 795, 1158), (12, 67, 796, 1159), (12, 70, 797, 1160), (12, 73, 798, 1161), (12, 76, 799, 1162)]
def am_gl : List (Nat × Nat × Nat × Nat) := [(1, 25, 2001, 533), (2, 37, 2002, 784), (2, 71, 2003, 798)]
def am_mll : List (Nat × Nat × Nat × Nat) := [(13, 13, 154, 414), (11, 101, 70, 419), (11, 105, 36, 423), (11, 110, 97, 428), (5, 23, 31, 432), (11, 114, 39, 439), (13, 18, 155, 443), (11, 118, 37, 447), (11, 123, 99, 452), (6, 35, 45, 456), (11, 126, 45, 460), (11, 129, 100, 461), (13, 23, 208, 465), (11, 132, 180, 469), (6, 31, 38, 474), (6, 52, 48, 478), (6, 55, 146, 482), (6, 48, 99, 486), (6, 59, 88, 487), (11, 136, 50, 490), (11, 139, 49, 494), (13, 27, 156, 499), (11, 143, 71, 503), (13, 32, 157, 506), (11, 150, 9, 510), (11, 153, 10, 513), (11, 154, 12, 517), (13, 36, 106, 521), (11, 158, 11, 525), (11, 159, 15, 529), (11, 163, 16, 535), (13, 42, 209, 540), (11, 167, 27, 544), (11, 171, 178, 549), (4, 36, 143, 553), (4, 46, 95, 557), (4, 50, 26, 561), (11, 174, 23, 565), (11, 175, 142, 569), (4, 40, 137, 573), (16, 13, 89, 576), (13, 47, 107, 579), (11, 178, 24, 583), (11, 179, 25, 587), (11, 181, 26, 591), (13, 51, 184, 592), (11, 184, 144, 596), (4, 54, 87, 600), (4, 59, 88, 603), (4, 62, 96, 604), (4, 65, 29, 608), (13, 55, 158, 611), (11, 187, 72, 615), (11, 190, 0, 618), (11, 191, 2, 622), (13, 59, 159, 626), (11, 195, 1, 630), (11, 196, 4, 634), (11, 200, 5, 639), (13, 63, 108, 643), (11, 204, 7, 647), (13, 67, 185, 651), (11, 207, 139, 655), (0, 63, 92, 659), (0, 44, 90, 663), (0, 50, 8, 666), (0, 54, 14, 670), (0, 60, 16, 674), (13, 71, 186, 676), (11, 211, 138, 680), (13, 76, 109, 684), (11, 214, 61, 688), (11, 217, 62, 692), (13, 80, 210, 697), (11, 221, 60, 701), (11, 224, 182, 704), (9, 45, 149, 708), (9, 53, 102, 712), (9, 57, 63, 715), (9, 49, 150, 718), (9, 61, 103, 722), (13, 84, 110, 725), (11, 227, 64, 729), (13, 88, 187, 733), (11, 230, 151, 737), (9, 65, 25, 741), (9, 71, 26, 742), (9, 75, 104, 743), (9, 78, 65, 747), (11, 233, 66, 750), (13, 92, 211, 754), (11, 237, 183, 759), (9, 81, 151, 763), (9, 84, 143, 764), (13, 96, 212, 765), (13, 100, 223, 769), (11, 240, 202, 773), (2, 32, 175, 777), (2, 45, 36, 781), (2, 61, 139, 782), (2, 41, 140, 786), (2, 51, 93, 790), (2, 67, 41, 794), (2, 74, 42, 800), (2, 77, 44, 804), (2, 80, 18, 808), (11, 244, 17, 812), (13, 104, 224, 816), (11, 246, 203, 820), (3, 41, 176, 824), (3, 49, 139, 828), (3, 45, 177, 829), (3, 55, 144, 833), (13, 108, 228, 834), (11, 249, 220, 838), (3, 77, 204, 842), (3, 58, 90, 846), (3, 64, 36, 847), (3, 68, 88, 848), (3, 85, 141, 850), (3, 89, 94, 854), (3, 98, 20, 859), (3, 101, 19, 863), (3, 105, 87, 867), (11, 252, 21, 868), (11, 255, 22, 872), (13, 112, 229, 876), (11, 258, 51, 880), (11, 261, 53, 883), (11, 264, 221, 887), (3, 108, 55, 891), (3, 114, 57, 895), (13, 116, 225, 899), (11, 268, 38, 903), (11, 271, 189, 904), (11, 274, 215, 908), (11, 374, 113, 912), (11, 377, 43, 916), (13, 120, 226, 920), (11, 277, 216, 924), (11, 380, 90, 928), (11, 386, 87, 929), (13, 124, 230, 930), (11, 280, 98, 934), (11, 283, 86, 938), (11, 288, 205, 944), (6, 64, 180, 948), (6, 67, 50, 949), (11, 291, 222, 950), (10, 32, 207, 954), (10, 46, 36, 958), (10, 52, 180, 959), (10, 56, 49, 960), (10, 39, 152, 961), (10, 60, 105, 965), (10, 63, 69, 969), (10, 43, 153, 973), (11, 294, 67, 977), (11, 297, 68, 981), (13, 128, 213, 985), (11, 300, 181, 989), (8, 24, 36, 993), (8, 28, 145, 994), (8, 32, 44, 998), (11, 303, 148, 999), (8, 35, 101, 1003), (13, 132, 227, 1007), (11, 306, 206, 1011), (8, 38, 181, 1015), (8, 41, 38, 1016), (8, 44, 86, 1017), (8, 49, 148, 1018), (13, 136, 188, 1019), (11, 309, 52, 1023), (11, 312, 147, 1026), (7, 19, 137, 1030), (13, 140, 111, 1031), (11, 314, 55, 1035), (11, 315, 56, 1036), (13, 144, 112, 1040), (11, 317, 54, 1044), (11, 320, 58, 1048), (11, 324, 59, 1052), (13, 149, 160, 1057), (11, 328, 30, 1061), (11, 329, 32, 1065), (11, 332, 33, 1069), (11, 335, 34, 1073), (11, 338, 40, 1077), (11, 341, 46, 1081), (11, 344, 47, 1085), (11, 347, 13, 1089), (11, 350, 28, 1093), (11, 353, 3, 1097), (11, 356, 6, 1101), (11, 359, 35, 1105), (13, 154, 214, 1109), (11, 362, 179, 1113), (6, 39, 145, 1117), (6, 43, 86, 1118), (11, 365, 91, 1119), (0, 40, 4, 1123), (11, 368, 44, 1124), (13, 153, 118, 1228), (12, 91, 74, 1233), (13, 17, 119, 1237), (12, 83, 73, 1241), (12, 97, 77, 1246), (13, 22, 161, 1250), (12, 100, 114, 1254), (12, 105, 76, 1259), (13, 26, 162, 1263), (12, 109, 120, 1267), (13, 31, 121, 1272), (13, 35, 163, 1276), (13, 39, 122, 1280), (12, 114, 78, 1284), (13, 46, 123, 1289), (12, 122, 80, 1295), (12, 125, 79, 1299), (13, 50, 164, 1303), (12, 128, 115, 1307), (13, 54, 165, 1311), (12, 131, 124, 1315), (13, 58, 166, 1319), (12, 134, 116, 1323), (13, 62, 125, 1326), (13, 66, 126, 1331), (13, 70, 190, 1335), (12, 142, 117, 1339), (12, 145, 167, 1342), (12, 138, 127, 1346), (13, 75, 191, 1350), (13, 79, 128, 1354), (13, 83, 192, 1358), (12, 161, 168, 1362), (12, 154, 81, 1366), (12, 157, 129, 1370), (13, 87, 130, 1374), (13, 91, 193, 1378), (12, 171, 169, 1382), (12, 167, 131, 1386), (13, 95, 194, 1390), (12, 176, 132, 1395), (13, 99, 195, 1399), (13, 103, 196, 1403), (12, 185, 133, 1407), (12, 179, 82, 1411), (12, 182, 75, 1414), (13, 107, 217, 1418), (12, 189, 197, 1422), (13, 111, 218, 1426), (12, 195, 83, 1430), (13, 115, 219, 1434), (12, 199, 135, 1438), (13, 119, 198, 1441), (13, 123, 199, 1446), (13, 127, 170, 1450), (12, 212, 85, 1454), (12, 209, 84, 1457), (13, 131, 200, 1461), (12, 221, 171, 1465), (12, 218, 134, 1469), (13, 135, 201, 1473), (13, 139, 172, 1477), (13, 143, 173, 1481), (13, 148, 174, 1485), (13, 157, 136, 1489)]
def am_cll : List (Nat × Nat × Nat × Nat) := [(5, 26, 9999, 436), (3, 92, 9999, 858), (7, 25, 9999, 1056)]
def am_kcl : List (Nat × Nat × Int × Nat) := [(11, 100, (-100001), 418), (11, 109, (-100005), 427), (11, 122, (-100003), 451), (6, 51, 1000000, 473), (11, 142, (-100008), 498), (11, 166, (-100004), 539), (11, 199, (-100007), 638), (11, 210, (-100006), 675), (11, 236, (-100002), 758), (2, 36, 1000000, 783), (3, 81, 1000000, 849), (14, 265, 1431655765, 941), (14, 266, 858993459, 942), (14, 267, 252645135, 943), (12, 90, (-100006), 1232), (12, 95, (-100001), 1244), (12, 96, (-100005), 1245), (12, 104, (-100003), 1258), (12, 113, (-100008), 1271), (12, 117, (-100004), 1288), (12, 137, (-100007), 1330), (12, 175, (-100002), 1394), (12, 202, 1000000, 1445)]
def am_kll : List (Nat × Nat × Int × Nat) := [(4, 31, 255, 548), (9, 43, 255, 696), (12, 118, 255, 1293), (12, 120, 26, 1294), (13, 40, 4294967295, 1493)]
def am_kf (l : List (Nat × Nat × Nat × Nat)) (o idx t : Nat) : Bool := l.any (fun e => e.1 == o && e.2.1 == idx && e.2.2.1 == t)
def am_kz (l : List (Nat × Nat × Int × Nat)) (o idx : Nat) (x : Int) : Bool := l.any (fun e => e.1 == o && e.2.1 == idx && e.2.2.1 == x)
theorem am_fl_ok : am_fl.all (fun e => decide (lw_tbl[e.2.2.2]? = some (.fieldLink (am_on e.1) e.2.1 (am_T e.2.2.1).1 (am_T e.2.2.1).2.1 (am_T e.2.2.1).2.2.1))) = true := by decide +kernel
theorem am_mll_ok : am_mll.all (fun e => decide (lw_tbl[e.2.2.2]? = some (.methodLink (am_on e.1) e.2.1 (am_y e.2.2.1)))) = true := by decide +kernel
theorem am_cll_ok : am_cll.all (fun e => decide (lw_tbl[e.2.2.2]? = some (.methodLink (am_on e.1) e.2.1 arraycopyName))) = true := by decide +kernel
theorem am_kcl_ok : am_kcl.all (fun e => decide (lw_tbl[e.2.2.2]? = some (.constant (am_on e.1) e.2.1 (Int32.ofInt e.2.2.1)))) = true := by decide +kernel
theorem am_kll_ok : am_kll.all (fun e => decide (lw_tbl[e.2.2.2]? = some (.constantLong (am_on e.1) e.2.1 (Int64.ofInt e.2.2.1)))) = true := by decide +kernel
def am_stn (t : Nat) : String × String := if t = 2001 then ("DialectAtlas$Asked", "ABOVE") else if t = 2002 then ("DialectAtlas$Border", "ACROSS") else ("DialectAtlas$Border", "UP")
theorem am_gl_ok : am_gl.all (fun e => decide (2001 ≤ e.2.2.1 ∧ e.2.2.1 < 2004) && decide (lw_tbl[e.2.2.2]? = some (.fieldLink (am_on e.1) e.2.1 (am_stn e.2.2.1).1 (am_stn e.2.2.1).2 "[I"))) = true := by decide +kernel
theorem lw_good : lw_tbl.all goodWord = true := by decide +kernel
theorem am_copyw : (Cond.native arraycopyName ∈ lw_tbl ∧ Cond.static arraycopyName ∈ lw_tbl ∧ Cond.initialized "java/lang/System" ∈ lw_tbl) ∧ Cond.arrayClass .int ∈ lw_tbl := by decide +kernel
def am_mp : List (Nat × Nat × Nat × Nat) := [(621, 62, 619, 620), (633, 62, 631, 632), (625, 62, 623, 624), (1100, 62, 1098, 1099), (637, 62, 635, 636), (642, 62, 640, 641), (1104, 62, 1102, 1103), (650, 62, 648, 649), (669, 62, 668, 7), (512, 60, 511, 511), (516, 60, 514, 515), (528, 60, 526, 527), (520, 60, 518, 519), (1092, 60, 1090, 1091), (673, 60, 671, 672), (532, 60, 530, 531), (538, 60, 536, 537), (815, 64, 813, 814), (811, 64, 810, 14), (866, 65, 865, 21), (862, 65, 861, 20), (871, 65, 869, 870), (875, 65, 873, 874), (568, 61, 566, 567), (586, 61, 584, 585), (590, 61, 588, 589), (564, 61, 562, 563), (547, 61, 545, 546), (1096, 61, 1094, 1095), (610, 61, 609, 609), (1064, 69, 1062, 1063), (435, 69, 434, 1), (1068, 69, 1066, 1067), (1072, 69, 1070, 1071), (1076, 69, 1074, 1075), (1108, 69, 1106, 1107), (426, 59, 424, 425), (450, 59, 448, 449), (477, 59, 475, 476), (442, 59, 440, 441), (1080, 59, 1078, 1079), (797, 59, 795, 796), (803, 59, 801, 802), (919, 59, 917, 918), (807, 59, 805, 806), (459, 59, 457, 458), (1084, 59, 1082, 1083), (1088, 59, 1086, 1087), (481, 59, 480, 2), (497, 59, 495, 496), (493, 59, 491, 492), (882, 68, 881, 881), (1025, 68, 1024, 1024), (886, 68, 884, 885), (1047, 68, 1045, 1046), (894, 68, 892, 893), (1039, 68, 1037, 1038), (898, 68, 896, 897), (1051, 68, 1049, 1050), (1055, 68, 1053, 1054), (703, 63, 702, 702), (691, 63, 689, 690), (695, 63, 693, 694), (717, 63, 716, 716), (732, 63, 730, 731), (749, 63, 748, 748), (753, 63, 751, 752), (980, 66, 978, 979), (984, 66, 982, 983), (972, 66, 971, 29), (422, 58, 421, 0), (505, 58, 504, 504), (617, 58, 616, 616), (1243, 70, 1242, 1242), (1236, 70, 1235, 32), (1417, 70, 1416, 51), (1262, 70, 1261, 35), (1249, 70, 1248, 33), (1287, 70, 1286, 37), (1302, 70, 1301, 39), (1298, 70, 1297, 38), (1369, 70, 1368, 45), (1413, 70, 1412, 1412), (1433, 70, 1432, 53), (1460, 70, 1459, 54), (1456, 70, 1455, 1455), (940, 74, 939, 939), (602, 72, 601, 601), (489, 72, 488, 488), (578, 73, 577, 577), (665, 73, 664, 664), (1122, 62, 1120, 1121), (662, 62, 661, 6), (793, 64, 792, 13), (857, 65, 856, 19), (560, 61, 559, 4), (607, 61, 606, 5), (431, 69, 429, 430), (937, 59, 935, 936), (455, 59, 453, 454), (464, 59, 462, 463), (1006, 67, 1005, 31), (714, 63, 713, 713), (724, 63, 723, 723), (746, 63, 745, 10), (968, 66, 967, 28), (524, 58, 522, 523), (582, 58, 580, 581), (646, 58, 644, 645), (687, 58, 685, 686), (728, 58, 726, 727), (1034, 58, 1032, 1033), (1043, 58, 1041, 1042), (915, 58, 914, 24), (1257, 70, 1256, 34), (1310, 70, 1309, 40), (1325, 70, 1324, 1324), (1341, 70, 1340, 1340), (1231, 70, 1229, 1230), (1240, 70, 1238, 1239), (1270, 70, 1269, 36), (1275, 70, 1273, 1274), (1283, 70, 1281, 1282), (1292, 70, 1290, 1291), (1318, 70, 1317, 41), (1329, 70, 1327, 1328), (1334, 70, 1332, 1333), (1349, 70, 1348, 43), (1357, 70, 1355, 1356), (1373, 70, 1372, 46), (1377, 70, 1375, 1376), (1389, 70, 1388, 48), (1398, 70, 1397, 49), (1410, 70, 1409, 50), (1472, 70, 1471, 56), (1440, 70, 1439, 1439), (1492, 70, 1490, 1491), (575, 73, 574, 574), (683, 62, 681, 682), (658, 62, 656, 657), (789, 64, 788, 12), (853, 65, 852, 18), (572, 61, 570, 571), (556, 61, 554, 555), (599, 61, 597, 598), (997, 59, 995, 996), (485, 59, 484, 3), (1029, 68, 1027, 1028), (1002, 67, 1000, 1001), (711, 63, 710, 8), (721, 63, 720, 9), (740, 63, 738, 739), (964, 66, 963, 27), (976, 66, 975, 30), (417, 58, 415, 416), (446, 58, 444, 445), (502, 58, 500, 501), (509, 58, 507, 508), (614, 58, 612, 613), (629, 58, 627, 628), (1060, 58, 1058, 1059), (1253, 70, 1251, 1252), (1266, 70, 1264, 1265), (1279, 70, 1277, 1278), (1306, 70, 1304, 1305), (1314, 70, 1312, 1313), (1322, 70, 1320, 1321), (1345, 70, 1344, 42), (1365, 70, 1364, 44), (1385, 70, 1384, 47), (1453, 70, 1451, 1452), (1468, 70, 1467, 55), (1480, 70, 1478, 1479), (1484, 70, 1482, 1483), (1488, 70, 1486, 1487), (780, 64, 779, 11), (827, 65, 826, 15), (832, 65, 831, 16), (552, 61, 550, 551), (1116, 59, 1114, 1115), (472, 59, 470, 471), (992, 67, 990, 991), (707, 63, 705, 706), (762, 63, 760, 761), (595, 58, 593, 594), (654, 58, 652, 653), (679, 58, 677, 678), (736, 58, 734, 735), (1022, 58, 1020, 1021), (907, 58, 906, 22), (1338, 70, 1336, 1337), (1353, 70, 1351, 1352), (1361, 70, 1359, 1360), (1381, 70, 1379, 1380), (1393, 70, 1391, 1392), (1402, 70, 1400, 1401), (1406, 70, 1404, 1405), (1425, 70, 1424, 52), (1444, 70, 1442, 1443), (1449, 70, 1447, 1448), (1464, 70, 1462, 1463), (1476, 70, 1474, 1475), (776, 64, 774, 775), (823, 65, 821, 822), (845, 65, 844, 17), (947, 59, 945, 946), (1014, 67, 1012, 1013), (957, 66, 956, 26), (468, 58, 466, 467), (543, 58, 541, 542), (700, 58, 698, 699), (757, 58, 755, 756), (768, 58, 766, 767), (988, 58, 986, 987), (1112, 58, 1110, 1111), (911, 58, 910, 23), (927, 58, 926, 25), (1421, 70, 1419, 1420), (1429, 70, 1427, 1428), (1437, 70, 1435, 1436), (841, 65, 839, 840), (890, 65, 888, 889), (953, 66, 951, 952), (772, 58, 770, 771), (819, 58, 817, 818), (902, 58, 900, 901), (923, 58, 921, 922), (1010, 58, 1008, 1009), (837, 58, 835, 836), (879, 58, 877, 878), (933, 58, 931, 932)]
/-- a method's words -/
def am_mok (k : Nat) : Bool :=
  let q := am_mp.getD k (0, 0, 0, 0)
  decide (lw_tbl[q.1]? = some (.code (am_y k) (am_by k) (am_ml k) (am_rt k))) && decide (lw_tbl[q.2.1]? = some (.initialized (am_y k).cls)) &&
  (if am_sc k then decide (lw_tbl[q.2.2.1]? = some (.static (am_y k))) else (decide (lw_tbl[q.2.2.1]? = some (.instanceMethod (am_y k))) && decide (lw_tbl[q.2.2.2]? = some (.selects (am_y k).cls (am_y k) (am_y k))))) &&
  decide ((am_y k).cls ≠ "java/lang/invoke/MethodHandle" ∧ (am_y k).cls ≠ "java/lang/invoke/VarHandle") && decide ((parseMethodDescriptor (am_y k).desc).map (fun d => d.parameters.length) = some (am_np k)) &&
  plainName (am_y k).cls && decide ((am_y k).cls = am_on (am_ow k)) && decide (am_ml k ≤ 45) && (if am_sc k then true else decide (am_ow k < 13)) && decide (am_rt k = none ∨ am_rt k = some .int ∨ am_rt k = some .boolean)
theorem am_mok_0 : (List.range 30).all (fun i => am_mok (0 + i)) = true := by decide +kernel
theorem am_mok_30 : (List.range 30).all (fun i => am_mok (30 + i)) = true := by decide +kernel
theorem am_mok_60 : (List.range 30).all (fun i => am_mok (60 + i)) = true := by decide +kernel
theorem am_mok_90 : (List.range 30).all (fun i => am_mok (90 + i)) = true := by decide +kernel
theorem am_mok_120 : (List.range 30).all (fun i => am_mok (120 + i)) = true := by decide +kernel
theorem am_mok_150 : (List.range 30).all (fun i => am_mok (150 + i)) = true := by decide +kernel
theorem am_mok_180 : (List.range 30).all (fun i => am_mok (180 + i)) = true := by decide +kernel
theorem am_mok_210 : (List.range 21).all (fun i => am_mok (210 + i)) = true := by decide +kernel
theorem am_mok_all {k : Nat} (hk : k < 231) : am_mok k = true := by
  by_cases h0 : k < 30
  · have := List.all_eq_true.mp am_mok_0 (k - 0) (List.mem_range.mpr (by omega))
    rwa [show 0 + (k - 0) = k by omega] at this
  by_cases h30 : k < 60
  · have := List.all_eq_true.mp am_mok_30 (k - 30) (List.mem_range.mpr (by omega))
    rwa [show 30 + (k - 30) = k by omega] at this
  by_cases h60 : k < 90
  · have := List.all_eq_true.mp am_mok_60 (k - 60) (List.mem_range.mpr (by omega))
    rwa [show 60 + (k - 60) = k by omega] at this
  by_cases h90 : k < 120
  · have := List.all_eq_true.mp am_mok_90 (k - 90) (List.mem_range.mpr (by omega))
    rwa [show 90 + (k - 90) = k by omega] at this
  by_cases h120 : k < 150
  · have := List.all_eq_true.mp am_mok_120 (k - 120) (List.mem_range.mpr (by omega))
    rwa [show 120 + (k - 120) = k by omega] at this
  by_cases h150 : k < 180
  · have := List.all_eq_true.mp am_mok_150 (k - 150) (List.mem_range.mpr (by omega))
    rwa [show 150 + (k - 150) = k by omega] at this
  by_cases h180 : k < 210
  · have := List.all_eq_true.mp am_mok_180 (k - 180) (List.mem_range.mpr (by omega))
    rwa [show 180 + (k - 180) = k by omega] at this
  by_cases h210 : k < 231
  · have := List.all_eq_true.mp am_mok_210 (k - 210) (List.mem_range.mpr (by omega))
    rwa [show 210 + (k - 210) = k by omega] at this
  omega
def am_okb (x : Int) : Bool := decide (-2147483648 ≤ x) && decide (x ≤ 2147483647)
/-- what an instruction's row says is what the class file says -/
def am_sk (k pc nx t u : Nat) (x : Int) : Instr → Bool
  | .iconst n => nx == pc + 1 && x == n && am_okb x
  | .bipush n => nx == pc + 2 && decide ((Int8.ofInt n).toInt32 = Int32.ofInt x) && am_okb x
  | .sipush n => nx == pc + 3 && decide ((Int16.ofInt n).toInt32 = Int32.ofInt x) && am_okb x
  | .ldc i => nx == pc + 2 && am_kz am_kcl (am_ow k) i x && am_okb x
  | .ldc_w i => nx == pc + 3 && am_kz am_kcl (am_ow k) i x && am_okb x
  | .ldc2_w i => nx == pc + 3 && am_kz am_kll (am_ow k) i x
  | .iload_n n => nx == pc + 1 && t == n.val
  | .iload n => nx == pc + 2 && t == n
  | .aload_n n => nx == pc + 1 && t == n.val
  | .aload n => nx == pc + 2 && t == n
  | .lload_n n => nx == pc + 1 && t == n.val
  | .istore_n n => nx == pc + 1 && t == n.val
  | .istore n => nx == pc + 2 && t == n
  | .astore_n n => nx == pc + 1 && t == n.val
  | .astore n => nx == pc + 2 && t == n
  | .iinc n c => nx == pc + 3 && t == n && x == c
  | .ifCond _ o => nx == pc + 3 && ((pc : Int) + o == (t : Int))
  | .if_icmp _ o => nx == pc + 3 && ((pc : Int) + o == (t : Int))
  | .goto o => nx == pc + 3 && ((pc : Int) + o == (t : Int))
  | .tableswitch d lo hi os => decide (0 ≤ (pc : Int) + d) && os.toList.all (fun o => decide (0 ≤ (pc : Int) + o)) && decide (hi = lo + (os.size : Int) - 1)
  | .lookupswitch d ps => decide (0 ≤ (pc : Int) + d) && ps.toList.all (fun o => decide (0 ≤ (pc : Int) + o.2)) && (ps.toList.zip (ps.toList.drop 1)).all (fun (a, next) => a.1 < next.1)
  | .getfield i => nx == pc + 3 && am_kf am_fl (am_ow k) i t && u == t % 64
  | .putfield i => nx == pc + 3 && am_kf am_fl (am_ow k) i t && u == t % 64
  | .getstatic i => nx == pc + 3 && am_kf am_gl (am_ow k) i t
  | .newarray a => nx == pc + 2 && decide (a = .int)
  | .invokevirtual i => nx == pc + 3 && am_kf am_mll (am_ow k) i t && u == am_np t + 1 && x == (am_ow t : Int) && !am_sc t && decide (t < 231)
  | .invokestatic i => nx == pc + 3 && (if t == 9999 then am_kf am_cll (am_ow k) i t else (am_kf am_mll (am_ow k) i t && u == am_np t && am_sc t && decide (t < 231)))
  | .return_ => nx == pc + 1 && decide (am_rt k = none)
  | .ireturn => nx == pc + 1 && decide (am_rt k = some .int ∨ am_rt k = some .boolean)
  | _ => nx == pc + 1
def am_sb (k : Nat) (e : Nat × am_E) : Bool := (match decode (am_by k) e.1 with | .ok (j, l) => decide (j = e.2.1) && decide (e.1 + l = e.2.2.1) | _ => false) && am_sk k e.1 e.2.2.1 e.2.2.2.1 e.2.2.2.2.1 e.2.2.2.2.2 e.2.1
def am_chk (k : Nat) : Bool := (am_tab.getD k []).all (am_sb k)
theorem am_chk_0 : (List.range 12).all (fun i => am_chk (0 + i)) = true := by decide +kernel
theorem am_chk_12 : (List.range 12).all (fun i => am_chk (12 + i)) = true := by decide +kernel
theorem am_chk_24 : (List.range 12).all (fun i => am_chk (24 + i)) = true := by decide +kernel
theorem am_chk_36 : (List.range 12).all (fun i => am_chk (36 + i)) = true := by decide +kernel
theorem am_chk_48 : (List.range 12).all (fun i => am_chk (48 + i)) = true := by decide +kernel
theorem am_chk_60 : (List.range 12).all (fun i => am_chk (60 + i)) = true := by decide +kernel
theorem am_chk_72 : (List.range 12).all (fun i => am_chk (72 + i)) = true := by decide +kernel
theorem am_chk_84 : (List.range 12).all (fun i => am_chk (84 + i)) = true := by decide +kernel
theorem am_chk_96 : (List.range 12).all (fun i => am_chk (96 + i)) = true := by decide +kernel
theorem am_chk_108 : (List.range 12).all (fun i => am_chk (108 + i)) = true := by decide +kernel
theorem am_chk_120 : (List.range 12).all (fun i => am_chk (120 + i)) = true := by decide +kernel
theorem am_chk_132 : (List.range 12).all (fun i => am_chk (132 + i)) = true := by decide +kernel
theorem am_chk_144 : (List.range 12).all (fun i => am_chk (144 + i)) = true := by decide +kernel
theorem am_chk_156 : (List.range 12).all (fun i => am_chk (156 + i)) = true := by decide +kernel
theorem am_chk_168 : (List.range 12).all (fun i => am_chk (168 + i)) = true := by decide +kernel
theorem am_chk_180 : (List.range 12).all (fun i => am_chk (180 + i)) = true := by decide +kernel
theorem am_chk_192 : (List.range 12).all (fun i => am_chk (192 + i)) = true := by decide +kernel
theorem am_chk_204 : (List.range 12).all (fun i => am_chk (204 + i)) = true := by decide +kernel
theorem am_chk_216 : (List.range 12).all (fun i => am_chk (216 + i)) = true := by decide +kernel
theorem am_chk_228 : (List.range 3).all (fun i => am_chk (228 + i)) = true := by decide +kernel
theorem am_chkL_0 : am_t231_0.all (am_sb 231) = true := by decide +kernel
theorem am_chkL_1 : am_t231_1.all (am_sb 231) = true := by decide +kernel
theorem am_chkL_2 : am_t231_2.all (am_sb 231) = true := by decide +kernel
theorem am_chkL_3 : am_t231_3.all (am_sb 231) = true := by decide +kernel
theorem am_chkL_4 : am_t231_4.all (am_sb 231) = true := by decide +kernel
theorem am_chkL_5 : am_t231_5.all (am_sb 231) = true := by decide +kernel
theorem am_chkL_6 : am_t231_6.all (am_sb 231) = true := by decide +kernel
theorem am_chkL_7 : am_t231_7.all (am_sb 231) = true := by decide +kernel
theorem am_chkL_8 : am_t231_8.all (am_sb 231) = true := by decide +kernel
theorem am_chkL_9 : am_t231_9.all (am_sb 231) = true := by decide +kernel
theorem am_chkL_10 : am_t231_10.all (am_sb 231) = true := by decide +kernel
theorem am_chkL_11 : am_t231_11.all (am_sb 231) = true := by decide +kernel
theorem am_chkL_12 : am_t231_12.all (am_sb 231) = true := by decide +kernel
theorem am_chkL_13 : am_t231_13.all (am_sb 231) = true := by decide +kernel
theorem am_chkL_14 : am_t231_14.all (am_sb 231) = true := by decide +kernel
theorem am_chkL_15 : am_t231_15.all (am_sb 231) = true := by decide +kernel
theorem am_chkL_16 : am_t231_16.all (am_sb 231) = true := by decide +kernel
theorem am_chkL_17 : am_t231_17.all (am_sb 231) = true := by decide +kernel
theorem am_chkL : am_chk 231 = true := by
  show (am_t231).all (am_sb 231) = true
  unfold am_t231
  simp only [List.all_append, am_chkL_0, am_chkL_1, am_chkL_2, am_chkL_3, am_chkL_4, am_chkL_5, am_chkL_6, am_chkL_7, am_chkL_8, am_chkL_9, am_chkL_10, am_chkL_11, am_chkL_12, am_chkL_13, am_chkL_14, am_chkL_15, am_chkL_16, am_chkL_17, Bool.and_self]
theorem am_chk_all {k : Nat} (hk : k < 232) : am_chk k = true := by
  by_cases h0 : k < 12
  · have := List.all_eq_true.mp am_chk_0 (k - 0) (List.mem_range.mpr (by omega))
    rwa [show 0 + (k - 0) = k by omega] at this
  by_cases h12 : k < 24
  · have := List.all_eq_true.mp am_chk_12 (k - 12) (List.mem_range.mpr (by omega))
    rwa [show 12 + (k - 12) = k by omega] at this
  by_cases h24 : k < 36
  · have := List.all_eq_true.mp am_chk_24 (k - 24) (List.mem_range.mpr (by omega))
    rwa [show 24 + (k - 24) = k by omega] at this
  by_cases h36 : k < 48
  · have := List.all_eq_true.mp am_chk_36 (k - 36) (List.mem_range.mpr (by omega))
    rwa [show 36 + (k - 36) = k by omega] at this
  by_cases h48 : k < 60
  · have := List.all_eq_true.mp am_chk_48 (k - 48) (List.mem_range.mpr (by omega))
    rwa [show 48 + (k - 48) = k by omega] at this
  by_cases h60 : k < 72
  · have := List.all_eq_true.mp am_chk_60 (k - 60) (List.mem_range.mpr (by omega))
    rwa [show 60 + (k - 60) = k by omega] at this
  by_cases h72 : k < 84
  · have := List.all_eq_true.mp am_chk_72 (k - 72) (List.mem_range.mpr (by omega))
    rwa [show 72 + (k - 72) = k by omega] at this
  by_cases h84 : k < 96
  · have := List.all_eq_true.mp am_chk_84 (k - 84) (List.mem_range.mpr (by omega))
    rwa [show 84 + (k - 84) = k by omega] at this
  by_cases h96 : k < 108
  · have := List.all_eq_true.mp am_chk_96 (k - 96) (List.mem_range.mpr (by omega))
    rwa [show 96 + (k - 96) = k by omega] at this
  by_cases h108 : k < 120
  · have := List.all_eq_true.mp am_chk_108 (k - 108) (List.mem_range.mpr (by omega))
    rwa [show 108 + (k - 108) = k by omega] at this
  by_cases h120 : k < 132
  · have := List.all_eq_true.mp am_chk_120 (k - 120) (List.mem_range.mpr (by omega))
    rwa [show 120 + (k - 120) = k by omega] at this
  by_cases h132 : k < 144
  · have := List.all_eq_true.mp am_chk_132 (k - 132) (List.mem_range.mpr (by omega))
    rwa [show 132 + (k - 132) = k by omega] at this
  by_cases h144 : k < 156
  · have := List.all_eq_true.mp am_chk_144 (k - 144) (List.mem_range.mpr (by omega))
    rwa [show 144 + (k - 144) = k by omega] at this
  by_cases h156 : k < 168
  · have := List.all_eq_true.mp am_chk_156 (k - 156) (List.mem_range.mpr (by omega))
    rwa [show 156 + (k - 156) = k by omega] at this
  by_cases h168 : k < 180
  · have := List.all_eq_true.mp am_chk_168 (k - 168) (List.mem_range.mpr (by omega))
    rwa [show 168 + (k - 168) = k by omega] at this
  by_cases h180 : k < 192
  · have := List.all_eq_true.mp am_chk_180 (k - 180) (List.mem_range.mpr (by omega))
    rwa [show 180 + (k - 180) = k by omega] at this
  by_cases h192 : k < 204
  · have := List.all_eq_true.mp am_chk_192 (k - 192) (List.mem_range.mpr (by omega))
    rwa [show 192 + (k - 192) = k by omega] at this
  by_cases h204 : k < 216
  · have := List.all_eq_true.mp am_chk_204 (k - 204) (List.mem_range.mpr (by omega))
    rwa [show 204 + (k - 204) = k by omega] at this
  by_cases h216 : k < 228
  · have := List.all_eq_true.mp am_chk_216 (k - 216) (List.mem_range.mpr (by omega))
    rwa [show 216 + (k - 216) = k by omega] at this
  by_cases h228 : k < 231
  · have := List.all_eq_true.mp am_chk_228 (k - 228) (List.mem_range.mpr (by omega))
    rwa [show 228 + (k - 228) = k by omega] at this
  have h : k = 231 := by omega
  rw [h]; exact am_chkL
