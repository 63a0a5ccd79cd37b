/-! the words behind the pools: where each stands in the tables, and that it stands there -/
def jx_big : List Cond := lw_tbl.filter goodWord
def jx_wd (p : Nat) (w : Cond) : Bool := decide (tables_1[p]? = some w) && goodWord w
def jx_wl (p : Nat) (w : Cond) : Bool := decide (lw_tbl[p]? = some w) && goodWord w
theorem jx_wl_in {p : Nat} {w : Cond} (h : jx_wl p w = true) : w ∈ jx_big := by
  simp only [jx_wl, Bool.and_eq_true, decide_eq_true_eq] at h
  exact List.mem_filter.mpr ⟨List.mem_of_getElem? h.1, h.2⟩
theorem jx_wd_in {p : Nat} {w : Cond} (h : jx_wd p w = true) : w ∈ jx_big := by
  simp only [jx_wd, Bool.and_eq_true, decide_eq_true_eq] at h
  exact List.mem_filter.mpr ⟨List.mem_append_right _ (List.mem_of_getElem? h.1), h.2⟩
/-- words that are handed on by the world -/
def jx_isN (w : Cond) : Bool := match w with
  | .methodLinkNest _ _ _ _ => true
  | .castable _ _ => true
  | .arrayOver (.object _) => true
  | _ => false
def jx_wn (p : Nat) (w : Cond) : Bool := decide (tables_1[p]? = some w) && jx_isN w
theorem jx_wn_in {p : Nat} {w : Cond} (h : jx_wn p w = true) : w ∈ tables_1 ∧ jx_isN w = true := by
  simp only [jx_wn, Bool.and_eq_true, decide_eq_true_eq] at h
  exact ⟨List.mem_of_getElem? h.1, h.2⟩
def jx_pL : List (List Nat) := [[64, 66, 68, 70, 72, 74], [147, 149, 151, 153], [119, 121, 123, 125, 127, 129, 131, 133], [48, 50], [251, 253, 255, 257], [185, 187, 189, 191, 193, 195, 197, 199, 201, 203, 205, 207, 209, 211], [95, 97, 99, 101, 103], [220, 222, 224, 226, 228], [355, 357], [290, 292, 294, 296, 298, 300], [454, 456, 458, 460, 462, 464, 466, 468, 470], [313, 315, 317, 319, 321, 323, 325, 327, 329, 331], [1016, 1018, 1020, 1022, 1024, 1026, 1028, 1030, 1032, 1034, 1036, 1038, 1040, 1042, 1044, 1046, 1048, 1050, 1052, 1054, 1056, 1058, 1060, 1062, 1064, 1066, 1068, 1070, 1072, 1074, 1076, 1078, 1080, 1082, 1084, 1086, 1088, 1090, 1092, 1094]]
/-- instantiable, initialized -/
def jx_pI : List (Nat × Nat) := [(29, 2), (137, 6), (79, 4), (35, 3), (237, 10), (166, 8), (85, 5), (158, 7), (346, 12), (261, 9), (421, 14), (19, 1), (964, 11)]
def jx_anm : List String := ["[I", "[J", "[B", "[Z", "[LHeatWorks$Net;", "[LHeatWorks$Sheet;", "[LHeatWorks$State;", "[LHeatWorks$Stream;"]
/-- of each array type: arrayClass or arrayOver; for clone: sameMethod, selects, castable -/
def jx_pT : List (Nat × Nat × Nat × Nat) := [(53, 384, 385, 386), (77, 0, 0, 0), (156, 0, 0, 0), (214, 0, 0, 0), (236, 566, 567, 568), (265, 365, 368, 369), (27, 0, 0, 0), (263, 482, 483, 484)]
/-- of each method: code, instanceMethod or static, selects, initialized; 0 virtual, 1 <init>, 2 static -/
def jx_pY : List (Nat × Nat × Nat × Nat × Nat) := [(32, 31, 0, 2, 1), (616, 614, 687, 2, 0), (620, 618, 691, 2, 0), (645, 643, 716, 2, 0), (649, 648, 5, 2, 0), (666, 664, 737, 2, 0), (677, 675, 748, 2, 0), (685, 683, 756, 2, 0), (689, 688, 6, 2, 0), (941, 939, 1012, 2, 0), (952, 950, 1023, 2, 0), (957, 955, 1028, 2, 0), (961, 959, 1032, 2, 0), (140, 139, 0, 6, 1), (907, 905, 978, 6, 0), (915, 913, 986, 6, 0), (919, 917, 990, 6, 0), (927, 926, 29, 6, 0), (82, 81, 0, 4, 1), (727, 725, 798, 4, 0), (734, 733, 7, 4, 0), (756, 755, 9, 4, 0), (760, 759, 10, 4, 0), (787, 786, 11, 4, 0), (38, 37, 0, 3, 1), (629, 627, 700, 3, 0), (637, 635, 708, 3, 0), (641, 639, 712, 3, 0), (662, 660, 733, 3, 0), (699, 697, 770, 3, 0), (240, 239, 0, 10, 1), (546, 544, 617, 10, 0), (550, 549, 0, 10, 2), (169, 168, 0, 8, 1), (813, 811, 884, 8, 0), (817, 815, 888, 8, 0), (839, 837, 910, 8, 0), (843, 842, 16, 8, 0), (847, 846, 17, 8, 0), (859, 857, 930, 8, 0), (864, 863, 19, 8, 0), (869, 868, 20, 8, 0), (873, 872, 21, 8, 0), (877, 876, 22, 8, 0), (881, 880, 23, 8, 0), (885, 884, 24, 8, 0), (890, 889, 25, 8, 0), (894, 893, 26, 8, 0), (898, 897, 27, 8, 0), (88, 87, 0, 5, 1), (739, 737, 810, 5, 0), (747, 746, 8, 5, 0), (764, 762, 835, 5, 0), (768, 766, 839, 5, 0), (776, 774, 847, 5, 0), (782, 780, 853, 5, 0), (161, 160, 0, 7, 1), (805, 803, 876, 7, 0), (809, 808, 12, 7, 0), (823, 822, 13, 7, 0), (827, 826, 14, 7, 0), (834, 833, 15, 7, 0), (851, 850, 18, 7, 0), (349, 348, 0, 12, 1), (382, 380, 453, 12, 0), (391, 390, 2, 12, 0), (405, 403, 476, 12, 0), (498, 496, 569, 12, 0), (504, 502, 575, 12, 0), (234, 233, 0, 9, 2), (268, 267, 0, 9, 1), (363, 361, 434, 9, 0), (480, 478, 551, 9, 0), (519, 517, 590, 9, 0), (527, 525, 598, 9, 0), (531, 529, 602, 9, 0), (564, 562, 635, 9, 0), (599, 597, 670, 9, 0), (855, 853, 926, 9, 0), (424, 423, 0, 14, 1), (542, 540, 613, 14, 0), (624, 622, 695, 14, 0), (633, 631, 704, 14, 0), (653, 651, 724, 14, 0), (658, 656, 729, 14, 0), (716, 714, 787, 14, 0), (743, 741, 814, 14, 0), (751, 749, 822, 14, 0), (22, 21, 0, 1, 1), (337, 335, 408, 1, 0), (340, 339, 0, 1, 2), (344, 343, 0, 1, 0), (374, 373, 1, 1, 0), (378, 376, 449, 1, 0), (397, 395, 468, 1, 0), (401, 399, 472, 1, 0), (409, 407, 480, 1, 0), (413, 412, 3, 1, 0), (416, 415, 0, 1, 2), (476, 475, 4, 1, 0), (489, 487, 560, 1, 0), (494, 492, 565, 1, 0), (511, 509, 582, 1, 0), (515, 513, 586, 1, 0), (523, 521, 594, 1, 0), (537, 535, 608, 1, 0), (573, 571, 644, 1, 0), (579, 577, 650, 1, 0), (583, 581, 654, 1, 0), (587, 585, 658, 1, 0), (591, 589, 662, 1, 0), (595, 593, 666, 1, 0), (609, 607, 680, 1, 0), (612, 611, 0, 1, 2), (673, 671, 744, 1, 0), (681, 679, 752, 1, 0), (694, 692, 765, 1, 0), (703, 701, 774, 1, 0), (707, 705, 778, 1, 0), (711, 709, 782, 1, 0), (723, 721, 794, 1, 0), (792, 790, 863, 1, 0), (796, 794, 867, 1, 0), (800, 798, 871, 1, 0), (903, 901, 974, 1, 0), (911, 910, 28, 1, 0), (932, 930, 1003, 1, 0), (935, 934, 0, 1, 2), (948, 946, 1019, 1, 0), (967, 966, 0, 11, 1), (975, 974, 30, 11, 0), (1100, 1098, 1171, 11, 0), (1104, 1103, 31, 11, 0), (1108, 1106, 1179, 11, 0), (1112, 1110, 1183, 11, 0), (1116, 1115, 32, 11, 0), (1120, 1119, 0, 11, 2), (1126, 1125, 33, 11, 0), (1130, 1128, 1201, 11, 0), (1135, 1134, 34, 11, 0), (1139, 1138, 35, 11, 0), (1143, 1141, 1214, 11, 0), (1147, 1145, 1218, 11, 0), (1151, 1149, 1222, 11, 0), (1155, 1153, 1226, 11, 0), (1161, 1160, 36, 11, 0), (1165, 1164, 37, 11, 0), (1169, 1167, 1240, 11, 0), (1174, 1172, 1245, 11, 0), (1181, 1179, 1252, 11, 0), (1185, 1183, 1256, 11, 0), (1190, 1188, 1261, 11, 0), (1194, 1193, 38, 11, 0), (1198, 1197, 39, 11, 0), (1202, 1200, 1273, 11, 0), (1206, 1205, 40, 11, 0), (1210, 1209, 41, 11, 0), (1214, 1212, 1285, 11, 0), (1217, 1216, 0, 11, 2), (1222, 1221, 42, 11, 0), (1226, 1225, 43, 11, 0), (1230, 1229, 44, 11, 0), (1234, 1233, 45, 11, 0), (1238, 1237, 46, 11, 0), (1242, 1241, 47, 11, 0), (1246, 1245, 48, 11, 0), (1250, 1249, 49, 11, 0), (1254, 1253, 50, 11, 0), (1258, 1256, 1329, 11, 0), (1262, 1260, 1333, 11, 0), (1266, 1264, 1337, 11, 0), (1270, 1268, 1341, 11, 0), (1274, 1272, 1345, 11, 0), (1278, 1277, 51, 11, 0), (1282, 1281, 52, 11, 0), (1286, 1284, 1357, 11, 0), (1290, 1289, 53, 11, 0), (1295, 1293, 1366, 11, 0), (1299, 1298, 54, 11, 0), (1303, 1302, 55, 11, 0), (1308, 1306, 1379, 11, 0), (1312, 1310, 1383, 11, 0), (1316, 1315, 56, 11, 0), (1320, 1319, 57, 11, 0), (1324, 1323, 58, 11, 0), (1328, 1327, 59, 11, 0), (1333, 1331, 1404, 11, 0), (1337, 1335, 1408, 11, 0), (1341, 1339, 1412, 11, 0), (1346, 1345, 60, 11, 0), (1350, 1348, 1421, 11, 0), (1354, 1352, 1425, 11, 0), (1358, 1357, 61, 11, 0), (1362, 1361, 62, 11, 0), (1366, 1364, 1437, 11, 0), (1371, 1370, 63, 11, 0), (1375, 1374, 64, 11, 0), (1381, 1380, 65, 11, 0), (1385, 1384, 66, 11, 0), (1389, 1388, 67, 11, 0), (1393, 1392, 68, 11, 0), (1397, 1396, 69, 11, 0), (1401, 1400, 70, 11, 0), (1405, 1404, 71, 11, 0), (1409, 1407, 1480, 11, 0), (602, 601, 0, 17, 2), (922, 921, 0, 17, 2), (419, 418, 0, 13, 2), (428, 427, 0, 13, 2), (507, 506, 0, 13, 2), (669, 668, 0, 13, 2), (719, 718, 0, 13, 2), (772, 771, 0, 13, 2), (553, 552, 0, 15, 2), (730, 729, 0, 15, 2)]
/-- no entry of the machine's own runs in the place of such a method's code -/
def jx_fd : List String := ["(D)D", "(DD)D", "(DDD)D", "(F)F", "(FF)F", "(FFF)F"]
theorem jx_mathRows : (Jvm.natives.all fun r => r.cls != "java/lang/Math" || jx_fd.contains r.desc) = true := by decide +kernel
def jx_pl (y : MethodName) : Bool := plainName y.cls || (decide (y.cls = "java/lang/Math") && !jx_fd.contains y.desc)
theorem jx_pl_for {y : MethodName} (h : jx_pl y = true) : plainFor y = true := by
  unfold jx_pl at h
  rcases Bool.or_eq_true _ _ ▸ h with h | h
  · exact plainFor_of_name h
  · simp only [Bool.and_eq_true, decide_eq_true_eq, Bool.not_eq_true'] at h
    unfold plainFor
    rw [Bool.or_eq_true]; right
    rw [Option.isNone_iff_eq_none, NativeRow.find?, List.find?_eq_none]
    intro r hr hq
    have := List.all_eq_true.mp jx_mathRows r hr
    simp only [Bool.and_eq_true, beq_iff_eq] at hq
    rw [hq.1.2, hq.2, h.1, h.2] at this
    simp at this
def jx_yC : MethodName := ⟨"java/lang/Object", "clone", "()Ljava/lang/Object;"⟩
def jx_clOk (i : Nat) : Bool := match jx_cl[i]? with
  | some c => decide (jx_cn i = c.1) && Nat.beq (jx_dfl.getD i []).length c.2.2 && Nat.beq (jx_fty.getD i []).length c.2.2 && jx_wd (jx_pI.getD i (0, 0)).1 (.instantiable c.1 c.2.2) && jx_wd (jx_pI.getD i (0, 0)).2 (.initialized c.1) && (List.range c.2.2).all fun k => jx_wd ((jx_pL.getD i []).getD k 0) (u_lay c.1 c.2.1 k) && decide ((c.2.1 k).1 = c.1) && decide (parseFieldDescriptor (c.2.1 k).2.2.1 = some ((jx_fty.getD i []).getD k .int)) && decide (defaultValue ((jx_fty.getD i []).getD k .int) = (jx_dfl.getD i []).getD k .null) && (List.range c.2.2).all fun j => Nat.beq k j || decide ((c.2.1 k).2.1 ≠ (c.2.1 j).2.1)
  | none => true
set_option maxRecDepth 100000 in
theorem jx_clOk_all : (List.range 13).all jx_clOk = true := by decide +kernel
def jx_fOk (q : Nat × Nat × Nat × Nat × Nat) : Bool := match jx_cl[q.2.2.1]? with
  | some c => Nat.blt q.2.2.2.1 c.2.2 && jx_wd q.2.2.2.2 (.fieldLink (jx_cn q.1) q.2.1 c.1 (c.2.1 q.2.2.2.1).2.1 (c.2.1 q.2.2.2.1).2.2.1)
  | none => false
set_option maxRecDepth 100000 in
theorem jx_fOk_all : jx_pF.all jx_fOk = true := by decide +kernel
def jx_cOk (q : Nat × Nat × Value × Nat) : Bool := match q.2.2.1 with
  | .int n => jx_wd q.2.2.2 (.constant (jx_cn q.1) q.2.1 n)
  | .long n => jx_wd q.2.2.2 (.constantLong (jx_cn q.1) q.2.1 n)
  | _ => false
set_option maxRecDepth 100000 in
theorem jx_cOk_all : jx_pC.all jx_cOk = true := by decide +kernel
def jx_nOk (q : Nat × Nat × Nat × Nat) : Bool := match jx_cl[q.2.2.1]? with
  | some c => jx_wd q.2.2.2 (.classLink (jx_cn q.1) q.2.1 c.1)
  | none => false
set_option maxRecDepth 100000 in
theorem jx_nOk_all : jx_pN.all jx_nOk = true := by decide +kernel
/-- an array type of references: its class, its name -/
def jx_tOk (t : Nat) : Bool := decide (jx_anm.getD t "" = "[" ++ (jx_aty.getD t .int).toString) &&
  (if t < 4 then jx_wd (jx_pT.getD t (0, 0, 0, 0)).1 (.arrayClass (jx_aty.getD t .int)) else decide (jx_aty.getD t .int = .object (jx_cn (jx_acl.getD t 99))) && Nat.blt (jx_acl.getD t 99) 13 && jx_wn (jx_pT.getD t (0, 0, 0, 0)).1 (.arrayOver (.object (jx_cn (jx_acl.getD t 99)))))
set_option maxRecDepth 100000 in
theorem jx_tOk_all : (List.range 8).all jx_tOk = true := by decide +kernel
def jx_aOk (q : Nat × Nat × Nat × Nat) : Bool := Nat.ble 4 q.2.2.1 && Nat.blt q.2.2.1 8 && jx_wd q.2.2.2 (.classLink (jx_cn q.1) q.2.1 (jx_cn (jx_acl.getD q.2.2.1 99)))
set_option maxRecDepth 100000 in
theorem jx_aOk_all : jx_pA.all jx_aOk = true := by decide +kernel
def jx_kOk (q : Nat × Nat × Nat × Nat) : Bool := Nat.blt q.2.2.1 8 && jx_wd q.2.2.2 (.classLink (jx_cn q.1) q.2.1 (jx_anm.getD q.2.2.1 ""))
set_option maxRecDepth 100000 in
theorem jx_kOk_all : jx_pK.all jx_kOk = true := by decide +kernel
def jx_yOk (cal : Nat) : Bool := match jx_pY[cal]? with
  | some q => jx_wd q.2.2.2.1 (.initialized (jx_mi cal).1.cls) && jx_pl (jx_mi cal).1 && decide ((jx_mi cal).1.cls = jx_cn (jx_mi cal).2.2.2.2.1) && decide ((jx_mi cal).1.cls ≠ "java/lang/invoke/MethodHandle") && decide ((jx_mi cal).1.cls ≠ "java/lang/invoke/VarHandle") &&
    (match q.2.2.2.2 with
     | 0 => jx_wd q.2.1 (.instanceMethod (jx_mi cal).1) && jx_wl q.2.2.1 (.selects (jx_mi cal).1.cls (jx_mi cal).1 (jx_mi cal).1) && Nat.blt (jx_mi cal).2.2.2.2.1 13
     | 1 => jx_wd q.2.1 (.instanceMethod (jx_mi cal).1) && decide ((jx_mi cal).1.name = "<init>") && decide ((jx_mi cal).2.2.2.1 = none)
     | _ => jx_wd q.2.1 (.static (jx_mi cal).1))
  | none => false
def jx_mOk (q : Nat × Nat × Nat × Nat × Nat) : Bool := match q.2.2.1 with
  | 0 => jx_wd q.2.2.2.2 (.methodLink (jx_cn q.1) q.2.1 (jx_mi q.2.2.2.1).1) && Nat.beq (jx_pY.getD q.2.2.2.1 (0, 0, 0, 0, 9)).2.2.2.2 0
  | 1 => jx_wd q.2.2.2.2 (.methodLink (jx_cn q.1) q.2.1 (jx_mi q.2.2.2.1).1) && Nat.beq (jx_pY.getD q.2.2.2.1 (0, 0, 0, 0, 9)).2.2.2.2 1
  | 2 => jx_wd q.2.2.2.2 (.methodLink (jx_cn q.1) q.2.1 (jx_mi q.2.2.2.1).1) && Nat.beq (jx_pY.getD q.2.2.2.1 (0, 0, 0, 0, 9)).2.2.2.2 2
  | 3 => jx_wn q.2.2.2.2 (.methodLinkNest (jx_cn q.1) q.2.1 (jx_mi q.2.2.2.1).1 "HeatWorks") && Nat.beq (jx_pY.getD q.2.2.2.1 (0, 0, 0, 0, 9)).2.2.2.2 1
  | 7 => jx_wn q.2.2.2.2 (.methodLinkNest (jx_cn q.1) q.2.1 (jx_mi q.2.2.2.1).1 "HeatWorks") && Nat.beq (jx_pY.getD q.2.2.2.1 (0, 0, 0, 0, 9)).2.2.2.2 2
  | 4 => jx_wd q.2.2.2.2 (.methodLink (jx_cn q.1) q.2.1 objectInit)
  | 5 => jx_wd q.2.2.2.2 (.methodLink (jx_cn q.1) q.2.1 ⟨jx_anm.getD q.2.2.2.1 "", "clone", "()Ljava/lang/Object;"⟩) && jx_wd (jx_pT.getD q.2.2.2.1 (0, 0, 0, 0)).2.1 (.sameMethod (jx_anm.getD q.2.2.2.1 "") "java/lang/Object" "clone" "()Ljava/lang/Object;") && jx_wd (jx_pT.getD q.2.2.2.1 (0, 0, 0, 0)).2.2.1 (.selects (jx_anm.getD q.2.2.2.1 "") ⟨jx_anm.getD q.2.2.2.1 "", "clone", "()Ljava/lang/Object;"⟩ jx_yC) && jx_wn (jx_pT.getD q.2.2.2.1 (0, 0, 0, 0)).2.2.2 (.castable (jx_anm.getD q.2.2.2.1 "") "java/lang/Cloneable") && Nat.blt q.2.2.2.1 8
  | 6 => jx_wd q.2.2.2.2 (.methodLink (jx_cn q.1) q.2.1 arraycopyName)
  | _ => false
set_option maxRecDepth 100000 in
theorem jx_mOk_all : jx_pM.all jx_mOk = true := by decide +kernel
set_option maxRecDepth 100000 in
theorem jx_yOk_all : (List.range 215).all jx_yOk = true := by decide +kernel
set_option maxRecDepth 100000 in
theorem jx_wObj : jx_wd 24 (.instanceMethod objectInit) = true ∧ jx_wd 25 (.code objectInit ⟨#[0xb1]⟩ 1 none) = true := ⟨by decide +kernel, by decide +kernel⟩
set_option maxRecDepth 100000 in
theorem jx_wCln : jx_wd 366 (.native jx_yC) = true ∧ jx_wd 367 (.instanceMethod jx_yC) = true := ⟨by decide +kernel, by decide +kernel⟩
set_option maxRecDepth 100000 in
theorem jx_wCpy : jx_wd 559 (.native arraycopyName) = true ∧ jx_wd 558 (.static arraycopyName) = true ∧ jx_wd 16 (.initialized "java/lang/System") = true := ⟨by decide +kernel, by decide +kernel, by decide +kernel⟩
/-- the class of each method's own, its number below 17 -/
def jx_oOk (m : Nat) : Bool := decide ((jx_mi m).1.cls = jx_cn (jx_mi m).2.2.2.2.1)
set_option maxRecDepth 100000 in
theorem jx_oOk_all : (List.range 216).all jx_oOk = true := by decide +kernel
