/-! part 02: the tables: owners, fields, methods, links, constants; the shape of the world -/
def cnL : List String := [
  "PalaceYard$Book", "PalaceYard$Close", "PalaceYard$Debts", "PalaceYard$Hats", "PalaceYard$Image", "PalaceYard$Letters",
  "PalaceYard$Life", "PalaceYard$Past", "PalaceYard$Reader", "PalaceYard$Town", "PalaceYard$Walk", "PalaceYard",
  "PalaceYardModel", "java/lang/Integer", "java/util/Arrays", "PalaceYardLaw"]
def cn (c : Nat) : String := cnL.getD c ""
def fL : List (List (String × String × String × Bool)) := [
  [("PalaceYard$Book", "who", "[I", true), ("PalaceYard$Book", "said", "[I", true), ("PalaceYard$Book", "count", "I", false)],
  [("PalaceYard$Close", "firstOf", "[I", true), ("PalaceYard$Close", "lessOf", "[I", true), ("PalaceYard$Close", "creditorOf", "[I", true), ("PalaceYard$Close", "sumOf", "[I", true), ("PalaceYard$Close", "incomeOf", "[I", true), ("PalaceYard$Close", "x", "[I", true), ("PalaceYard$Close", "y", "[I", true), ("PalaceYard$Close", "worth", "[I", true), ("PalaceYard$Close", "stands", "Z", false), ("PalaceYard$Close", "lodging", "I", false), ("PalaceYard$Close", "rooms", "I", false), ("PalaceYard$Close", "bailiffs", "I", false), ("PalaceYard$Close", "creditors", "I", false), ("PalaceYard$Close", "debtors", "I", false), ("PalaceYard$Close", "places", "I", false)],
  [("PalaceYard$Debts", "balance", "[I", true)],
  [("PalaceYard$Hats", "count", "I", false), ("PalaceYard$Hats", "least", "I", false), ("PalaceYard$Hats", "greatest", "I", false)],
  [("PalaceYard$Image", "row", "[I", true), ("PalaceYard$Image", "kept", "Z", false), ("PalaceYard$Image", "seed", "I", false)],
  [("PalaceYard$Letters", "signs", "[I", true), ("PalaceYard$Letters", "count", "I", false)],
  [("PalaceYard$Life", "is", "[I", true), ("PalaceYard$Life", "cash", "[I", true), ("PalaceYard$Life", "debts", "LPalaceYard$Debts;", true), ("PalaceYard$Life", "weeks", "I", false), ("PalaceYard$Life", "arrested", "I", false), ("PalaceYard$Life", "lodging", "I", false)],
  [("PalaceYard$Past", "rows", "[I", true), ("PalaceYard$Past", "next", "I", false), ("PalaceYard$Past", "count", "I", false)],
  [("PalaceYard$Reader", "numbers", "[I", true), ("PalaceYard$Reader", "at", "I", false), ("PalaceYard$Reader", "fault", "I", false), ("PalaceYard$Reader", "faultAt", "I", false)],
  [("PalaceYard$Town", "close", "LPalaceYard$Close;", true), ("PalaceYard$Town", "life", "LPalaceYard$Life;", true)],
  [("PalaceYard$Walk", "mostSteps", "I", false), ("PalaceYard$Walk", "bestWorth", "I", false), ("PalaceYard$Walk", "bestSteps", "I", false), ("PalaceYard$Walk", "bestFigures", "I", false)],
  [("PalaceYard", "letters", "LPalaceYard$Letters;", true), ("PalaceYard", "reader", "LPalaceYard$Reader;", true), ("PalaceYard", "draft", "LPalaceYard$Close;", true), ("PalaceYard", "town", "LPalaceYard$Town;", true), ("PalaceYard", "walk", "LPalaceYard$Walk;", true), ("PalaceYard", "past", "LPalaceYard$Past;", true), ("PalaceYard", "image0", "LPalaceYard$Image;", true), ("PalaceYard", "image1", "LPalaceYard$Image;", true), ("PalaceYard", "hats", "LPalaceYard$Hats;", true), ("PalaceYard", "book", "LPalaceYard$Book;", true), ("PalaceYard", "faultAt", "I", false), ("PalaceYard", "theSeed", "I", false)],
  [("PalaceYardModel", "yard", "[I", true), ("PalaceYardModel", "read", "[I", true), ("PalaceYardModel", "now", "[I", true), ("PalaceYardModel", "aside", "[I", true), ("PalaceYardModel", "past", "[I", true), ("PalaceYardModel", "undos", "I", false), ("PalaceYardModel", "images", "[I", true), ("PalaceYardModel", "kept", "[Z", true), ("PalaceYardModel", "seed", "J", false), ("PalaceYardModel", "text", "[I", true), ("PalaceYardModel", "size", "I", false), ("PalaceYardModel", "fault", "I", false), ("PalaceYardModel", "hats", "[I", true), ("PalaceYardModel", "hatMany", "I", false), ("PalaceYardModel", "book", "[I", true), ("PalaceYardModel", "bookMany", "I", false), ("PalaceYardModel", "at", "I", false), ("PalaceYardModel", "begin", "I", false), ("PalaceYardModel", "sign", "I", false), ("PalaceYardModel", "figures", "I", false), ("PalaceYardModel", "value", "I", false), ("PalaceYardModel", "wrong", "I", false), ("PalaceYardModel", "way", "[I", true), ("PalaceYardModel", "steps", "[I", true), ("PalaceYardModel", "worth", "[I", true), ("PalaceYardModel", "numbers", "[I", true), ("PalaceYardModel", "bestWorth", "I", false), ("PalaceYardModel", "bestSteps", "I", false), ("PalaceYardModel", "bestNumber", "I", false)]]
def fT (ci : Nat) : u_T := fun k => (fL.getD ci []).getD k ("", "", "", false)
def nf (ci : Nat) : Nat := (fL.getD ci []).length
def fY : List (List FieldType) := [
  [.array .int, .array .int, .int],
  [.array .int, .array .int, .array .int, .array .int, .array .int, .array .int, .array .int, .array .int, .boolean, .int, .int, .int, .int, .int, .int],
  [.array .int],
  [.int, .int, .int],
  [.array .int, .boolean, .int],
  [.array .int, .int],
  [.array .int, .array .int, .object "PalaceYard$Debts", .int, .int, .int],
  [.array .int, .int, .int],
  [.array .int, .int, .int, .int],
  [.object "PalaceYard$Close", .object "PalaceYard$Life"],
  [.int, .int, .int, .int],
  [.object "PalaceYard$Letters", .object "PalaceYard$Reader", .object "PalaceYard$Close", .object "PalaceYard$Town", .object "PalaceYard$Walk", .object "PalaceYard$Past", .object "PalaceYard$Image", .object "PalaceYard$Image", .object "PalaceYard$Hats", .object "PalaceYard$Book", .int, .int],
  [.array .int, .array .int, .array .int, .array .int, .array .int, .int, .array .int, .array .boolean, .long, .array .int, .int, .int, .array .int, .int, .array .int, .int, .int, .int, .int, .int, .int, .int, .array .int, .array .int, .array .int, .array .int, .int, .int, .int]]
def fTy (ci k : Nat) : FieldType := (fY.getD ci []).getD k .int
/-- 0 int, 1 boolean, 2 long, 3 a reference -/
def fK : List (List Nat) := [
  [3, 3, 0], [3, 3, 3, 3, 3, 3, 3, 3, 1, 0, 0, 0, 0, 0, 0], [3], [0, 0, 0],
  [3, 1, 0], [3, 0], [3, 3, 3, 0, 0, 0], [3, 0, 0],
  [3, 0, 0, 0], [3, 3], [0, 0, 0, 0], [3, 3, 3, 3, 3, 3, 3, 3, 3, 3, 0, 0],
  [3, 3, 3, 3, 3, 0, 3, 3, 2, 3, 0, 0, 3, 0, 3, 0, 0, 0, 0, 0, 0, 0, 3, 3, 3, 3, 0, 0, 0]]
def fk (ci k : Nat) : Nat := (fK.getD ci []).getD k 9
def cl13 : List vw_C := (List.range 13).map (fun c => (cn c, fT c, nf c))
/-- the words, by their places -/
def sg : Nat → List Jvm.Cond
  | 0 => tables_1_1
  | 1 => tables_1_2
  | 2 => tables_1_3
  | 3 => tables_1_4
  | 4 => tables_1_5
  | _ => tables_1_6
def wd (p : Nat) : Option Jvm.Cond := if p < 2000 then (sg (p / 240))[p % 240]? else (k2_sels lw_privs)[p - 2000]?
theorem wd_mem {p : Nat} {w : Jvm.Cond} (h : wd p = some w) : w ∈ lw_tbl := by
  unfold wd at h
  split at h
  · have h1 := List.mem_of_getElem? h
    unfold lw_tbl tables_1
    simp only [List.mem_append]
    unfold sg at h1
    split at h1 <;> simp_all
  · exact List.mem_append_left _ (List.mem_of_getElem? h)
def tb : List Jvm.Cond := lw_tbl.filter goodWord
theorem tb_mem {p : Nat} {w : Jvm.Cond} (h : wd p = some w) (hg : goodWord w = true) : w ∈ tb := List.mem_filter.mpr ⟨wd_mem h, hg⟩
def isW (p : Nat) (w : Jvm.Cond) : Bool := decide (wd p = some w) && goodWord w
theorem isW_mem {p : Nat} {w : Jvm.Cond} (h : isW p w = true) : w ∈ tb := by
  simp only [isW, Bool.and_eq_true, decide_eq_true_eq] at h
  exact tb_mem h.1 h.2
/-- what a word of code says -/
def cw4 (w : Option Jvm.Cond) : MethodName × ByteArray × Nat × Option FieldType := match w with
  | some (.code n b l r) => (n, b, l, r)
  | _ => (⟨"PalaceYardLaw", "law", "([I)Z"⟩, code, 4, some .boolean)
def cwB (w : Option Jvm.Cond) : Bool := match w with
  | some (.code _ _ _ _) => true
  | _ => false
theorem cw_eq {w : Option Jvm.Cond} (h : cwB w = true) : w = some (.code (cw4 w).1 (cw4 w).2.1 (cw4 w).2.2.1 (cw4 w).2.2.2) := by
  unfold cwB at h
  split at h
  · rfl
  · cases h
/-- methods: the place of the word of code, owner, parameters, static; places of instanceMethod or static, selects, initialized -/
def mL : List (Nat × Nat × Nat × Bool × Nat × Nat × Nat) := [
  (798, 0, 2, false, 796, 797, 12), (810, 0, 1, false, 808, 809, 12), (356, 1, 0, false, 354, 355, 4), (378, 1, 1, false, 376, 377, 4), (407, 1, 4, false, 405, 406, 4), (416, 1, 1, false, 414, 415, 4),
  (509, 1, 2, false, 507, 508, 4), (720, 1, 2, false, 718, 719, 4), (484, 2, 0, false, 482, 483, 7), (488, 2, 1, false, 486, 487, 7), (492, 2, 2, false, 490, 491, 7), (495, 2, 2, true, 494, 0, 7),
  (500, 2, 2, false, 498, 499, 7), (629, 2, 3, false, 627, 628, 7), (670, 2, 1, false, 668, 669, 7), (752, 2, 2, false, 750, 751, 7), (756, 2, 1, false, 755, 2020, 7), (434, 3, 0, false, 432, 433, 11),
  (771, 3, 2, false, 769, 770, 11), (781, 3, 0, false, 779, 780, 11), (789, 3, 0, false, 787, 788, 11), (826, 4, 2, false, 824, 825, 10), (835, 4, 1, false, 833, 834, 10), (344, 5, 1, false, 342, 343, 2),
  (364, 5, 1, false, 362, 363, 2), (423, 6, 0, false, 421, 422, 6), (555, 6, 2, false, 553, 554, 6), (682, 6, 2, false, 680, 681, 6), (430, 7, 0, false, 428, 429, 9), (551, 7, 1, false, 549, 550, 9),
  (678, 7, 1, false, 676, 677, 9), (352, 8, 2, false, 350, 351, 3), (360, 8, 1, false, 359, 2000, 3), (368, 8, 2, false, 367, 2001, 3), (371, 8, 1, true, 370, 0, 3), (374, 8, 2, true, 373, 0, 3),
  (382, 8, 2, false, 381, 2002, 3), (386, 8, 3, false, 385, 2003, 3), (396, 8, 3, false, 395, 2004, 3), (399, 8, 1, true, 398, 0, 3), (403, 8, 1, false, 402, 2005, 3), (412, 9, 1, false, 410, 411, 5),
  (446, 9, 1, false, 444, 445, 5), (450, 9, 0, false, 448, 449, 5), (455, 9, 2, false, 454, 2006, 5), (459, 9, 0, false, 457, 458, 5), (463, 9, 1, false, 462, 2007, 5), (467, 9, 3, false, 465, 466, 5),
  (470, 9, 1, true, 469, 0, 5), (480, 9, 0, false, 478, 479, 5), (523, 9, 2, false, 521, 522, 5), (561, 9, 0, false, 559, 560, 5), (565, 9, 1, false, 563, 564, 5), (569, 9, 1, false, 568, 2011, 5),
  (575, 9, 1, false, 574, 2012, 5), (583, 9, 1, false, 581, 582, 5), (601, 9, 1, false, 599, 600, 5), (606, 9, 1, false, 604, 605, 5), (610, 9, 2, false, 609, 2013, 5), (618, 9, 3, false, 616, 617, 5),
  (625, 9, 3, false, 623, 624, 5), (637, 9, 2, false, 635, 636, 5), (642, 9, 2, false, 640, 641, 5), (691, 9, 1, false, 689, 690, 5), (699, 9, 1, false, 697, 698, 5), (703, 9, 2, false, 701, 702, 5),
  (735, 9, 1, false, 733, 734, 5), (739, 9, 1, false, 737, 738, 5), (712, 10, 2, false, 710, 711, 8), (716, 10, 7, false, 715, 2018, 8), (727, 10, 3, false, 726, 2019, 8), (338, 11, 1, false, 336, 337, 1),
  (348, 11, 0, false, 346, 347, 1), (438, 11, 0, false, 436, 437, 1), (442, 11, 1, false, 440, 441, 1), (504, 11, 2, false, 502, 503, 1), (515, 11, 2, false, 513, 514, 1), (519, 11, 1, false, 518, 2008, 1),
  (529, 11, 2, false, 527, 528, 1), (533, 11, 2, false, 532, 2009, 1), (538, 11, 2, false, 536, 537, 1), (542, 11, 1, false, 540, 541, 1), (546, 11, 1, false, 545, 2010, 1), (579, 11, 1, false, 577, 578, 1),
  (593, 11, 1, false, 591, 592, 1), (597, 11, 1, false, 595, 596, 1), (614, 11, 3, false, 612, 613, 1), (633, 11, 2, false, 631, 632, 1), (646, 11, 1, false, 644, 645, 1), (650, 11, 0, false, 649, 2014, 1),
  (654, 11, 1, false, 653, 2015, 1), (662, 11, 1, false, 661, 2016, 1), (666, 11, 1, false, 665, 2017, 1), (674, 11, 0, false, 672, 673, 1), (686, 11, 1, false, 684, 685, 1), (695, 11, 2, false, 693, 694, 1),
  (708, 11, 2, false, 706, 707, 1), (731, 11, 2, false, 729, 730, 1), (743, 11, 2, false, 741, 742, 1), (748, 11, 2, false, 746, 747, 1), (761, 11, 2, false, 759, 760, 1), (767, 11, 2, false, 765, 766, 1),
  (777, 11, 1, false, 775, 776, 1), (785, 11, 0, false, 783, 784, 1), (794, 11, 2, false, 792, 793, 1), (802, 11, 0, false, 800, 801, 1), (806, 11, 0, false, 804, 805, 1), (814, 11, 1, false, 812, 813, 1),
  (818, 11, 1, false, 816, 817, 1), (822, 11, 1, false, 821, 2021, 1), (831, 11, 1, false, 829, 830, 1), (935, 12, 1, false, 933, 934, 13), (939, 12, 3, true, 938, 0, 13), (945, 12, 0, false, 943, 944, 13),
  (949, 12, 0, false, 948, 2022, 13), (953, 12, 0, false, 952, 2023, 13), (959, 12, 0, false, 958, 2024, 13), (963, 12, 1, false, 962, 2025, 13), (967, 12, 3, false, 966, 2026, 13), (971, 12, 0, false, 970, 2027, 13),
  (975, 12, 0, false, 974, 2028, 13), (979, 12, 0, false, 978, 2029, 13), (983, 12, 0, false, 982, 2030, 13), (986, 12, 5, true, 985, 0, 13), (990, 12, 0, false, 989, 2031, 13), (994, 12, 0, false, 992, 993, 13),
  (998, 12, 1, false, 996, 997, 13), (1002, 12, 1, false, 1001, 2032, 13), (1006, 12, 0, false, 1005, 2033, 13), (1009, 12, 2, true, 1008, 0, 13), (1013, 12, 0, false, 1012, 2034, 13), (1017, 12, 3, false, 1016, 2035, 13),
  (1020, 12, 1, true, 1019, 0, 13), (1023, 12, 2, true, 1022, 0, 13), (1026, 12, 2, true, 1025, 0, 13), (1030, 12, 0, false, 1029, 2036, 13), (1034, 12, 0, false, 1033, 2037, 13), (1038, 12, 1, false, 1037, 2038, 13),
  (1042, 12, 2, false, 1040, 1041, 13), (1048, 12, 2, false, 1047, 2039, 13), (1052, 12, 2, false, 1050, 1051, 13), (1056, 12, 1, false, 1055, 2040, 13), (1060, 12, 1, false, 1059, 2041, 13), (1064, 12, 2, false, 1063, 2042, 13),
  (1068, 12, 2, false, 1066, 1067, 13), (1072, 12, 2, false, 1070, 1071, 13), (1077, 12, 1, false, 1075, 1076, 13), (1081, 12, 1, false, 1080, 2043, 13), (1087, 12, 0, false, 1086, 2044, 13), (1091, 12, 0, false, 1090, 2045, 13),
  (1095, 12, 1, false, 1094, 2046, 13), (1099, 12, 1, true, 1098, 0, 13), (1103, 12, 1, false, 1101, 1102, 13), (1107, 12, 1, false, 1106, 2047, 13), (1111, 12, 1, false, 1109, 1110, 13), (1115, 12, 1, false, 1113, 1114, 13),
  (1119, 12, 1, false, 1118, 2048, 13), (1123, 12, 1, false, 1122, 2049, 13), (1127, 12, 3, false, 1125, 1126, 13), (1132, 12, 3, false, 1131, 2050, 13), (1136, 12, 3, false, 1135, 2051, 13), (1140, 12, 3, false, 1139, 2052, 13),
  (1144, 12, 2, false, 1142, 1143, 13), (1148, 12, 2, false, 1147, 2053, 13), (1152, 12, 2, false, 1151, 2054, 13), (1156, 12, 1, false, 1154, 1155, 13), (1160, 12, 0, false, 1159, 2055, 13), (1164, 12, 1, false, 1163, 2056, 13),
  (1172, 12, 1, false, 1171, 2057, 13), (1176, 12, 0, false, 1174, 1175, 13), (1180, 12, 1, false, 1178, 1179, 13), (1184, 12, 2, false, 1182, 1183, 13), (1189, 12, 2, false, 1187, 1188, 13), (1194, 12, 1, false, 1193, 2058, 13),
  (1198, 12, 2, false, 1197, 2059, 13), (1202, 12, 1, false, 1201, 2060, 13), (1205, 12, 1, true, 1204, 0, 13), (1209, 12, 1, false, 1208, 2061, 13), (1213, 12, 3, false, 1212, 2062, 13), (1217, 12, 2, false, 1215, 1216, 13),
  (1222, 12, 2, false, 1220, 1221, 13), (1226, 12, 2, false, 1224, 1225, 13), (1230, 12, 1, false, 1229, 2063, 13), (1234, 12, 2, false, 1232, 1233, 13), (1239, 12, 2, false, 1237, 1238, 13), (1243, 12, 1, false, 1241, 1242, 13),
  (1247, 12, 1, false, 1246, 2064, 13), (1251, 12, 1, false, 1250, 2065, 13), (1255, 12, 0, false, 1253, 1254, 13), (1259, 12, 2, false, 1257, 1258, 13), (1264, 12, 0, false, 1262, 1263, 13), (1268, 12, 0, false, 1266, 1267, 13),
  (1272, 12, 1, false, 1270, 1271, 13), (1276, 12, 1, false, 1274, 1275, 13), (1280, 12, 1, false, 1278, 1279, 13), (586, 13, 1, true, 585, 0, 17), (426, 14, 2, true, 425, 0, 15)]
abbrev nM : Nat := 197
def mD (y : Nat) : Nat × Nat × Nat × Bool × Nat × Nat × Nat := mL.getD y (9999, 15, 1, true, 0, 0, 0)
def mc (y : Nat) : Nat := (mD y).2.1
def mw (y : Nat) : MethodName × ByteArray × Nat × Option FieldType := cw4 (wd (mD y).1)
def nm (y : Nat) : MethodName := (mw y).1
def cd (y : Nat) : ByteArray := (mw y).2.1
def nl (y : Nat) : Nat := (mw y).2.2.1
def rty (y : Nat) : Option FieldType := (mw y).2.2.2
def np (y : Nat) : Nat := (mD y).2.2.1
def sta (y : Nat) : Bool := (mD y).2.2.2.1
def lk {α : Type} (t : List (Nat × Nat × α)) (a b : Nat) : Option α := (t.find? (fun q => q.1 == a && q.2.1 == b)).map (fun q => q.2.2)
theorem lk_mem {α : Type} {t : List (Nat × Nat × α)} {a b : Nat} {x : α} (h : lk t a b = some x) : (a, b, x) ∈ t := by
  unfold lk at h
  cases hq : t.find? (fun q => q.1 == a && q.2.1 == b) with
  | none => rw [hq] at h; cases h
  | some q =>
    rw [hq] at h
    have h1 := List.mem_of_find?_eq_some hq
    have h2 := List.find?_some hq
    simp only [Bool.and_eq_true, beq_iff_eq] at h2
    obtain ⟨q1, q2, q3⟩ := q
    simp only [Option.map_some, Option.some.injEq] at h
    simp only at h2
    rw [← h2.1, ← h2.2, ← h]
    exact h1
/-- links of calls: owner, entry, method, place of the word -/
def cI : List (Nat × Nat × Nat × Nat) := [
  (15, 13, 71, 335), (11, 87, 23, 341), (15, 18, 72, 345), (11, 91, 31, 349), (8, 19, 2, 353), (8, 30, 32, 357), (8, 43, 24, 361), (8, 39, 33, 365), (8, 47, 34, 369), (8, 50, 35, 372), (8, 73, 3, 375), (8, 54, 36, 379),
  (8, 58, 37, 383), (8, 89, 38, 393), (8, 93, 39, 397), (8, 62, 40, 400), (8, 65, 4, 404), (1, 65, 3, 408), (11, 96, 41, 409), (9, 25, 5, 413), (9, 29, 25, 420), (6, 25, 196, 424), (11, 100, 28, 427), (11, 107, 17, 431),
  (15, 23, 73, 435), (15, 27, 74, 439), (11, 141, 42, 443), (11, 145, 43, 447), (9, 40, 42, 451), (9, 137, 44, 452), (11, 149, 45, 456), (9, 141, 46, 460), (9, 125, 47, 464), (9, 105, 48, 468), (11, 156, 49, 477), (11, 163, 8, 481),
  (2, 28, 9, 485), (2, 19, 10, 489), (2, 15, 11, 493), (2, 32, 12, 497), (15, 31, 75, 501), (11, 171, 6, 506), (15, 36, 76, 512), (11, 175, 77, 516), (11, 195, 50, 520), (9, 58, 6, 524), (11, 198, 9, 525), (15, 40, 78, 526),
  (11, 201, 79, 530), (11, 205, 12, 534), (15, 44, 80, 535), (15, 48, 81, 539), (11, 217, 82, 543), (11, 220, 29, 548), (7, 24, 26, 552), (11, 224, 51, 558), (9, 62, 52, 562), (9, 114, 53, 566), (9, 118, 43, 571), (9, 122, 54, 572),
  (15, 52, 83, 576), (11, 227, 55, 580), (9, 44, 195, 584), (15, 56, 84, 590), (15, 60, 85, 594), (11, 231, 56, 598), (9, 72, 50, 602), (11, 234, 57, 603), (9, 75, 58, 607), (15, 64, 86, 611), (11, 237, 59, 615), (9, 84, 10, 620),
  (11, 241, 60, 622), (9, 90, 13, 626), (15, 69, 87, 630), (11, 245, 61, 634), (9, 94, 12, 638), (11, 248, 62, 639), (15, 73, 88, 643), (11, 251, 89, 647), (11, 346, 90, 651), (11, 349, 91, 659), (11, 352, 92, 663), (11, 355, 14, 667),
  (15, 77, 93, 671), (11, 254, 30, 675), (7, 34, 27, 679), (15, 81, 94, 683), (11, 257, 52, 687), (11, 260, 63, 688), (15, 85, 95, 692), (11, 263, 64, 696), (9, 144, 65, 700), (11, 266, 65, 704), (15, 89, 96, 705), (11, 269, 68, 709),
  (10, 24, 69, 713), (10, 28, 7, 717), (10, 34, 70, 724), (15, 93, 97, 728), (11, 282, 66, 732), (11, 285, 67, 736), (15, 97, 98, 740), (11, 288, 47, 744), (15, 101, 99, 745), (11, 292, 15, 749), (2, 35, 16, 753), (2, 38, 195, 757),
  (15, 105, 100, 758), (15, 109, 101, 764), (11, 300, 18, 768), (15, 114, 102, 774), (11, 303, 19, 778), (15, 118, 103, 782), (11, 312, 20, 786), (3, 30, 19, 790), (15, 122, 104, 791), (11, 315, 0, 795), (15, 126, 105, 799), (15, 130, 106, 803),
  (11, 318, 1, 807), (15, 134, 107, 811), (15, 138, 108, 815), (11, 322, 109, 819), (11, 326, 21, 823), (4, 15, 26, 827), (15, 142, 110, 828), (11, 330, 22, 832), (4, 27, 27, 836), (15, 17, 111, 932), (12, 75, 112, 937), (15, 22, 113, 942),
  (12, 110, 114, 946), (12, 87, 115, 950), (12, 134, 116, 956), (12, 113, 117, 960), (12, 117, 118, 964), (12, 121, 119, 968), (12, 125, 120, 972), (12, 128, 121, 976), (12, 131, 122, 980), (12, 137, 123, 984), (12, 141, 124, 987), (15, 26, 125, 991),
  (15, 30, 126, 995), (12, 150, 127, 999), (12, 168, 128, 1003), (12, 154, 129, 1007), (12, 171, 130, 1010), (12, 161, 131, 1014), (12, 158, 132, 1018), (12, 57, 133, 1021), (12, 61, 134, 1024), (12, 174, 135, 1027), (12, 177, 136, 1031), (12, 165, 137, 1035),
  (15, 35, 138, 1039), (12, 144, 139, 1045), (15, 39, 140, 1049), (12, 183, 141, 1053), (12, 186, 142, 1057), (12, 147, 143, 1061), (15, 43, 144, 1065), (15, 47, 145, 1069), (15, 51, 146, 1074), (12, 201, 147, 1078), (12, 204, 148, 1084), (12, 207, 149, 1088),
  (12, 191, 150, 1092), (12, 195, 151, 1097), (15, 55, 152, 1100), (12, 210, 153, 1104), (15, 59, 154, 1108), (15, 63, 155, 1112), (12, 213, 156, 1116), (12, 216, 157, 1120), (15, 68, 158, 1124), (12, 221, 159, 1129), (12, 224, 160, 1133), (12, 227, 161, 1137),
  (15, 72, 162, 1141), (12, 231, 163, 1145), (12, 234, 164, 1149), (15, 76, 165, 1153), (12, 255, 166, 1157), (12, 249, 167, 1161), (12, 252, 168, 1169), (15, 80, 169, 1173), (15, 84, 170, 1177), (15, 88, 171, 1181), (15, 92, 172, 1186), (12, 285, 173, 1191),
  (12, 277, 174, 1195), (12, 259, 175, 1199), (12, 262, 176, 1203), (12, 265, 177, 1206), (12, 280, 178, 1210), (15, 96, 179, 1214), (15, 100, 180, 1219), (15, 104, 181, 1223), (12, 291, 182, 1227), (15, 108, 183, 1231), (15, 113, 184, 1236), (15, 117, 185, 1240),
  (12, 296, 186, 1244), (12, 299, 187, 1248), (15, 121, 188, 1252), (15, 125, 189, 1256), (15, 129, 190, 1261), (15, 133, 191, 1265), (15, 137, 192, 1269), (15, 141, 193, 1273), (15, 145, 194, 1277)]
/-- links of fields: owner, entry, the field's owner and place, place of the word -/
def fI : List (Nat × Nat × Nat × Nat × Nat) := [
  (5, 9, 5, 0, 32), (5, 15, 5, 1, 33), (11, 83, 5, 1, 34), (8, 34, 5, 1, 35), (8, 9, 8, 0, 48), (8, 24, 8, 1, 49), (8, 27, 8, 2, 50), (8, 15, 8, 3, 51), (11, 95, 8, 3, 52), (1, 9, 1, 0, 68), (1, 15, 1, 1, 69), (1, 18, 1, 2, 70),
  (9, 55, 1, 2, 71), (11, 179, 1, 2, 72), (1, 21, 1, 3, 73), (9, 52, 1, 3, 74), (11, 183, 1, 3, 75), (1, 24, 1, 4, 76), (11, 186, 1, 4, 77), (9, 108, 1, 4, 78), (1, 27, 1, 5, 79), (11, 208, 1, 5, 80), (1, 30, 1, 6, 81), (11, 211, 1, 6, 82),
  (1, 33, 1, 7, 83), (10, 41, 1, 7, 84), (11, 214, 1, 7, 85), (1, 36, 1, 8, 86), (8, 69, 1, 8, 87), (11, 336, 1, 8, 88), (1, 40, 1, 9, 89), (11, 117, 1, 9, 90), (9, 111, 1, 9, 91), (1, 44, 1, 10, 92), (9, 49, 1, 10, 93), (11, 120, 1, 10, 94),
  (1, 47, 1, 11, 95), (11, 123, 1, 11, 96), (9, 134, 1, 11, 97), (1, 50, 1, 12, 98), (11, 126, 1, 12, 99), (8, 86, 1, 12, 100), (9, 147, 1, 12, 101), (1, 53, 1, 13, 102), (9, 32, 1, 13, 103), (11, 114, 1, 13, 104), (1, 56, 1, 14, 105), (10, 38, 1, 14, 106),
  (11, 129, 1, 14, 107), (2, 11, 2, 0, 159), (6, 31, 2, 0, 160), (6, 11, 6, 0, 164), (9, 36, 6, 0, 165), (0, 22, 6, 0, 166), (11, 189, 6, 0, 167), (6, 17, 6, 1, 168), (9, 66, 6, 1, 169), (11, 192, 6, 1, 170), (6, 21, 6, 2, 171), (11, 159, 6, 2, 172),
  (9, 80, 6, 2, 173), (6, 34, 6, 3, 174), (11, 136, 6, 3, 175), (9, 69, 6, 3, 176), (6, 38, 6, 4, 177), (11, 152, 6, 4, 178), (9, 131, 6, 4, 179), (6, 41, 6, 5, 180), (11, 155, 6, 5, 181), (9, 130, 6, 5, 182), (9, 12, 9, 0, 196), (11, 111, 9, 0, 197),
  (9, 21, 9, 1, 198), (11, 132, 9, 1, 199), (10, 9, 10, 0, 211), (10, 15, 10, 1, 212), (11, 273, 10, 1, 213), (10, 18, 10, 2, 214), (11, 276, 10, 2, 215), (10, 21, 10, 3, 216), (11, 279, 10, 3, 217), (7, 11, 7, 0, 233), (7, 21, 7, 1, 234), (7, 17, 7, 2, 235),
  (11, 169, 7, 2, 236), (4, 9, 4, 0, 250), (4, 23, 4, 1, 251), (11, 103, 4, 1, 252), (4, 19, 4, 2, 253), (11, 333, 4, 2, 254), (3, 15, 3, 0, 268), (11, 168, 3, 0, 269), (3, 18, 3, 1, 270), (11, 306, 3, 1, 271), (3, 9, 3, 2, 272), (11, 309, 3, 2, 273),
  (0, 9, 0, 0, 287), (0, 15, 0, 1, 288), (0, 18, 0, 2, 289), (11, 110, 0, 2, 290), (11, 10, 11, 0, 298), (11, 19, 11, 1, 299), (11, 26, 11, 2, 300), (11, 33, 11, 3, 301), (11, 40, 11, 4, 302), (11, 47, 11, 5, 303), (11, 54, 11, 6, 304), (11, 58, 11, 7, 305),
  (11, 64, 11, 8, 306), (11, 71, 11, 9, 307), (11, 75, 11, 10, 308), (11, 79, 11, 11, 309), (12, 7, 12, 0, 843), (12, 13, 12, 1, 844), (12, 16, 12, 2, 845), (12, 19, 12, 3, 846), (12, 22, 12, 4, 847), (12, 64, 12, 5, 848), (12, 25, 12, 6, 849), (12, 28, 12, 7, 850),
  (12, 237, 12, 8, 851), (12, 32, 12, 9, 852), (12, 80, 12, 10, 853), (12, 35, 12, 11, 854), (12, 39, 12, 12, 855), (12, 67, 12, 13, 856), (12, 42, 12, 14, 857), (12, 70, 12, 15, 858), (12, 84, 12, 16, 859), (12, 91, 12, 17, 860), (12, 94, 12, 18, 861), (12, 97, 12, 19, 862),
  (12, 100, 12, 20, 863), (12, 107, 12, 21, 864), (12, 45, 12, 22, 865), (12, 48, 12, 23, 866), (12, 51, 12, 24, 867), (12, 54, 12, 25, 868), (12, 268, 12, 26, 869), (12, 271, 12, 27, 870), (12, 274, 12, 28, 871)]
def kI : List (Nat × Nat × Int32 × Nat) := [
  (11, 82, -1000000002, 339), (11, 86, -1000000004, 340), (11, 170, -1000000001, 505), (11, 230, -1000000003, 547), (9, 129, 999999, 570), (13, 265, 1431655765, 587), (13, 266, 858993459, 588), (13, 267, 252645135, 589), (9, 79, -1000000003, 619), (9, 89, -1000000004, 621), (11, 345, 65536, 658), (12, 79, -1000000002, 940),
  (12, 83, -1000000004, 941), (12, 180, -1000000001, 1043), (12, 200, -1000000003, 1083), (12, 194, 999999, 1096), (12, 258, 100000000, 1185)]
def kJ : List (Nat × Nat × Int64 × Nat) := [
  (11, 339, 1103515245, 655), (11, 341, 12345, 656), (11, 343, 2147483647, 657), (11, 296, 1000000000, 762), (11, 298, 100, 763), (12, 73, 255, 936), (12, 103, 48, 954), (12, 105, 57, 955), (12, 181, 9999, 1044), (12, 189, 2, 1073), (12, 198, 60, 1082), (12, 219, 999, 1128),
  (12, 241, 1103515245, 1165), (12, 243, 12345, 1166), (12, 245, 2147483648, 1167), (12, 247, 65536, 1168), (12, 283, 99, 1190), (12, 289, 100, 1218), (12, 294, 1000000000, 1235), (12, 302, 4, 1260)]
/-- links of arraycopy -/
def aI : List (Nat × Nat × Nat) := [
  (1, 59, 417), (6, 44, 556)]
/-- links of Math: 0 max, 1 min, 2 abs -/
def xI : List (Nat × Nat × Nat × Nat) := [
  (9, 97, 1, 471), (9, 102, 0, 474), (2, 23, 0, 496), (1, 69, 1, 510), (1, 75, 0, 511), (7, 28, 1, 557), (1, 78, 2, 721), (3, 21, 0, 772), (3, 27, 1, 773)]
def xN : Nat → MethodName
  | 0 => Lib.Math.max.name
  | 1 => Lib.Math.min.name
  | _ => Lib.Math.abs.name
/-- cells: their kind (an owner, 13 an int row, 14 a boolean row), their length -/
def ceL : List (Nat × Nat) := [
  (11, 0), (5, 0), (13, 240), (8, 0), (13, 3), (1, 0), (13, 4), (13, 4), (13, 6), (13, 6), (13, 6), (13, 6),
  (13, 6), (13, 6), (9, 0), (1, 0), (13, 4), (13, 4), (13, 6), (13, 6), (13, 6), (13, 6), (13, 6), (13, 6),
  (6, 0), (13, 6), (13, 6), (2, 0), (13, 36), (10, 0), (7, 0), (13, 816), (4, 0), (13, 51), (4, 0), (13, 51),
  (3, 0), (0, 0), (13, 15), (13, 15), (12, 0), (13, 50), (13, 50), (13, 51), (13, 51), (13, 816), (13, 104), (14, 2),
  (13, 240), (13, 12), (13, 30), (13, 7), (13, 7), (13, 7), (13, 7)]
abbrev nC : Nat := 55
/-- 60, 61, 62: the three static rows; 63 the script -/
def kd (k : Nat) : Nat := if k < 60 then (ceL.getD k (99, 0)).1 else if k < 64 then 15 else 99
def ln0 (k : Nat) : Nat := if k < 60 then (ceL.getD k (99, 0)).2 else if k = 60 then 4 else 12
def rL : List (Nat × Nat × Nat) := [
  (0, 0, 1), (0, 1, 3), (0, 2, 5), (0, 3, 14), (0, 4, 29), (0, 5, 30), (0, 6, 32), (0, 7, 34), (0, 8, 36), (0, 9, 37), (1, 0, 2), (3, 0, 4),
  (5, 0, 6), (5, 1, 7), (5, 2, 8), (5, 3, 9), (5, 4, 10), (5, 5, 11), (5, 6, 12), (5, 7, 13), (14, 0, 15), (14, 1, 24), (15, 0, 16), (15, 1, 17),
  (15, 2, 18), (15, 3, 19), (15, 4, 20), (15, 5, 21), (15, 6, 22), (15, 7, 23), (24, 0, 25), (24, 1, 26), (24, 2, 27), (27, 0, 28), (30, 0, 31), (32, 0, 33),
  (34, 0, 35), (37, 0, 38), (37, 1, 39), (40, 0, 41), (40, 1, 42), (40, 2, 43), (40, 3, 44), (40, 4, 45), (40, 6, 46), (40, 7, 47), (40, 9, 48), (40, 12, 49),
  (40, 14, 50), (40, 22, 51), (40, 23, 52), (40, 24, 53), (40, 25, 54)]
def rt (k j : Nat) : Nat := (lk rL k j).getD 0
def ok_m1 (y : Nat) : Bool := cwB (wd (mD y).1) && isW (mD y).2.2.2.2.1 (if sta y then .static (nm y) else .instanceMethod (nm y)) && (sta y || isW (mD y).2.2.2.2.2.1 (.selects (cn (mc y)) (nm y) (nm y))) && isW (mD y).2.2.2.2.2.2 (.initialized (cn (mc y)))
def ok_m2 (y : Nat) : Bool := plainName (cn (mc y)) && decide ((nm y).cls = cn (mc y)) && decide (cn (mc y) ≠ "java/lang/invoke/MethodHandle") && decide (cn (mc y) ≠ "java/lang/invoke/VarHandle") && decide ((parseMethodDescriptor (nm y).desc).map (fun d => d.parameters.length) = some (np y)) && decide (nl y ≤ 40) && (sta y || decide (mc y < 13)) && decide (rty y = none ∨ rty y = some .int ∨ rty y = some .boolean ∨ rty y = some (.object "PalaceYard$Image"))
set_option maxRecDepth 100000 in
theorem ok_M1 : (List.range nM).all ok_m1 = true := by decide +kernel
set_option maxRecDepth 100000 in
theorem ok_M2 : (List.range nM).all ok_m2 = true := by decide +kernel
set_option maxRecDepth 100000 in
theorem ok_C : cI.all (fun q => isW q.2.2.2 (.methodLink (cn q.1) q.2.1 (nm q.2.2.1)) && decide (q.2.2.1 < nM)) = true := by decide +kernel
set_option maxRecDepth 100000 in
theorem ok_F : fI.all (fun q => isW q.2.2.2.2 (.fieldLink (cn q.1) q.2.1 (fT q.2.2.1 q.2.2.2.1).1 (fT q.2.2.1 q.2.2.2.1).2.1 (fT q.2.2.1 q.2.2.2.1).2.2.1) && decide (q.2.2.1 < 13) && decide (q.2.2.2.1 < nf q.2.2.1)) = true := by decide +kernel
set_option maxRecDepth 100000 in
theorem ok_K : kI.all (fun q => isW q.2.2.2 (.constant (cn q.1) q.2.1 q.2.2.1)) = true := by decide +kernel
set_option maxRecDepth 100000 in
theorem ok_J : kJ.all (fun q => isW q.2.2.2 (.constantLong (cn q.1) q.2.1 q.2.2.1)) = true := by decide +kernel
set_option maxRecDepth 100000 in
theorem ok_X : xI.all (fun q => isW q.2.2.2 (.methodLink (cn q.1) q.2.1 (xN q.2.2.1))) = true := by decide +kernel
set_option maxRecDepth 100000 in
theorem ok_Xmax : isW 476 (.code Lib.Math.max.name Lib.Math.max.code 2 (some .int)) = true ∧ isW 475 (.static Lib.Math.max.name) = true := by decide +kernel
set_option maxRecDepth 100000 in
theorem ok_Xmin : isW 473 (.code Lib.Math.min.name Lib.Math.min.code 2 (some .int)) = true ∧ isW 472 (.static Lib.Math.min.name) = true := by decide +kernel
set_option maxRecDepth 100000 in
theorem ok_Xabs : isW 723 (.code Lib.Math.abs.name Lib.Math.abs.code 1 (some .int)) = true ∧ isW 722 (.static Lib.Math.abs.name) = true := by decide +kernel
set_option maxRecDepth 100000 in
theorem ok_Xi : isW 16 (.initialized "java/lang/Math") = true := by decide +kernel
set_option maxRecDepth 100000 in
theorem ok_A : aI.all (fun q => isW q.2.2 (.methodLink (cn q.1) q.2.1 arraycopyName)) = true := by decide +kernel
set_option maxRecDepth 100000 in
theorem ok_A2 : isW 419 (.native arraycopyName) = true ∧ isW 418 (.static arraycopyName) = true ∧ isW 14 (.initialized "java/lang/System") = true := by decide +kernel
def lyL : List (List Nat) := [
  [291, 293, 295],
  [108, 110, 112, 114, 116, 118, 120, 122, 124, 126, 128, 130, 132, 134, 136],
  [161],
  [274, 276, 278],
  [255, 257, 259],
  [36, 38],
  [183, 185, 187, 189, 191, 193],
  [237, 239, 241],
  [53, 55, 57, 59],
  [200, 202],
  [218, 220, 222, 224],
  [310, 312, 314, 316, 318, 320, 322, 324, 326, 328, 330, 332],
  [872, 874, 876, 878, 880, 882, 884, 886, 888, 890, 892, 894, 896, 898, 900, 902, 904, 906, 908, 910, 912, 914, 916, 918, 920, 922, 924, 926, 928]]
set_option maxRecDepth 100000 in
theorem ok_L : (List.range 13).all (fun ci => (List.range (nf ci)).all (fun j => isW ((lyL.getD ci []).getD j 0) (u_lay (cn ci) (fT ci) j))) = true := by decide +kernel
set_option maxRecDepth 100000 in
theorem ok_T : (List.range 13).all (fun ci => (List.range (nf ci)).all (fun j => decide (parseFieldDescriptor (fT ci j).2.2.1 = some (fTy ci j)) && decide ((fT ci j).1 = cn ci) && (List.range (nf ci)).all (fun i => decide (i = j) || decide ((fT ci i).2.1 ≠ (fT ci j).2.1)) && decide ((fk ci j = 0 ∧ fTy ci j = .int ∧ (fT ci j).2.2.2 = false) ∨ (fk ci j = 1 ∧ fTy ci j = .boolean ∧ (fT ci j).2.2.2 = false) ∨ (fk ci j = 2 ∧ fTy ci j = .long ∧ (fT ci j).2.2.2 = false) ∨ fk ci j = 3))) = true := by decide +kernel
theorem ok_G : (List.range nC).all (fun k => decide (kd k < 15) && (decide (kd k < 13) || decide (ln0 k < 2000))) = true := by decide +kernel
