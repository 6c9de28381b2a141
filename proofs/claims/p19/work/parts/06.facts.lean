/-! the links, the methods and the fields are in the tables -/
def nt_wal (i : Nat) (w : Cond) : Bool := decide (lw_tbl[i]? = some w) && goodWord w
theorem nt_wal_in {i : Nat} {w : Cond} (h : nt_wal i w = true) : w ∈ nt_ws := by
  unfold nt_wal at h
  rw [Bool.and_eq_true, decide_eq_true_eq] at h
  exact List.mem_filter.mpr ⟨List.mem_of_getElem? h.1, h.2⟩
theorem nt_lk3_mem {t : List (Nat × Nat × Nat × Nat)} {own ix g : Nat} (h : nt_lk3 t own ix g = true) : ∃ q ∈ t, q.1 = own ∧ q.2.1 = ix ∧ q.2.2.1 = g := by
  unfold nt_lk3 at h
  obtain ⟨q, hq, h2⟩ := List.any_eq_true.mp h
  rw [Bool.and_eq_true, Bool.and_eq_true] at h2
  exact ⟨q, hq, Nat.eq_of_beq_eq_true h2.1.1, Nat.eq_of_beq_eq_true h2.1.2, Nat.eq_of_beq_eq_true h2.2⟩
def nt_yn (g : Nat) : MethodName :=
  if g = 1000 then objectInit else if g = 1001 then arraycopyName else if g = 1002 then Lib.Math.max.name else if g = 1003 then Lib.Math.min.name else
  if g = 1004 then ⟨"java/lang/String", "length", "()I"⟩ else if g = 1005 then ⟨"java/lang/String", "charAt", "(I)C"⟩ else (nt_m g).1
theorem nt_yn_m {g : Nat} (h : g < 1000) : nt_yn g = (nt_m g).1 := by
  unfold nt_yn
  rw [if_neg (by omega), if_neg (by omega), if_neg (by omega), if_neg (by omega), if_neg (by omega), if_neg (by omega)]
set_option maxRecDepth 100000 in
theorem nt_FL_ok : nt_FL.all (fun e => nt_wat e.2.2.2 (.fieldLink (nt_RN e.1) e.2.1 (nt_RN (e.2.2.1 / 100)) (nt_T (e.2.2.1 / 100) (e.2.2.1 % 100)).2.1 (nt_T (e.2.2.1 / 100) (e.2.2.1 % 100)).2.2.1)) = true := by decide +kernel
theorem nt_fl {own ix g : Nat} (h : nt_lk3 nt_FL own ix g = true) : Cond.fieldLink (nt_RN own) ix (nt_RN (g / 100)) (nt_T (g / 100) (g % 100)).2.1 (nt_T (g / 100) (g % 100)).2.2.1 ∈ nt_ws := by
  obtain ⟨q, hq, rfl, rfl, rfl⟩ := nt_lk3_mem h
  exact nt_wat_in (List.all_eq_true.mp nt_FL_ok q hq)
set_option maxRecDepth 100000 in
theorem nt_ML_ok : nt_ML.all (fun e => nt_wat e.2.2.2 (.methodLink (nt_RN e.1) e.2.1 (nt_yn e.2.2.1))) = true := by decide +kernel
theorem nt_ml {own ix g : Nat} (h : nt_lk3 nt_ML own ix g = true) : Cond.methodLink (nt_RN own) ix (nt_yn g) ∈ nt_ws := by
  obtain ⟨q, hq, rfl, rfl, rfl⟩ := nt_lk3_mem h
  exact nt_wat_in (List.all_eq_true.mp nt_ML_ok q hq)
set_option maxRecDepth 100000 in
theorem nt_CL_ok : nt_CL.all (fun e => nt_wat e.2.2.2 (.classLink (nt_RN e.1) e.2.1 (nt_RN e.2.2.1))) = true := by decide +kernel
theorem nt_cll {own ix g : Nat} (h : nt_lk3 nt_CL own ix g = true) : Cond.classLink (nt_RN own) ix (nt_RN g) ∈ nt_ws := by
  obtain ⟨q, hq, rfl, rfl, rfl⟩ := nt_lk3_mem h
  exact nt_wat_in (List.all_eq_true.mp nt_CL_ok q hq)
set_option maxRecDepth 100000 in
theorem nt_KL_ok : nt_KL.all (fun e => nt_wat e.2.2.2 (.constantLong (nt_RN e.1) e.2.1 e.2.2.1)) = true := by decide +kernel
set_option maxRecDepth 100000 in
theorem nt_KI_ok : nt_KI.all (fun e => nt_wat e.2.2.2 (.constant (nt_RN e.1) e.2.1 e.2.2.1)) = true := by decide +kernel
def nt_MP : List (Nat × Nat × Nat) := [(6, 100, 0), (6, 712, 825), (6, 716, 0), (6, 720, 0), (6, 729, 21), (6, 733, 22), (6, 740, 23), (6, 743, 0), (6, 752, 24), (6, 781, 0), (6, 784, 0), (8, 131, 0), (8, 800, 913), (8, 807, 920), (8, 811, 0), (8, 814, 927), (8, 819, 28), (8, 823, 29), (8, 828, 30), (8, 840, 953), (8, 844, 957), (8, 848, 0), (8, 863, 976), (8, 869, 31), (8, 904, 1017), (8, 912, 1025), (8, 917, 33), (3, 49, 0), (3, 378, 491), (3, 382, 495), (3, 398, 511), (3, 454, 567), (3, 466, 579), (3, 475, 588), (3, 479, 592), (3, 496, 609), (3, 500, 613), (3, 504, 617), (3, 509, 622), (3, 598, 711), (7, 106, 0), (7, 760, 873), (7, 765, 25), (7, 769, 26), (7, 772, 0), (7, 775, 888), (17, 626, 0), (5, 78, 0), (5, 521, 634), (5, 531, 8), (5, 535, 9), (5, 540, 10), (5, 543, 0), (5, 557, 11), (5, 562, 12), (5, 565, 0), (5, 571, 13), (5, 576, 14), (5, 581, 15), (5, 585, 16), (5, 591, 17), (5, 595, 18), (5, 606, 719), (9, 150, 0), (9, 513, 626), (9, 639, 752), (9, 643, 756), (9, 647, 760), (9, 651, 764), (9, 662, 775), (9, 671, 784), (9, 679, 792), (9, 687, 800), (9, 691, 804), (9, 696, 809), (9, 724, 837), (9, 877, 990), (9, 881, 994), (9, 887, 32), (9, 908, 1021), (9, 925, 1038), (9, 944, 1057), (9, 949, 34), (2, 32, 0), (2, 358, 471), (10, 156, 0), (10, 374, 487), (10, 655, 768), (10, 747, 860), (10, 756, 869), (10, 929, 1042), (4, 65, 0), (4, 370, 483), (4, 390, 0), (4, 394, 1), (4, 459, 2), (4, 463, 3), (4, 472, 4), (4, 485, 5), (4, 489, 6), (4, 493, 7), (1, 24, 0), (1, 354, 467), (1, 362, 475), (1, 366, 479), (1, 517, 630), (1, 635, 748), (1, 667, 780), (1, 675, 788), (1, 683, 796), (1, 700, 813), (1, 705, 19), (1, 709, 20), (1, 787, 900), (1, 792, 905), (1, 797, 27), (1, 831, 944), (1, 836, 949), (1, 859, 972), (1, 873, 986), (1, 890, 1003), (1, 894, 1007), (1, 900, 1013), (1, 921, 1034), (1, 936, 1049), (1, 940, 1053), (1, 957, 1070), (1, 961, 1074), (1, 965, 1078), (11, 971, 0), (11, 1069, 1182), (11, 1074, 35), (11, 1077, 1190), (11, 1081, 1194), (11, 1086, 36), (11, 1090, 37), (11, 1094, 38), (11, 1099, 39), (11, 1103, 40), (11, 1112, 41), (11, 1116, 42), (11, 1120, 43), (11, 1124, 44), (11, 1128, 45), (11, 1132, 46), (11, 1135, 0), (11, 1139, 47), (11, 1143, 48), (11, 1147, 49), (11, 1151, 50), (11, 1155, 51), (11, 1159, 52), (11, 1163, 53), (11, 1167, 54), (11, 1172, 55), (11, 1176, 56), (11, 1180, 57), (11, 1193, 58), (11, 1197, 59), (11, 1201, 60), (11, 1206, 61), (11, 1210, 62), (11, 1214, 63), (11, 1218, 64), (11, 1221, 0), (11, 1225, 65), (11, 1230, 1343), (11, 1234, 1347), (11, 1239, 66), (11, 1244, 67), (11, 1248, 68), (11, 1252, 69), (11, 1256, 70), (11, 1260, 71), (11, 1264, 72), (11, 1268, 73), (11, 1271, 1384), (11, 1276, 74), (11, 1280, 1393), (11, 1285, 75), (11, 1289, 76), (11, 1292, 1405), (11, 1297, 77), (11, 1301, 78), (11, 1305, 79), (11, 1309, 80), (11, 1312, 1425), (11, 1317, 81), (11, 1321, 82), (11, 1325, 83), (11, 1330, 84), (11, 1334, 85), (11, 1338, 86), (11, 1342, 87), (11, 1346, 88), (11, 1350, 89), (11, 1354, 90), (11, 1359, 91), (11, 1363, 92), (11, 1367, 93), (11, 1371, 94), (11, 1374, 0), (11, 1378, 95), (11, 1381, 1494), (11, 1385, 1498), (11, 1390, 96), (11, 1394, 97), (11, 1398, 98), (11, 1402, 99), (11, 1405, 0), (11, 1409, 100), (11, 1412, 1525), (11, 1416, 1529), (11, 1421, 101), (11, 1424, 0), (11, 1427, 1540), (11, 1432, 102), (11, 1435, 1548), (11, 1441, 103), (11, 1445, 104), (11, 1449, 105), (11, 1452, 1565), (11, 1456, 1569), (11, 1460, 1573), (11, 1465, 106), (11, 1469, 107), (11, 1472, 1585), (11, 1477, 108), (11, 1481, 109), (11, 1485, 110), (11, 1488, 1601), (11, 1492, 1605), (11, 1498, 111), (11, 1505, 1618), (11, 1509, 1622), (11, 1514, 1627), (20, 851, 0), (18, 612, 0), (18, 804, 0)]
theorem nt_tb1 {i : Nat} {w : Cond} (h0 : tables_1_1[i]? = some w) (hg : goodWord w = true) : w ∈ nt_ws := by
  have h : w ∈ tables_1_1 := List.mem_of_getElem? h0
  have h1 : w ∈ tables_1 := List.mem_append_left _ h
  exact List.mem_filter.mpr ⟨List.mem_append_right _ h1, hg⟩
theorem nt_tb2 {i : Nat} {w : Cond} (h0 : tables_1_2[i]? = some w) (hg : goodWord w = true) : w ∈ nt_ws := by
  have h : w ∈ tables_1_2 := List.mem_of_getElem? h0
  have h1 : w ∈ tables_1 := List.mem_append_right _ (List.mem_append_left _ h)
  exact List.mem_filter.mpr ⟨List.mem_append_right _ h1, hg⟩
theorem nt_tb3 {i : Nat} {w : Cond} (h0 : tables_1_3[i]? = some w) (hg : goodWord w = true) : w ∈ nt_ws := by
  have h : w ∈ tables_1_3 := List.mem_of_getElem? h0
  have h1 : w ∈ tables_1 := List.mem_append_right _ (List.mem_append_right _ (List.mem_append_left _ h))
  exact List.mem_filter.mpr ⟨List.mem_append_right _ h1, hg⟩
theorem nt_tb4 {i : Nat} {w : Cond} (h0 : tables_1_4[i]? = some w) (hg : goodWord w = true) : w ∈ nt_ws := by
  have h : w ∈ tables_1_4 := List.mem_of_getElem? h0
  have h1 : w ∈ tables_1 := List.mem_append_right _ (List.mem_append_right _ (List.mem_append_right _ (List.mem_append_left _ h)))
  exact List.mem_filter.mpr ⟨List.mem_append_right _ h1, hg⟩
theorem nt_tb5 {i : Nat} {w : Cond} (h0 : tables_1_5[i]? = some w) (hg : goodWord w = true) : w ∈ nt_ws := by
  have h : w ∈ tables_1_5 := List.mem_of_getElem? h0
  have h1 : w ∈ tables_1 := List.mem_append_right _ (List.mem_append_right _ (List.mem_append_right _ (List.mem_append_right _ (List.mem_append_left _ h))))
  exact List.mem_filter.mpr ⟨List.mem_append_right _ h1, hg⟩
theorem nt_tb6 {i : Nat} {w : Cond} (h0 : tables_1_6[i]? = some w) (hg : goodWord w = true) : w ∈ nt_ws := by
  have h : w ∈ tables_1_6 := List.mem_of_getElem? h0
  have h1 : w ∈ tables_1 := List.mem_append_right _ (List.mem_append_right _ (List.mem_append_right _ (List.mem_append_right _ (List.mem_append_right _ (List.mem_append_left _ h)))))
  exact List.mem_filter.mpr ⟨List.mem_append_right _ h1, hg⟩
theorem nt_tb7 {i : Nat} {w : Cond} (h0 : tables_1_7[i]? = some w) (hg : goodWord w = true) : w ∈ nt_ws := by
  have h : w ∈ tables_1_7 := List.mem_of_getElem? h0
  have h1 : w ∈ tables_1 := List.mem_append_right _ (List.mem_append_right _ (List.mem_append_right _ (List.mem_append_right _ (List.mem_append_right _ (List.mem_append_right _ (h))))))
  exact List.mem_filter.mpr ⟨List.mem_append_right _ h1, hg⟩
def nt_P (i : Nat) : Prop := Cond.code (nt_m i).1 (nt_m i).2.1 (nt_m i).2.2.1 (nt_m i).2.2.2.1 ∈ nt_ws
theorem nt_cons {P : Nat → Prop} {a n : Nat} (h0 : P a) (h : ∀ i, a + 1 ≤ i → i < n → P i) : ∀ i, a ≤ i → i < n → P i := fun i h1 h2 => by
  by_cases e : i = a
  · rw [e]; exact h0
  · exact h i (by omega) h2
theorem nt_nil {P : Nat → Prop} {a : Nat} : ∀ i, a ≤ i → i < a → P i := fun i h1 h2 => by omega
theorem nt_kc0 : nt_P 0 := nt_tb1 (i := 101) rfl rfl
theorem nt_kc1 : nt_P 1 := nt_tb3 (i := 234) rfl rfl
theorem nt_kc2 : nt_P 2 := nt_tb3 (i := 237) rfl rfl
theorem nt_kc3 : nt_P 3 := nt_tb4 (i := 1) rfl rfl
theorem nt_kc4 : nt_P 4 := nt_tb4 (i := 10) rfl rfl
theorem nt_kc5 : nt_P 5 := nt_tb4 (i := 14) rfl rfl
theorem nt_kc6 : nt_P 6 := nt_tb4 (i := 21) rfl rfl
theorem nt_kc7 : nt_P 7 := nt_tb4 (i := 24) rfl rfl
theorem nt_kc8 : nt_P 8 := nt_tb4 (i := 33) rfl rfl
theorem nt_kc9 : nt_P 9 := nt_tb4 (i := 62) rfl rfl
theorem nt_kc10 : nt_P 10 := nt_tb4 (i := 65) rfl rfl
theorem nt_kc11 : nt_P 11 := nt_tb1 (i := 132) rfl rfl
theorem nt_kc12 : nt_P 12 := nt_tb4 (i := 82) rfl rfl
theorem nt_kc13 : nt_P 13 := nt_tb4 (i := 89) rfl rfl
theorem nt_kc14 : nt_P 14 := nt_tb4 (i := 92) rfl rfl
theorem nt_kc15 : nt_P 15 := nt_tb4 (i := 96) rfl rfl
theorem nt_kc16 : nt_P 16 := nt_tb4 (i := 100) rfl rfl
theorem nt_kc17 : nt_P 17 := nt_tb4 (i := 104) rfl rfl
theorem nt_kc18 : nt_P 18 := nt_tb4 (i := 109) rfl rfl
theorem nt_kc19 : nt_P 19 := nt_tb4 (i := 122) rfl rfl
theorem nt_kc20 : nt_P 20 := nt_tb4 (i := 126) rfl rfl
theorem nt_kc21 : nt_P 21 := nt_tb4 (i := 129) rfl rfl
theorem nt_kc22 : nt_P 22 := nt_tb4 (i := 145) rfl rfl
theorem nt_kc23 : nt_P 23 := nt_tb4 (i := 150) rfl rfl
theorem nt_kc24 : nt_P 24 := nt_tb4 (i := 186) rfl rfl
theorem nt_kc25 : nt_P 25 := nt_tb4 (i := 194) rfl rfl
theorem nt_kc26 : nt_P 26 := nt_tb4 (i := 198) rfl rfl
theorem nt_kc27 : nt_P 27 := nt_tb1 (i := 50) rfl rfl
theorem nt_kc28 : nt_P 28 := nt_tb2 (i := 140) rfl rfl
theorem nt_kc29 : nt_P 29 := nt_tb2 (i := 144) rfl rfl
theorem nt_kc30 : nt_P 30 := nt_tb2 (i := 160) rfl rfl
theorem nt_kc31 : nt_P 31 := nt_tb2 (i := 216) rfl rfl
theorem nt_kc32 : nt_P 32 := nt_tb2 (i := 228) rfl rfl
theorem nt_kc33 : nt_P 33 := nt_tb2 (i := 237) rfl rfl
theorem nt_kc34 : nt_P 34 := nt_tb3 (i := 1) rfl rfl
theorem nt_kc35 : nt_P 35 := nt_tb3 (i := 18) rfl rfl
theorem nt_kc36 : nt_P 36 := nt_tb3 (i := 22) rfl rfl
theorem nt_kc37 : nt_P 37 := nt_tb3 (i := 26) rfl rfl
theorem nt_kc38 : nt_P 38 := nt_tb3 (i := 31) rfl rfl
theorem nt_kc39 : nt_P 39 := nt_tb3 (i := 120) rfl rfl
theorem nt_kc40 : nt_P 40 := nt_tb1 (i := 107) rfl rfl
theorem nt_kc41 : nt_P 41 := nt_tb4 (i := 42) rfl rfl
theorem nt_kc42 : nt_P 42 := nt_tb4 (i := 46) rfl rfl
theorem nt_kc43 : nt_P 43 := nt_tb4 (i := 50) rfl rfl
theorem nt_kc44 : nt_P 44 := nt_tb4 (i := 53) rfl rfl
theorem nt_kc45 : nt_P 45 := nt_tb4 (i := 57) rfl rfl
theorem nt_kc46 : nt_P 46 := nt_tb3 (i := 147) rfl rfl
theorem nt_kc47 : nt_P 47 := nt_tb1 (i := 79) rfl rfl
theorem nt_kc48 : nt_P 48 := nt_tb3 (i := 43) rfl rfl
theorem nt_kc49 : nt_P 49 := nt_tb3 (i := 52) rfl rfl
theorem nt_kc50 : nt_P 50 := nt_tb3 (i := 56) rfl rfl
theorem nt_kc51 : nt_P 51 := nt_tb3 (i := 61) rfl rfl
theorem nt_kc52 : nt_P 52 := nt_tb3 (i := 64) rfl rfl
theorem nt_kc53 : nt_P 53 := nt_tb3 (i := 78) rfl rfl
theorem nt_kc54 : nt_P 54 := nt_tb3 (i := 83) rfl rfl
theorem nt_kc55 : nt_P 55 := nt_tb3 (i := 86) rfl rfl
theorem nt_kc56 : nt_P 56 := nt_tb3 (i := 92) rfl rfl
theorem nt_kc57 : nt_P 57 := nt_tb3 (i := 97) rfl rfl
theorem nt_kc58 : nt_P 58 := nt_tb3 (i := 102) rfl rfl
theorem nt_kc59 : nt_P 59 := nt_tb3 (i := 106) rfl rfl
theorem nt_kc60 : nt_P 60 := nt_tb3 (i := 112) rfl rfl
theorem nt_kc61 : nt_P 61 := nt_tb3 (i := 116) rfl rfl
theorem nt_kc62 : nt_P 62 := nt_tb3 (i := 128) rfl rfl
theorem nt_kc63 : nt_P 63 := nt_tb1 (i := 151) rfl rfl
theorem nt_kc64 : nt_P 64 := nt_tb3 (i := 35) rfl rfl
theorem nt_kc65 : nt_P 65 := nt_tb3 (i := 161) rfl rfl
theorem nt_kc66 : nt_P 66 := nt_tb3 (i := 165) rfl rfl
theorem nt_kc67 : nt_P 67 := nt_tb3 (i := 169) rfl rfl
theorem nt_kc68 : nt_P 68 := nt_tb3 (i := 173) rfl rfl
theorem nt_kc69 : nt_P 69 := nt_tb3 (i := 184) rfl rfl
theorem nt_kc70 : nt_P 70 := nt_tb3 (i := 193) rfl rfl
theorem nt_kc71 : nt_P 71 := nt_tb3 (i := 201) rfl rfl
theorem nt_kc72 : nt_P 72 := nt_tb3 (i := 209) rfl rfl
theorem nt_kc73 : nt_P 73 := nt_tb3 (i := 213) rfl rfl
theorem nt_kc74 : nt_P 74 := nt_tb3 (i := 218) rfl rfl
theorem nt_kc75 : nt_P 75 := nt_tb4 (i := 6) rfl rfl
theorem nt_kc76 : nt_P 76 := nt_tb4 (i := 159) rfl rfl
theorem nt_kc77 : nt_P 77 := nt_tb4 (i := 163) rfl rfl
theorem nt_kc78 : nt_P 78 := nt_tb4 (i := 168) rfl rfl
theorem nt_kc79 : nt_P 79 := nt_tb4 (i := 190) rfl rfl
theorem nt_kc80 : nt_P 80 := nt_tb4 (i := 207) rfl rfl
theorem nt_kc81 : nt_P 81 := nt_tb4 (i := 226) rfl rfl
theorem nt_kc82 : nt_P 82 := nt_tb4 (i := 230) rfl rfl
theorem nt_kc83 : nt_P 83 := nt_tb1 (i := 33) rfl rfl
theorem nt_kc84 : nt_P 84 := nt_tb2 (i := 120) rfl rfl
theorem nt_kc85 : nt_P 85 := nt_tb1 (i := 157) rfl rfl
theorem nt_kc86 : nt_P 86 := nt_tb2 (i := 136) rfl rfl
theorem nt_kc87 : nt_P 87 := nt_tb3 (i := 177) rfl rfl
theorem nt_kc88 : nt_P 88 := nt_tb4 (i := 29) rfl rfl
theorem nt_kc89 : nt_P 89 := nt_tb4 (i := 38) rfl rfl
theorem nt_kc90 : nt_P 90 := nt_tb4 (i := 211) rfl rfl
theorem nt_kc91 : nt_P 91 := nt_tb1 (i := 66) rfl rfl
theorem nt_kc92 : nt_P 92 := nt_tb2 (i := 132) rfl rfl
theorem nt_kc93 : nt_P 93 := nt_tb2 (i := 151) rfl rfl
theorem nt_kc94 : nt_P 94 := nt_tb2 (i := 155) rfl rfl
theorem nt_kc95 : nt_P 95 := nt_tb2 (i := 220) rfl rfl
theorem nt_kc96 : nt_P 96 := nt_tb2 (i := 224) rfl rfl
theorem nt_kc97 : nt_P 97 := nt_tb2 (i := 233) rfl rfl
theorem nt_kc98 : nt_P 98 := nt_tb3 (i := 6) rfl rfl
theorem nt_kc99 : nt_P 99 := nt_tb3 (i := 10) rfl rfl
theorem nt_kc100 : nt_P 100 := nt_tb3 (i := 14) rfl rfl
theorem nt_kc101 : nt_P 101 := nt_tb1 (i := 25) rfl rfl
theorem nt_kc102 : nt_P 102 := nt_tb2 (i := 116) rfl rfl
theorem nt_kc103 : nt_P 103 := nt_tb2 (i := 124) rfl rfl
theorem nt_kc104 : nt_P 104 := nt_tb2 (i := 128) rfl rfl
theorem nt_kc105 : nt_P 105 := nt_tb3 (i := 39) rfl rfl
theorem nt_kc106 : nt_P 106 := nt_tb3 (i := 157) rfl rfl
theorem nt_kc107 : nt_P 107 := nt_tb3 (i := 189) rfl rfl
theorem nt_kc108 : nt_P 108 := nt_tb3 (i := 197) rfl rfl
theorem nt_kc109 : nt_P 109 := nt_tb3 (i := 205) rfl rfl
theorem nt_kc110 : nt_P 110 := nt_tb3 (i := 222) rfl rfl
theorem nt_kc111 : nt_P 111 := nt_tb3 (i := 226) rfl rfl
theorem nt_kc112 : nt_P 112 := nt_tb3 (i := 230) rfl rfl
theorem nt_kc113 : nt_P 113 := nt_tb4 (i := 69) rfl rfl
theorem nt_kc114 : nt_P 114 := nt_tb4 (i := 74) rfl rfl
theorem nt_kc115 : nt_P 115 := nt_tb4 (i := 78) rfl rfl
theorem nt_kc116 : nt_P 116 := nt_tb4 (i := 113) rfl rfl
theorem nt_kc117 : nt_P 117 := nt_tb4 (i := 118) rfl rfl
theorem nt_kc118 : nt_P 118 := nt_tb4 (i := 141) rfl rfl
theorem nt_kc119 : nt_P 119 := nt_tb4 (i := 155) rfl rfl
theorem nt_kc120 : nt_P 120 := nt_tb4 (i := 172) rfl rfl
theorem nt_kc121 : nt_P 121 := nt_tb4 (i := 176) rfl rfl
theorem nt_kc122 : nt_P 122 := nt_tb4 (i := 182) rfl rfl
theorem nt_kc123 : nt_P 123 := nt_tb4 (i := 203) rfl rfl
theorem nt_kc124 : nt_P 124 := nt_tb4 (i := 218) rfl rfl
theorem nt_kc125 : nt_P 125 := nt_tb4 (i := 222) rfl rfl
theorem nt_kc126 : nt_P 126 := nt_tb4 (i := 239) rfl rfl
theorem nt_kc127 : nt_P 127 := nt_tb5 (i := 3) rfl rfl
theorem nt_kc128 : nt_P 128 := nt_tb5 (i := 7) rfl rfl
theorem nt_kc129 : nt_P 129 := nt_tb5 (i := 12) rfl rfl
theorem nt_kc130 : nt_P 130 := nt_tb5 (i := 111) rfl rfl
theorem nt_kc131 : nt_P 131 := nt_tb5 (i := 115) rfl rfl
theorem nt_kc132 : nt_P 132 := nt_tb5 (i := 119) rfl rfl
theorem nt_kc133 : nt_P 133 := nt_tb5 (i := 123) rfl rfl
theorem nt_kc134 : nt_P 134 := nt_tb5 (i := 127) rfl rfl
theorem nt_kc135 : nt_P 135 := nt_tb5 (i := 131) rfl rfl
theorem nt_kc136 : nt_P 136 := nt_tb5 (i := 135) rfl rfl
theorem nt_kc137 : nt_P 137 := nt_tb5 (i := 140) rfl rfl
theorem nt_kc138 : nt_P 138 := nt_tb5 (i := 144) rfl rfl
theorem nt_kc139 : nt_P 139 := nt_tb5 (i := 153) rfl rfl
theorem nt_kc140 : nt_P 140 := nt_tb5 (i := 157) rfl rfl
theorem nt_kc141 : nt_P 141 := nt_tb5 (i := 161) rfl rfl
theorem nt_kc142 : nt_P 142 := nt_tb5 (i := 165) rfl rfl
theorem nt_kc143 : nt_P 143 := nt_tb5 (i := 169) rfl rfl
theorem nt_kc144 : nt_P 144 := nt_tb5 (i := 173) rfl rfl
theorem nt_kc145 : nt_P 145 := nt_tb5 (i := 176) rfl rfl
theorem nt_kc146 : nt_P 146 := nt_tb5 (i := 180) rfl rfl
theorem nt_kc147 : nt_P 147 := nt_tb5 (i := 184) rfl rfl
theorem nt_kc148 : nt_P 148 := nt_tb5 (i := 188) rfl rfl
theorem nt_kc149 : nt_P 149 := nt_tb5 (i := 192) rfl rfl
theorem nt_kc150 : nt_P 150 := nt_tb5 (i := 196) rfl rfl
theorem nt_kc151 : nt_P 151 := nt_tb5 (i := 200) rfl rfl
theorem nt_kc152 : nt_P 152 := nt_tb5 (i := 204) rfl rfl
theorem nt_kc153 : nt_P 153 := nt_tb5 (i := 208) rfl rfl
theorem nt_kc154 : nt_P 154 := nt_tb5 (i := 213) rfl rfl
theorem nt_kc155 : nt_P 155 := nt_tb5 (i := 217) rfl rfl
theorem nt_kc156 : nt_P 156 := nt_tb5 (i := 221) rfl rfl
theorem nt_kc157 : nt_P 157 := nt_tb5 (i := 234) rfl rfl
theorem nt_kc158 : nt_P 158 := nt_tb5 (i := 238) rfl rfl
theorem nt_kc159 : nt_P 159 := nt_tb6 (i := 2) rfl rfl
theorem nt_kc160 : nt_P 160 := nt_tb6 (i := 7) rfl rfl
theorem nt_kc161 : nt_P 161 := nt_tb6 (i := 11) rfl rfl
theorem nt_kc162 : nt_P 162 := nt_tb6 (i := 15) rfl rfl
theorem nt_kc163 : nt_P 163 := nt_tb6 (i := 19) rfl rfl
theorem nt_kc164 : nt_P 164 := nt_tb6 (i := 22) rfl rfl
theorem nt_kc165 : nt_P 165 := nt_tb6 (i := 26) rfl rfl
theorem nt_kc166 : nt_P 166 := nt_tb6 (i := 32) rfl rfl
theorem nt_kc167 : nt_P 167 := nt_tb6 (i := 36) rfl rfl
theorem nt_kc168 : nt_P 168 := nt_tb6 (i := 40) rfl rfl
theorem nt_kc169 : nt_P 169 := nt_tb6 (i := 45) rfl rfl
theorem nt_kc170 : nt_P 170 := nt_tb6 (i := 49) rfl rfl
theorem nt_kc171 : nt_P 171 := nt_tb6 (i := 53) rfl rfl
theorem nt_kc172 : nt_P 172 := nt_tb6 (i := 57) rfl rfl
theorem nt_kc173 : nt_P 173 := nt_tb6 (i := 61) rfl rfl
theorem nt_kc174 : nt_P 174 := nt_tb6 (i := 65) rfl rfl
theorem nt_kc175 : nt_P 175 := nt_tb6 (i := 69) rfl rfl
theorem nt_kc176 : nt_P 176 := nt_tb6 (i := 73) rfl rfl
theorem nt_kc177 : nt_P 177 := nt_tb6 (i := 77) rfl rfl
theorem nt_kc178 : nt_P 178 := nt_tb6 (i := 82) rfl rfl
theorem nt_kc179 : nt_P 179 := nt_tb6 (i := 86) rfl rfl
theorem nt_kc180 : nt_P 180 := nt_tb6 (i := 90) rfl rfl
theorem nt_kc181 : nt_P 181 := nt_tb6 (i := 94) rfl rfl
theorem nt_kc182 : nt_P 182 := nt_tb6 (i := 98) rfl rfl
theorem nt_kc183 : nt_P 183 := nt_tb6 (i := 102) rfl rfl
theorem nt_kc184 : nt_P 184 := nt_tb6 (i := 106) rfl rfl
theorem nt_kc185 : nt_P 185 := nt_tb6 (i := 110) rfl rfl
theorem nt_kc186 : nt_P 186 := nt_tb6 (i := 114) rfl rfl
theorem nt_kc187 : nt_P 187 := nt_tb6 (i := 118) rfl rfl
theorem nt_kc188 : nt_P 188 := nt_tb6 (i := 122) rfl rfl
theorem nt_kc189 : nt_P 189 := nt_tb6 (i := 126) rfl rfl
theorem nt_kc190 : nt_P 190 := nt_tb6 (i := 131) rfl rfl
theorem nt_kc191 : nt_P 191 := nt_tb6 (i := 135) rfl rfl
theorem nt_kc192 : nt_P 192 := nt_tb6 (i := 139) rfl rfl
theorem nt_kc193 : nt_P 193 := nt_tb6 (i := 143) rfl rfl
theorem nt_kc194 : nt_P 194 := nt_tb6 (i := 147) rfl rfl
theorem nt_kc195 : nt_P 195 := nt_tb6 (i := 151) rfl rfl
theorem nt_kc196 : nt_P 196 := nt_tb6 (i := 155) rfl rfl
theorem nt_kc197 : nt_P 197 := nt_tb6 (i := 160) rfl rfl
theorem nt_kc198 : nt_P 198 := nt_tb6 (i := 164) rfl rfl
theorem nt_kc199 : nt_P 199 := nt_tb6 (i := 168) rfl rfl
theorem nt_kc200 : nt_P 200 := nt_tb6 (i := 172) rfl rfl
theorem nt_kc201 : nt_P 201 := nt_tb6 (i := 175) rfl rfl
theorem nt_kc202 : nt_P 202 := nt_tb6 (i := 179) rfl rfl
theorem nt_kc203 : nt_P 203 := nt_tb6 (i := 183) rfl rfl
theorem nt_kc204 : nt_P 204 := nt_tb6 (i := 187) rfl rfl
theorem nt_kc205 : nt_P 205 := nt_tb6 (i := 191) rfl rfl
theorem nt_kc206 : nt_P 206 := nt_tb6 (i := 195) rfl rfl
theorem nt_kc207 : nt_P 207 := nt_tb6 (i := 199) rfl rfl
theorem nt_kc208 : nt_P 208 := nt_tb6 (i := 203) rfl rfl
theorem nt_kc209 : nt_P 209 := nt_tb6 (i := 206) rfl rfl
theorem nt_kc210 : nt_P 210 := nt_tb6 (i := 210) rfl rfl
theorem nt_kc211 : nt_P 211 := nt_tb6 (i := 214) rfl rfl
theorem nt_kc212 : nt_P 212 := nt_tb6 (i := 218) rfl rfl
theorem nt_kc213 : nt_P 213 := nt_tb6 (i := 222) rfl rfl
theorem nt_kc214 : nt_P 214 := nt_tb6 (i := 225) rfl rfl
theorem nt_kc215 : nt_P 215 := nt_tb6 (i := 229) rfl rfl
theorem nt_kc216 : nt_P 216 := nt_tb6 (i := 233) rfl rfl
theorem nt_kc217 : nt_P 217 := nt_tb6 (i := 237) rfl rfl
theorem nt_kc218 : nt_P 218 := nt_tb7 (i := 2) rfl rfl
theorem nt_kc219 : nt_P 219 := nt_tb7 (i := 6) rfl rfl
theorem nt_kc220 : nt_P 220 := nt_tb7 (i := 10) rfl rfl
theorem nt_kc221 : nt_P 221 := nt_tb7 (i := 14) rfl rfl
theorem nt_kc222 : nt_P 222 := nt_tb7 (i := 18) rfl rfl
theorem nt_kc223 : nt_P 223 := nt_tb7 (i := 22) rfl rfl
theorem nt_kc224 : nt_P 224 := nt_tb7 (i := 26) rfl rfl
theorem nt_kc225 : nt_P 225 := nt_tb7 (i := 30) rfl rfl
theorem nt_kc226 : nt_P 226 := nt_tb7 (i := 34) rfl rfl
theorem nt_kc227 : nt_P 227 := nt_tb7 (i := 38) rfl rfl
theorem nt_kc228 : nt_P 228 := nt_tb7 (i := 42) rfl rfl
theorem nt_kc229 : nt_P 229 := nt_tb7 (i := 46) rfl rfl
theorem nt_kc230 : nt_P 230 := nt_tb7 (i := 50) rfl rfl
theorem nt_kc231 : nt_P 231 := nt_tb7 (i := 54) rfl rfl
theorem nt_kc232 : nt_P 232 := nt_tb7 (i := 59) rfl rfl
theorem nt_kc233 : nt_P 233 := nt_tb7 (i := 67) rfl rfl
theorem nt_kc234 : nt_P 234 := nt_tb7 (i := 71) rfl rfl
theorem nt_kc235 : nt_P 235 := nt_tb7 (i := 76) rfl rfl
theorem nt_kc236 : nt_P 236 := nt_tb4 (i := 132) rfl rfl
theorem nt_kc237 : nt_P 237 := nt_tb3 (i := 133) rfl rfl
theorem nt_kc238 : nt_P 238 := nt_tb4 (i := 85) rfl rfl
theorem nt_kd0 : ∀ i, 0 ≤ i → i < 30 → nt_P i := nt_cons nt_kc0 (nt_cons nt_kc1 (nt_cons nt_kc2 (nt_cons nt_kc3 (nt_cons nt_kc4 (nt_cons nt_kc5 (nt_cons nt_kc6 (nt_cons nt_kc7 (nt_cons nt_kc8 (nt_cons nt_kc9 (nt_cons nt_kc10 (nt_cons nt_kc11 (nt_cons nt_kc12 (nt_cons nt_kc13 (nt_cons nt_kc14 (nt_cons nt_kc15 (nt_cons nt_kc16 (nt_cons nt_kc17 (nt_cons nt_kc18 (nt_cons nt_kc19 (nt_cons nt_kc20 (nt_cons nt_kc21 (nt_cons nt_kc22 (nt_cons nt_kc23 (nt_cons nt_kc24 (nt_cons nt_kc25 (nt_cons nt_kc26 (nt_cons nt_kc27 (nt_cons nt_kc28 (nt_cons nt_kc29 (nt_nil))))))))))))))))))))))))))))))
theorem nt_kd30 : ∀ i, 30 ≤ i → i < 60 → nt_P i := nt_cons nt_kc30 (nt_cons nt_kc31 (nt_cons nt_kc32 (nt_cons nt_kc33 (nt_cons nt_kc34 (nt_cons nt_kc35 (nt_cons nt_kc36 (nt_cons nt_kc37 (nt_cons nt_kc38 (nt_cons nt_kc39 (nt_cons nt_kc40 (nt_cons nt_kc41 (nt_cons nt_kc42 (nt_cons nt_kc43 (nt_cons nt_kc44 (nt_cons nt_kc45 (nt_cons nt_kc46 (nt_cons nt_kc47 (nt_cons nt_kc48 (nt_cons nt_kc49 (nt_cons nt_kc50 (nt_cons nt_kc51 (nt_cons nt_kc52 (nt_cons nt_kc53 (nt_cons nt_kc54 (nt_cons nt_kc55 (nt_cons nt_kc56 (nt_cons nt_kc57 (nt_cons nt_kc58 (nt_cons nt_kc59 (nt_nil))))))))))))))))))))))))))))))
theorem nt_kd60 : ∀ i, 60 ≤ i → i < 90 → nt_P i := nt_cons nt_kc60 (nt_cons nt_kc61 (nt_cons nt_kc62 (nt_cons nt_kc63 (nt_cons nt_kc64 (nt_cons nt_kc65 (nt_cons nt_kc66 (nt_cons nt_kc67 (nt_cons nt_kc68 (nt_cons nt_kc69 (nt_cons nt_kc70 (nt_cons nt_kc71 (nt_cons nt_kc72 (nt_cons nt_kc73 (nt_cons nt_kc74 (nt_cons nt_kc75 (nt_cons nt_kc76 (nt_cons nt_kc77 (nt_cons nt_kc78 (nt_cons nt_kc79 (nt_cons nt_kc80 (nt_cons nt_kc81 (nt_cons nt_kc82 (nt_cons nt_kc83 (nt_cons nt_kc84 (nt_cons nt_kc85 (nt_cons nt_kc86 (nt_cons nt_kc87 (nt_cons nt_kc88 (nt_cons nt_kc89 (nt_nil))))))))))))))))))))))))))))))
theorem nt_kd90 : ∀ i, 90 ≤ i → i < 120 → nt_P i := nt_cons nt_kc90 (nt_cons nt_kc91 (nt_cons nt_kc92 (nt_cons nt_kc93 (nt_cons nt_kc94 (nt_cons nt_kc95 (nt_cons nt_kc96 (nt_cons nt_kc97 (nt_cons nt_kc98 (nt_cons nt_kc99 (nt_cons nt_kc100 (nt_cons nt_kc101 (nt_cons nt_kc102 (nt_cons nt_kc103 (nt_cons nt_kc104 (nt_cons nt_kc105 (nt_cons nt_kc106 (nt_cons nt_kc107 (nt_cons nt_kc108 (nt_cons nt_kc109 (nt_cons nt_kc110 (nt_cons nt_kc111 (nt_cons nt_kc112 (nt_cons nt_kc113 (nt_cons nt_kc114 (nt_cons nt_kc115 (nt_cons nt_kc116 (nt_cons nt_kc117 (nt_cons nt_kc118 (nt_cons nt_kc119 (nt_nil))))))))))))))))))))))))))))))
theorem nt_kd120 : ∀ i, 120 ≤ i → i < 150 → nt_P i := nt_cons nt_kc120 (nt_cons nt_kc121 (nt_cons nt_kc122 (nt_cons nt_kc123 (nt_cons nt_kc124 (nt_cons nt_kc125 (nt_cons nt_kc126 (nt_cons nt_kc127 (nt_cons nt_kc128 (nt_cons nt_kc129 (nt_cons nt_kc130 (nt_cons nt_kc131 (nt_cons nt_kc132 (nt_cons nt_kc133 (nt_cons nt_kc134 (nt_cons nt_kc135 (nt_cons nt_kc136 (nt_cons nt_kc137 (nt_cons nt_kc138 (nt_cons nt_kc139 (nt_cons nt_kc140 (nt_cons nt_kc141 (nt_cons nt_kc142 (nt_cons nt_kc143 (nt_cons nt_kc144 (nt_cons nt_kc145 (nt_cons nt_kc146 (nt_cons nt_kc147 (nt_cons nt_kc148 (nt_cons nt_kc149 (nt_nil))))))))))))))))))))))))))))))
theorem nt_kd150 : ∀ i, 150 ≤ i → i < 180 → nt_P i := nt_cons nt_kc150 (nt_cons nt_kc151 (nt_cons nt_kc152 (nt_cons nt_kc153 (nt_cons nt_kc154 (nt_cons nt_kc155 (nt_cons nt_kc156 (nt_cons nt_kc157 (nt_cons nt_kc158 (nt_cons nt_kc159 (nt_cons nt_kc160 (nt_cons nt_kc161 (nt_cons nt_kc162 (nt_cons nt_kc163 (nt_cons nt_kc164 (nt_cons nt_kc165 (nt_cons nt_kc166 (nt_cons nt_kc167 (nt_cons nt_kc168 (nt_cons nt_kc169 (nt_cons nt_kc170 (nt_cons nt_kc171 (nt_cons nt_kc172 (nt_cons nt_kc173 (nt_cons nt_kc174 (nt_cons nt_kc175 (nt_cons nt_kc176 (nt_cons nt_kc177 (nt_cons nt_kc178 (nt_cons nt_kc179 (nt_nil))))))))))))))))))))))))))))))
theorem nt_kd180 : ∀ i, 180 ≤ i → i < 210 → nt_P i := nt_cons nt_kc180 (nt_cons nt_kc181 (nt_cons nt_kc182 (nt_cons nt_kc183 (nt_cons nt_kc184 (nt_cons nt_kc185 (nt_cons nt_kc186 (nt_cons nt_kc187 (nt_cons nt_kc188 (nt_cons nt_kc189 (nt_cons nt_kc190 (nt_cons nt_kc191 (nt_cons nt_kc192 (nt_cons nt_kc193 (nt_cons nt_kc194 (nt_cons nt_kc195 (nt_cons nt_kc196 (nt_cons nt_kc197 (nt_cons nt_kc198 (nt_cons nt_kc199 (nt_cons nt_kc200 (nt_cons nt_kc201 (nt_cons nt_kc202 (nt_cons nt_kc203 (nt_cons nt_kc204 (nt_cons nt_kc205 (nt_cons nt_kc206 (nt_cons nt_kc207 (nt_cons nt_kc208 (nt_cons nt_kc209 (nt_nil))))))))))))))))))))))))))))))
theorem nt_kd210 : ∀ i, 210 ≤ i → i < 239 → nt_P i := nt_cons nt_kc210 (nt_cons nt_kc211 (nt_cons nt_kc212 (nt_cons nt_kc213 (nt_cons nt_kc214 (nt_cons nt_kc215 (nt_cons nt_kc216 (nt_cons nt_kc217 (nt_cons nt_kc218 (nt_cons nt_kc219 (nt_cons nt_kc220 (nt_cons nt_kc221 (nt_cons nt_kc222 (nt_cons nt_kc223 (nt_cons nt_kc224 (nt_cons nt_kc225 (nt_cons nt_kc226 (nt_cons nt_kc227 (nt_cons nt_kc228 (nt_cons nt_kc229 (nt_cons nt_kc230 (nt_cons nt_kc231 (nt_cons nt_kc232 (nt_cons nt_kc233 (nt_cons nt_kc234 (nt_cons nt_kc235 (nt_cons nt_kc236 (nt_cons nt_kc237 (nt_cons nt_kc238 (nt_nil)))))))))))))))))))))))))))))
theorem nt_cd {i : Nat} (hi : i < 239) : nt_P i := by
  by_cases h0 : i < 30
  · exact nt_kd0 i (by omega) h0
  by_cases h30 : i < 60
  · exact nt_kd30 i (by omega) h30
  by_cases h60 : i < 90
  · exact nt_kd60 i (by omega) h60
  by_cases h90 : i < 120
  · exact nt_kd90 i (by omega) h90
  by_cases h120 : i < 150
  · exact nt_kd120 i (by omega) h120
  by_cases h150 : i < 180
  · exact nt_kd150 i (by omega) h150
  by_cases h180 : i < 210
  · exact nt_kd180 i (by omega) h180
  by_cases h210 : i < 239
  · exact nt_kd210 i (by omega) h210
  omega
def nt_mck (i : Nat) (y : MethodName) (b : ByteArray) (ml : Nat) (r : Option FieldType) (own np kd cp : Nat) : Bool :=
  let q := nt_MP.getD i (0, 0, 0)
  (nt_wat q.1 (.initialized y.cls) && ((if kd = 0 then nt_wat q.2.1 (.static y) else nt_wat q.2.1 (.instanceMethod y)) && ((if kd = 1 then nt_wal q.2.2 (.selects (nt_RN own) y y) else true) && (decide (y.cls = nt_RN own) && (decide (y.cls ≠ "java/lang/invoke/MethodHandle") && (decide (y.cls ≠ "java/lang/invoke/VarHandle") && (decide ((parseMethodDescriptor y.desc).map (fun d => d.parameters.length) = some np) && (decide (ml ≤ 40) && (plainName y.cls && (if kd = 2 then decide (y.name = "<init>") && decide (r = none) else true))))))))))
def nt_mck2 (i : Nat) : Bool := nt_mck i (nt_m i).1 (nt_m i).2.1 (nt_m i).2.2.1 (nt_m i).2.2.2.1 (nt_m i).2.2.2.2.1 (nt_m i).2.2.2.2.2.1 (nt_m i).2.2.2.2.2.2.1 (nt_m i).2.2.2.2.2.2.2
set_option maxRecDepth 100000 in
theorem nt_mc0 : ((List.range' 0 30).all nt_mck2) = true := by decide +kernel
set_option maxRecDepth 100000 in
theorem nt_mc30 : ((List.range' 30 30).all nt_mck2) = true := by decide +kernel
set_option maxRecDepth 100000 in
theorem nt_mc60 : ((List.range' 60 30).all nt_mck2) = true := by decide +kernel
set_option maxRecDepth 100000 in
theorem nt_mc90 : ((List.range' 90 30).all nt_mck2) = true := by decide +kernel
set_option maxRecDepth 100000 in
theorem nt_mc120 : ((List.range' 120 30).all nt_mck2) = true := by decide +kernel
set_option maxRecDepth 100000 in
theorem nt_mc150 : ((List.range' 150 30).all nt_mck2) = true := by decide +kernel
set_option maxRecDepth 100000 in
theorem nt_mc180 : ((List.range' 180 30).all nt_mck2) = true := by decide +kernel
set_option maxRecDepth 100000 in
theorem nt_mc210 : ((List.range' 210 29).all nt_mck2) = true := by decide +kernel
theorem nt_mck_ok {i : Nat} (hi : i < 239) : nt_mck2 i = true := by
  by_cases h0 : i < 30
  · exact nt_rg nt_mc0 (by omega) (by omega)
  by_cases h30 : i < 60
  · exact nt_rg nt_mc30 (by omega) (by omega)
  by_cases h60 : i < 90
  · exact nt_rg nt_mc60 (by omega) (by omega)
  by_cases h90 : i < 120
  · exact nt_rg nt_mc90 (by omega) (by omega)
  by_cases h120 : i < 150
  · exact nt_rg nt_mc120 (by omega) (by omega)
  by_cases h150 : i < 180
  · exact nt_rg nt_mc150 (by omega) (by omega)
  by_cases h180 : i < 210
  · exact nt_rg nt_mc180 (by omega) (by omega)
  by_cases h210 : i < 239
  · exact nt_rg nt_mc210 (by omega) (by omega)
  omega
theorem nt_mf {i : Nat} (hi : i < 239) : Cond.code (nt_m i).1 (nt_m i).2.1 (nt_m i).2.2.1 (nt_m i).2.2.2.1 ∈ nt_ws ∧ Cond.initialized (nt_m i).1.cls ∈ nt_ws ∧ ((nt_m i).2.2.2.2.2.2.1 = 0 → Cond.static (nt_m i).1 ∈ nt_ws) ∧ (¬ (nt_m i).2.2.2.2.2.2.1 = 0 → Cond.instanceMethod (nt_m i).1 ∈ nt_ws) ∧ ((nt_m i).2.2.2.2.2.2.1 = 1 → Cond.selects (nt_RN (nt_m i).2.2.2.2.1) (nt_m i).1 (nt_m i).1 ∈ nt_ws) ∧ (nt_m i).1.cls = nt_RN (nt_m i).2.2.2.2.1 ∧ ((nt_m i).1.cls ≠ "java/lang/invoke/MethodHandle" ∧ (nt_m i).1.cls ≠ "java/lang/invoke/VarHandle" ∧ (parseMethodDescriptor (nt_m i).1.desc).map (fun d => d.parameters.length) = some (nt_m i).2.2.2.2.2.1) ∧ (nt_m i).2.2.1 ≤ 40 ∧ plainName (nt_m i).1.cls = true ∧ ((nt_m i).2.2.2.2.2.2.1 = 2 → (nt_m i).1.name = "<init>" ∧ (nt_m i).2.2.2.1 = none) := by
  have h := nt_mck_ok hi
  unfold nt_mck2 nt_mck at h
  simp only [Bool.and_eq_true, decide_eq_true_eq] at h
  obtain ⟨h2, h3, h4, h5, h6, h7, h8, h9, h10, h11⟩ := h
  refine ⟨nt_cd hi, nt_wat_in h2, fun e => ?_, fun e => ?_, fun e => ?_, h5, ⟨h6, h7, h8⟩, h9, h10, fun e => ?_⟩
  · rw [if_pos e] at h3; exact nt_wat_in h3
  · rw [if_neg e] at h3; exact nt_wat_in h3
  · rw [if_pos e] at h4; exact nt_wal_in h4
  · rw [if_pos e] at h11
    simp only [Bool.and_eq_true, decide_eq_true_eq] at h11
    exact h11
def nt_CP : List (List Nat × Nat × Nat) := [([125], 98, 6), ([138, 140, 142, 144], 129, 8), ([55, 57, 59], 47, 3), ([114, 116, 118, 120], 104, 7), ([631], 610, 17), ([85, 87, 89, 91], 76, 5), ([291, 293, 295, 297, 299, 301, 303, 305, 307, 309, 311, 313, 315, 317], 148, 9), ([40, 42], 30, 2), ([222, 224, 226, 228, 230, 232, 234, 236, 238, 240, 242, 244, 246], 154, 10), ([70, 72], 63, 4), ([332, 334, 336, 338, 340, 342, 344, 346, 348, 350], 22, 1), ([1005, 1007, 1009, 1011, 1013, 1015, 1017, 1019, 1021, 1023, 1025, 1027, 1029, 1031, 1033, 1035, 1037, 1039, 1041, 1043, 1045, 1047, 1049, 1051, 1053, 1055, 1057, 1059, 1061, 1063, 1065], 969, 11)]
def nt_isR : FieldType → Bool
  | .object _ => true
  | .array _ => true
  | _ => false
def nt_tgok (g : Nat) (t : FieldType) : Bool := match g with
  | 0 => decide (t = .int)
  | 1 => decide (t = .long)
  | 2 => nt_isR t
  | 3 => decide (t = .boolean)
  | _ => false
def nt_cck (c : Nat) : Bool :=
  let q := nt_CP.getD c ([], 0, 0)
  (List.range (nt_N c)).all (fun k => nt_wat (q.1.getD k 0) (u_lay (nt_RN c) (nt_T c) k) && (decide (parseFieldDescriptor (nt_T c k).2.2.1 = some (nt_ty c k)) && (decide ((nt_T c k).1 = nt_RN c) && (nt_tgok (nt_tg c k) (nt_ty c k) && (List.range (nt_N c)).all (fun j => decide (j = k) || decide ((nt_T c j).2.1 ≠ (nt_T c k).2.1)))))) && (nt_wat q.2.1 (.instantiable (nt_RN c) (nt_N c)) && nt_wat q.2.2 (.initialized (nt_RN c)))
set_option maxRecDepth 100000 in
theorem nt_cc0 : ((List.range' 0 12).all nt_cck) = true := by decide +kernel
theorem nt_cf {c : Nat} (hc : c < 12) : (∀ w ∈ u_ws (nt_RN c) (nt_T c) (nt_N c), w ∈ nt_ws) ∧ (∀ k, k < nt_N c → parseFieldDescriptor (nt_T c k).2.2.1 = some (nt_ty c k)) ∧ (∀ k, k < nt_N c → (nt_T c k).1 = nt_RN c) ∧ (∀ k, k < nt_N c → nt_tgok (nt_tg c k) (nt_ty c k) = true) ∧ (∀ a, a < nt_N c → ∀ b, b < nt_N c → a ≠ b → (nt_T c a).2.1 ≠ (nt_T c b).2.1) ∧ Cond.instantiable (nt_RN c) (nt_N c) ∈ nt_ws ∧ Cond.initialized (nt_RN c) ∈ nt_ws := by
  have h := nt_rg nt_cc0 (Nat.zero_le c) (by omega : c < 0 + 12)
  unfold nt_cck at h
  simp only [Bool.and_eq_true, List.all_eq_true, List.mem_range, decide_eq_true_eq, Bool.or_eq_true] at h
  obtain ⟨h, h2, h3⟩ := h
  refine ⟨fun w hw => ?_, fun k hk => (h k hk).2.1, fun k hk => (h k hk).2.2.1, fun k hk => (h k hk).2.2.2.1, fun a ha b hb hab => ?_, nt_wat_in h2, nt_wat_in h3⟩
  · unfold u_ws at hw
    obtain ⟨k, hk, rfl⟩ := List.mem_map.mp hw
    exact nt_wat_in (h k (List.mem_range.mp hk)).1
  · rcases (h b hb).2.2.2.2 a ha with e | e
    · exact absurd e hab
    · exact e
theorem nt_ac_boolean : Cond.arrayClass .boolean ∈ nt_ws := nt_wat_in (i := 320) (by decide +kernel)
theorem nt_ac_byte : Cond.arrayClass .byte ∈ nt_ws := nt_wat_in (i := 45) (by decide +kernel)
theorem nt_ac_int : Cond.arrayClass .int ∈ nt_ws := nt_wat_in (i := 94) (by decide +kernel)
theorem nt_ac_long : Cond.arrayClass .long ∈ nt_ws := nt_wat_in (i := 123) (by decide +kernel)
theorem nt_oi1 : Cond.instanceMethod objectInit ∈ nt_ws := nt_wat_in (i := 27) (by decide +kernel)
theorem nt_oi2 : Cond.code objectInit ⟨#[0xb1]⟩ 1 none ∈ nt_ws := nt_wat_in (i := 28) (by decide +kernel)
theorem nt_cy1 : Cond.native arraycopyName ∈ nt_ws := nt_wat_in (i := 624) (by decide +kernel)
theorem nt_cy2 : Cond.static arraycopyName ∈ nt_ws := nt_wat_in (i := 623) (by decide +kernel)
theorem nt_cy3 : Cond.initialized "java/lang/System" ∈ nt_ws := nt_wat_in (i := 19) (by decide +kernel)
theorem nt_mx1 : Cond.static Lib.Math.max.name ∈ nt_ws := nt_wat_in (i := 659) (by decide +kernel)
theorem nt_mx2 : Cond.code Lib.Math.max.name Lib.Math.max.code 2 (some .int) ∈ nt_ws := nt_wat_in (i := 660) (by decide +kernel)
theorem nt_mn1 : Cond.static Lib.Math.min.name ∈ nt_ws := nt_wat_in (i := 386) (by decide +kernel)
theorem nt_mn2 : Cond.code Lib.Math.min.name Lib.Math.min.code 2 (some .int) ∈ nt_ws := nt_wat_in (i := 387) (by decide +kernel)
theorem nt_mx3 : Cond.initialized "java/lang/Math" ∈ nt_ws := nt_wat_in (i := 12) (by decide +kernel)
