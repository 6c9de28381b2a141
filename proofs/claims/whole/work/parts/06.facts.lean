/-! the links, the methods and the fields are in the tables -/
def nt_wal (i : Nat) (w : Cond) : Bool := decide (lw_tbl[i]? = some w) && goodWord w
theorem nt_wal_in {i : Nat} {w : Cond} (h : nt_wal i w = true) : w ∈ nt_ws := by
  unfold nt_wal at h
  rw [Bool.and_eq_true, decide_eq_true_eq] at h
  exact List.mem_filter.mpr ⟨List.mem_of_getElem? h.1, h.2⟩
theorem nt_lk3_mem {t : List (Nat × Nat × Nat × Nat)} {own ix g : Nat} (h : nt_lk3 t own ix g = true) : ∃ q ∈ t, q.1 = own ∧ q.2.1 = ix ∧ q.2.2.1 = g := by
  unfold nt_lk3 at h
  obtain ⟨q, hq, h2⟩ := List.any_eq_true.mp h
  rw [Bool.and_eq_true, Bool.and_eq_true] at h2
  exact ⟨q, hq, Nat.eq_of_beq_eq_true h2.1.1, Nat.eq_of_beq_eq_true h2.1.2, Nat.eq_of_beq_eq_true h2.2⟩
def nt_yn (g : Nat) : MethodName := match g with
  | 1000 => objectInit
  | 1001 => arraycopyName
  | 1002 => Lib.Math.max.name
  | 1003 => Lib.Math.min.name
  | 1004 => ⟨"java/lang/String", "length", "()I"⟩
  | 1005 => ⟨"java/lang/String", "charAt", "(I)C"⟩
  | _ => (nt_m g).1
set_option maxRecDepth 100000 in
theorem nt_FL_ok : nt_FL.all (fun e => nt_wat e.2.2.2 (.fieldLink (nt_RN e.1) e.2.1 (nt_RN (e.2.2.1 / 100)) (nt_T (e.2.2.1 / 100) (e.2.2.1 % 100)).2.1 (nt_T (e.2.2.1 / 100) (e.2.2.1 % 100)).2.2.1)) = true := by decide +kernel
theorem nt_fl {own ix g : Nat} (h : nt_lk3 nt_FL own ix g = true) : Cond.fieldLink (nt_RN own) ix (nt_RN (g / 100)) (nt_T (g / 100) (g % 100)).2.1 (nt_T (g / 100) (g % 100)).2.2.1 ∈ nt_ws := by
  obtain ⟨q, hq, rfl, rfl, rfl⟩ := nt_lk3_mem h
  exact nt_wat_in (List.all_eq_true.mp nt_FL_ok q hq)
set_option maxRecDepth 100000 in
theorem nt_ML_ok : nt_ML.all (fun e => nt_wat e.2.2.2 (.methodLink (nt_RN e.1) e.2.1 (nt_yn e.2.2.1))) = true := by decide +kernel
theorem nt_ml {own ix g : Nat} (h : nt_lk3 nt_ML own ix g = true) : Cond.methodLink (nt_RN own) ix (nt_yn g) ∈ nt_ws := by
  obtain ⟨q, hq, rfl, rfl, rfl⟩ := nt_lk3_mem h
  exact nt_wat_in (List.all_eq_true.mp nt_ML_ok q hq)
set_option maxRecDepth 100000 in
theorem nt_CL_ok : nt_CL.all (fun e => nt_wat e.2.2.2 (.classLink (nt_RN e.1) e.2.1 (nt_RN e.2.2.1))) = true := by decide +kernel
theorem nt_cll {own ix g : Nat} (h : nt_lk3 nt_CL own ix g = true) : Cond.classLink (nt_RN own) ix (nt_RN g) ∈ nt_ws := by
  obtain ⟨q, hq, rfl, rfl, rfl⟩ := nt_lk3_mem h
  exact nt_wat_in (List.all_eq_true.mp nt_CL_ok q hq)
set_option maxRecDepth 100000 in
theorem nt_KL_ok : nt_KL.all (fun e => nt_wat e.2.2.2 (.constantLong (nt_RN e.1) e.2.1 e.2.2.1)) = true := by decide +kernel
set_option maxRecDepth 100000 in
theorem nt_KI_ok : nt_KI.all (fun e => nt_wat e.2.2.2 (.constant (nt_RN e.1) e.2.1 e.2.2.1)) = true := by decide +kernel
def nt_MP : List (Nat × Nat × Nat) := [(6, 100, 0), (6, 712, 825), (6, 716, 0), (6, 720, 0), (6, 729, 21), (6, 733, 22), (6, 740, 23), (6, 743, 0), (6, 752, 24), (6, 781, 0), (6, 784, 0), (8, 131, 0), (8, 800, 913), (8, 807, 920), (8, 811, 0), (8, 814, 927), (8, 819, 28), (8, 823, 29), (8, 828, 30), (8, 840, 953), (8, 844, 957), (8, 848, 0), (8, 863, 976), (8, 869, 31), (8, 904, 1017), (8, 912, 1025), (8, 917, 33), (3, 49, 0), (3, 378, 491), (3, 382, 495), (3, 398, 511), (3, 454, 567), (3, 466, 579), (3, 475, 588), (3, 479, 592), (3, 496, 609), (3, 500, 613), (3, 504, 617), (3, 509, 622), (3, 598, 711), (7, 106, 0), (7, 760, 873), (7, 765, 25), (7, 769, 26), (7, 772, 0), (7, 775, 888), (17, 626, 0), (5, 78, 0), (5, 521, 634), (5, 531, 8), (5, 535, 9), (5, 540, 10), (5, 543, 0), (5, 557, 11), (5, 562, 12), (5, 565, 0), (5, 571, 13), (5, 576, 14), (5, 581, 15), (5, 585, 16), (5, 591, 17), (5, 595, 18), (5, 606, 719), (9, 150, 0), (9, 513, 626), (9, 639, 752), (9, 643, 756), (9, 647, 760), (9, 651, 764), (9, 662, 775), (9, 671, 784), (9, 679, 792), (9, 687, 800), (9, 691, 804), (9, 696, 809), (9, 724, 837), (9, 877, 990), (9, 881, 994), (9, 887, 32), (9, 908, 1021), (9, 925, 1038), (9, 944, 1057), (9, 949, 34), (2, 32, 0), (2, 358, 471), (10, 156, 0), (10, 374, 487), (10, 655, 768), (10, 747, 860), (10, 756, 869), (10, 929, 1042), (4, 65, 0), (4, 370, 483), (4, 390, 0), (4, 394, 1), (4, 459, 2), (4, 463, 3), (4, 472, 4), (4, 485, 5), (4, 489, 6), (4, 493, 7), (1, 24, 0), (1, 354, 467), (1, 362, 475), (1, 366, 479), (1, 517, 630), (1, 635, 748), (1, 667, 780), (1, 675, 788), (1, 683, 796), (1, 700, 813), (1, 705, 19), (1, 709, 20), (1, 787, 900), (1, 792, 905), (1, 797, 27), (1, 831, 944), (1, 836, 949), (1, 859, 972), (1, 873, 986), (1, 890, 1003), (1, 894, 1007), (1, 900, 1013), (1, 921, 1034), (1, 936, 1049), (1, 940, 1053), (1, 957, 1070), (1, 961, 1074), (1, 965, 1078), (11, 971, 0), (11, 1069, 1182), (11, 1074, 35), (11, 1077, 1190), (11, 1081, 1194), (11, 1086, 36), (11, 1090, 37), (11, 1094, 38), (11, 1099, 39), (11, 1103, 40), (11, 1112, 41), (11, 1116, 42), (11, 1120, 43), (11, 1124, 44), (11, 1128, 45), (11, 1132, 46), (11, 1135, 0), (11, 1139, 47), (11, 1143, 48), (11, 1147, 49), (11, 1151, 50), (11, 1155, 51), (11, 1159, 52), (11, 1163, 53), (11, 1167, 54), (11, 1172, 55), (11, 1176, 56), (11, 1180, 57), (11, 1193, 58), (11, 1197, 59), (11, 1201, 60), (11, 1206, 61), (11, 1210, 62), (11, 1214, 63), (11, 1218, 64), (11, 1221, 0), (11, 1225, 65), (11, 1230, 1343), (11, 1234, 1347), (11, 1239, 66), (11, 1244, 67), (11, 1248, 68), (11, 1252, 69), (11, 1256, 70), (11, 1260, 71), (11, 1264, 72), (11, 1268, 73), (11, 1271, 1384), (11, 1276, 74), (11, 1280, 1393), (11, 1285, 75), (11, 1289, 76), (11, 1292, 1405), (11, 1297, 77), (11, 1301, 78), (11, 1305, 79), (11, 1309, 80), (11, 1312, 1425), (11, 1317, 81), (11, 1321, 82), (11, 1325, 83), (11, 1330, 84), (11, 1334, 85), (11, 1338, 86), (11, 1342, 87), (11, 1346, 88), (11, 1350, 89), (11, 1354, 90), (11, 1359, 91), (11, 1363, 92), (11, 1367, 93), (11, 1371, 94), (11, 1374, 0), (11, 1378, 95), (11, 1381, 1494), (11, 1385, 1498), (11, 1390, 96), (11, 1394, 97), (11, 1398, 98), (11, 1402, 99), (11, 1405, 0), (11, 1409, 100), (11, 1412, 1525), (11, 1416, 1529), (11, 1421, 101), (11, 1424, 0), (11, 1427, 1540), (11, 1432, 102), (11, 1435, 1548), (11, 1441, 103), (11, 1445, 104), (11, 1449, 105), (11, 1452, 1565), (11, 1456, 1569), (11, 1460, 1573), (11, 1465, 106), (11, 1469, 107), (11, 1472, 1585), (11, 1477, 108), (11, 1481, 109), (11, 1485, 110), (11, 1488, 1601), (11, 1492, 1605), (11, 1498, 111), (11, 1505, 1618), (11, 1509, 1622), (11, 1514, 1627), (20, 851, 0), (18, 612, 0), (18, 804, 0)]
def nt_mck (i : Nat) (y : MethodName) (b : ByteArray) (ml : Nat) (r : Option FieldType) (own np kd cp : Nat) : Bool :=
  let q := nt_MP.getD i (0, 0, 0)
  nt_wat cp (.code y b ml r) && (nt_wat q.1 (.initialized y.cls) && ((if kd = 0 then nt_wat q.2.1 (.static y) else nt_wat q.2.1 (.instanceMethod y)) && ((if kd = 1 then nt_wal q.2.2 (.selects (nt_RN own) y y) else true) && (decide (y.cls = nt_RN own) && (decide (y.cls ≠ "java/lang/invoke/MethodHandle") && (decide (y.cls ≠ "java/lang/invoke/VarHandle") && (decide ((parseMethodDescriptor y.desc).map (fun d => d.parameters.length) = some np) && (decide (ml ≤ 40) && (plainName y.cls && (if kd = 2 then decide (y.name = "<init>") && decide (r = none) else true))))))))))
def nt_mck2 (i : Nat) : Bool := nt_mck i (nt_m i).1 (nt_m i).2.1 (nt_m i).2.2.1 (nt_m i).2.2.2.1 (nt_m i).2.2.2.2.1 (nt_m i).2.2.2.2.2.1 (nt_m i).2.2.2.2.2.2.1 (nt_m i).2.2.2.2.2.2.2
set_option maxRecDepth 100000 in
theorem nt_mc0 : ((List.range' 0 40).all nt_mck2) = true := by decide +kernel
set_option maxRecDepth 100000 in
theorem nt_mc40 : ((List.range' 40 40).all nt_mck2) = true := by decide +kernel
set_option maxRecDepth 100000 in
theorem nt_mc80 : ((List.range' 80 40).all nt_mck2) = true := by decide +kernel
set_option maxRecDepth 100000 in
theorem nt_mc120 : ((List.range' 120 40).all nt_mck2) = true := by decide +kernel
set_option maxRecDepth 100000 in
theorem nt_mc160 : ((List.range' 160 40).all nt_mck2) = true := by decide +kernel
set_option maxRecDepth 100000 in
theorem nt_mc200 : ((List.range' 200 39).all nt_mck2) = true := by decide +kernel
theorem nt_mck_ok {i : Nat} (hi : i < 239) : nt_mck2 i = true := by
  by_cases h0 : i < 40
  · exact nt_rg nt_mc0 (by omega) (by omega)
  by_cases h40 : i < 80
  · exact nt_rg nt_mc40 (by omega) (by omega)
  by_cases h80 : i < 120
  · exact nt_rg nt_mc80 (by omega) (by omega)
  by_cases h120 : i < 160
  · exact nt_rg nt_mc120 (by omega) (by omega)
  by_cases h160 : i < 200
  · exact nt_rg nt_mc160 (by omega) (by omega)
  by_cases h200 : i < 239
  · exact nt_rg nt_mc200 (by omega) (by omega)
  omega
theorem nt_mf {i : Nat} (hi : i < 239) : Cond.code (nt_m i).1 (nt_m i).2.1 (nt_m i).2.2.1 (nt_m i).2.2.2.1 ∈ nt_ws ∧ Cond.initialized (nt_m i).1.cls ∈ nt_ws ∧ ((nt_m i).2.2.2.2.2.2.1 = 0 → Cond.static (nt_m i).1 ∈ nt_ws) ∧ (¬ (nt_m i).2.2.2.2.2.2.1 = 0 → Cond.instanceMethod (nt_m i).1 ∈ nt_ws) ∧ ((nt_m i).2.2.2.2.2.2.1 = 1 → Cond.selects (nt_RN (nt_m i).2.2.2.2.1) (nt_m i).1 (nt_m i).1 ∈ nt_ws) ∧ (nt_m i).1.cls = nt_RN (nt_m i).2.2.2.2.1 ∧ ((nt_m i).1.cls ≠ "java/lang/invoke/MethodHandle" ∧ (nt_m i).1.cls ≠ "java/lang/invoke/VarHandle" ∧ (parseMethodDescriptor (nt_m i).1.desc).map (fun d => d.parameters.length) = some (nt_m i).2.2.2.2.2.1) ∧ (nt_m i).2.2.1 ≤ 40 ∧ plainName (nt_m i).1.cls = true ∧ ((nt_m i).2.2.2.2.2.2.1 = 2 → (nt_m i).1.name = "<init>" ∧ (nt_m i).2.2.2.1 = none) := by
  have h := nt_mck_ok hi
  unfold nt_mck2 nt_mck at h
  simp only [Bool.and_eq_true, decide_eq_true_eq] at h
  obtain ⟨h1, h2, h3, h4, h5, h6, h7, h8, h9, h10, h11⟩ := h
  refine ⟨nt_wat_in h1, nt_wat_in h2, fun e => ?_, fun e => ?_, fun e => ?_, h5, ⟨h6, h7, h8⟩, h9, h10, fun e => ?_⟩
  · rw [if_pos e] at h3; exact nt_wat_in h3
  · rw [if_neg e] at h3; exact nt_wat_in h3
  · rw [if_pos e] at h4; exact nt_wal_in h4
  · rw [if_pos e] at h11
    simp only [Bool.and_eq_true, decide_eq_true_eq] at h11
    exact h11
def nt_CP : List (List Nat × Nat × Nat) := [([125], 98, 6), ([138, 140, 142, 144], 129, 8), ([55, 57, 59], 47, 3), ([114, 116, 118, 120], 104, 7), ([631], 610, 17), ([85, 87, 89, 91], 76, 5), ([291, 293, 295, 297, 299, 301, 303, 305, 307, 309, 311, 313, 315, 317], 148, 9), ([40, 42], 30, 2), ([222, 224, 226, 228, 230, 232, 234, 236, 238, 240, 242, 244, 246], 154, 10), ([70, 72], 63, 4), ([332, 334, 336, 338, 340, 342, 344, 346, 348, 350], 22, 1), ([1005, 1007, 1009, 1011, 1013, 1015, 1017, 1019, 1021, 1023, 1025, 1027, 1029, 1031, 1033, 1035, 1037, 1039, 1041, 1043, 1045, 1047, 1049, 1051, 1053, 1055, 1057, 1059, 1061, 1063, 1065], 969, 11)]
def nt_isR : FieldType → Bool
  | .object _ => true
  | .array _ => true
  | _ => false
def nt_tgok (g : Nat) (t : FieldType) : Bool := match g with
  | 0 => decide (t = .int)
  | 1 => decide (t = .long)
  | 2 => nt_isR t
  | 3 => decide (t = .boolean)
  | _ => false
def nt_cck (c : Nat) : Bool :=
  let q := nt_CP.getD c ([], 0, 0)
  (List.range (nt_N c)).all (fun k => nt_wat (q.1.getD k 0) (u_lay (nt_RN c) (nt_T c) k) && (decide (parseFieldDescriptor (nt_T c k).2.2.1 = some (nt_ty c k)) && (decide ((nt_T c k).1 = nt_RN c) && (nt_tgok (nt_tg c k) (nt_ty c k) && (List.range (nt_N c)).all (fun j => decide (j = k) || decide ((nt_T c j).2.1 ≠ (nt_T c k).2.1)))))) && (nt_wat q.2.1 (.instantiable (nt_RN c) (nt_N c)) && nt_wat q.2.2 (.initialized (nt_RN c)))
set_option maxRecDepth 100000 in
theorem nt_cc0 : ((List.range' 0 12).all nt_cck) = true := by decide +kernel
theorem nt_cf {c : Nat} (hc : c < 12) : (∀ w ∈ u_ws (nt_RN c) (nt_T c) (nt_N c), w ∈ nt_ws) ∧ (∀ k, k < nt_N c → parseFieldDescriptor (nt_T c k).2.2.1 = some (nt_ty c k)) ∧ (∀ k, k < nt_N c → (nt_T c k).1 = nt_RN c) ∧ (∀ k, k < nt_N c → nt_tgok (nt_tg c k) (nt_ty c k) = true) ∧ (∀ a, a < nt_N c → ∀ b, b < nt_N c → a ≠ b → (nt_T c a).2.1 ≠ (nt_T c b).2.1) ∧ Cond.instantiable (nt_RN c) (nt_N c) ∈ nt_ws ∧ Cond.initialized (nt_RN c) ∈ nt_ws := by
  have h := nt_rg nt_cc0 (Nat.zero_le c) (by omega : c < 0 + 12)
  unfold nt_cck at h
  simp only [Bool.and_eq_true, List.all_eq_true, List.mem_range, decide_eq_true_eq, Bool.or_eq_true] at h
  obtain ⟨h, h2, h3⟩ := h
  refine ⟨fun w hw => ?_, fun k hk => (h k hk).2.1, fun k hk => (h k hk).2.2.1, fun k hk => (h k hk).2.2.2.1, fun a ha b hb hab => ?_, nt_wat_in h2, nt_wat_in h3⟩
  · unfold u_ws at hw
    obtain ⟨k, hk, rfl⟩ := List.mem_map.mp hw
    exact nt_wat_in (h k (List.mem_range.mp hk)).1
  · rcases (h b hb).2.2.2.2 a ha with e | e
    · exact absurd e hab
    · exact e
theorem nt_ac_boolean : Cond.arrayClass .boolean ∈ nt_ws := nt_wat_in (i := 320) (by decide +kernel)
theorem nt_ac_byte : Cond.arrayClass .byte ∈ nt_ws := nt_wat_in (i := 45) (by decide +kernel)
theorem nt_ac_int : Cond.arrayClass .int ∈ nt_ws := nt_wat_in (i := 94) (by decide +kernel)
theorem nt_ac_long : Cond.arrayClass .long ∈ nt_ws := nt_wat_in (i := 123) (by decide +kernel)
theorem nt_oi1 : Cond.instanceMethod objectInit ∈ nt_ws := nt_wat_in (i := 27) (by decide +kernel)
theorem nt_oi2 : Cond.code objectInit ⟨#[0xb1]⟩ 1 none ∈ nt_ws := nt_wat_in (i := 28) (by decide +kernel)
theorem nt_cy1 : Cond.native arraycopyName ∈ nt_ws := nt_wat_in (i := 624) (by decide +kernel)
theorem nt_cy2 : Cond.static arraycopyName ∈ nt_ws := nt_wat_in (i := 623) (by decide +kernel)
theorem nt_cy3 : Cond.initialized "java/lang/System" ∈ nt_ws := nt_wat_in (i := 19) (by decide +kernel)
theorem nt_mx1 : Cond.static Lib.Math.max.name ∈ nt_ws := nt_wat_in (i := 659) (by decide +kernel)
theorem nt_mx2 : Cond.code Lib.Math.max.name Lib.Math.max.code 2 (some .int) ∈ nt_ws := nt_wat_in (i := 660) (by decide +kernel)
theorem nt_mn1 : Cond.static Lib.Math.min.name ∈ nt_ws := nt_wat_in (i := 386) (by decide +kernel)
theorem nt_mn2 : Cond.code Lib.Math.min.name Lib.Math.min.code 2 (some .int) ∈ nt_ws := nt_wat_in (i := 387) (by decide +kernel)
theorem nt_mx3 : Cond.initialized "java/lang/Math" ∈ nt_ws := nt_wat_in (i := 12) (by decide +kernel)
