/-! from the Statement's start to the small machine's -/
def nt_G : List Cond := flatC (Jvm.Cond.and given_1 narrow_1)
def nt_pc (k : Nat) (c : Cond) : Bool := decide (nt_G[k]? = some c)
theorem nt_pc_in {k : Nat} {c : Cond} (h : nt_pc k c = true) : c ∈ nt_G := List.mem_of_getElem? (of_decide_eq_true h)
def nt_TS : List (Nat × Nat) := [(9, 58), (9, 64), (9, 66), (9, 68), (9, 70), (5, 31), (5, 138), (5, 140), (5, 142), (5, 146), (5, 148), (5, 150), (5, 152), (5, 154), (5, 47), (5, 81), (5, 77), (5, 79)]
def nt_tm (i : Nat) : Term := .string (nt_RN (nt_TS.getD i (0, 0)).1) (nt_TS.getD i (0, 0)).2
def nt_SP : List (List Nat × List Nat) := [([33, 34, 35, 36], [37, 38, 39, 40, 41]), ([42, 43, 44, 45], [46, 47, 48, 49]), ([51, 52, 53, 54], [55, 56, 57, 58, 59]), ([62, 63, 64, 65], [66, 67, 68, 69, 70, 71]), ([75, 76, 77, 78], [79, 80, 81, 82, 83]), ([88, 89, 90, 91], [92, 93, 94, 95]), ([116, 117, 118, 119], [120, 121, 122, 123]), ([131, 132, 133, 134], [135, 136, 137]), ([146, 147, 148, 149], [150, 151, 152, 153, 154]), ([182, 183, 184, 185], [186, 187, 188, 189]), ([201, 202, 203, 204], [205, 206, 207]), ([220, 221, 222, 223], [224, 225, 226]), ([240, 241, 242, 243], [244, 245, 246, 247, 248]), ([263, 264, 265, 266], [267, 268, 269, 270, 271, 272]), ([288, 289, 290, 291], [292, 293]), ([310, 311, 312, 313], [314, 315, 316]), ([334, 335, 336, 337], [338, 339, 340]), ([359, 360, 361, 362], [363, 364])]
def nt_NP : List (List Nat) := [[9999, 50, 60, 72, 84, 96, 124, 138, 155, 190, 208, 227, 249, 273, 294, 317, 341, 365], [9999, 9999, 61, 73, 85, 97, 125, 139, 156, 191, 209, 228, 250, 274, 295, 318, 342, 366], [9999, 9999, 9999, 74, 86, 98, 126, 140, 157, 192, 210, 229, 251, 275, 296, 319, 343, 367], [9999, 9999, 9999, 9999, 87, 99, 127, 141, 158, 193, 211, 230, 252, 276, 297, 320, 344, 368], [9999, 9999, 9999, 9999, 9999, 100, 128, 142, 159, 194, 212, 231, 253, 277, 298, 321, 345, 369], [9999, 9999, 9999, 9999, 9999, 9999, 129, 143, 160, 195, 213, 232, 254, 278, 299, 322, 346, 370], [9999, 9999, 9999, 9999, 9999, 9999, 9999, 145, 162, 197, 215, 234, 256, 280, 301, 324, 348, 372], [9999, 9999, 9999, 9999, 9999, 9999, 9999, 9999, 163, 198, 216, 235, 257, 281, 302, 325, 349, 373], [9999, 9999, 9999, 9999, 9999, 9999, 9999, 9999, 9999, 199, 217, 236, 258, 282, 303, 326, 350, 374], [9999, 9999, 9999, 9999, 9999, 9999, 9999, 9999, 9999, 9999, 219, 238, 260, 284, 305, 328, 352, 376], [9999, 9999, 9999, 9999, 9999, 9999, 9999, 9999, 9999, 9999, 9999, 239, 261, 285, 306, 329, 353, 377], [9999, 9999, 9999, 9999, 9999, 9999, 9999, 9999, 9999, 9999, 9999, 9999, 262, 286, 307, 330, 354, 378], [9999, 9999, 9999, 9999, 9999, 9999, 9999, 9999, 9999, 9999, 9999, 9999, 9999, 287, 308, 331, 355, 379], [9999, 9999, 9999, 9999, 9999, 9999, 9999, 9999, 9999, 9999, 9999, 9999, 9999, 9999, 309, 332, 356, 380], [9999, 9999, 9999, 9999, 9999, 9999, 9999, 9999, 9999, 9999, 9999, 9999, 9999, 9999, 9999, 333, 357, 381], [9999, 9999, 9999, 9999, 9999, 9999, 9999, 9999, 9999, 9999, 9999, 9999, 9999, 9999, 9999, 9999, 358, 382], [9999, 9999, 9999, 9999, 9999, 9999, 9999, 9999, 9999, 9999, 9999, 9999, 9999, 9999, 9999, 9999, 9999, 383], [9999, 9999, 9999, 9999, 9999, 9999, 9999, 9999, 9999, 9999, 9999, 9999, 9999, 9999, 9999, 9999, 9999, 9999]]
def nt_ck1 (i : Nat) : Bool :=
  let q := nt_SP.getD i ([], [])
  nt_pc (q.1.getD 0 0) (.exactly (nt_tm i) "java/lang/String") && (nt_pc (q.1.getD 1 0) (.eq (.field (nt_tm i) "java/lang/String" "coder" "B") (.int 0)) && (nt_pc (q.1.getD 2 0) (.arrayOf (.field (nt_tm i) "java/lang/String" "value" "[B") .byte) && (nt_pc (q.1.getD 3 0) (.eq (.length (.field (nt_tm i) "java/lang/String" "value" "[B")) (.int (Int32.ofNat ((nt_SB.map List.length).getD i 0)))) && (List.range ((nt_SB.map List.length).getD i 0)).all (fun j => nt_pc (q.2.getD j 0) (.eq (.elem (.field (nt_tm i) "java/lang/String" "value" "[B") (.int (Int32.ofNat j))) (.int ((nt_SB.getD i []).getD j 0)))))))
def nt_ck2 (i : Nat) : Bool := (List.range 18).all (fun j => decide (j = i) || (nt_pc ((nt_NP.getD i []).getD j 0) (.not (.eq (nt_tm i) (nt_tm j))) || nt_pc ((nt_NP.getD j []).getD i 0) (.not (.eq (nt_tm j) (nt_tm i)))))
set_option maxRecDepth 100000 in
theorem nt_k1_0 : ((List.range' 0 3).all nt_ck1) = true := by decide +kernel
set_option maxRecDepth 100000 in
theorem nt_k2_0 : ((List.range' 0 3).all nt_ck2) = true := by decide +kernel
set_option maxRecDepth 100000 in
theorem nt_k1_3 : ((List.range' 3 3).all nt_ck1) = true := by decide +kernel
set_option maxRecDepth 100000 in
theorem nt_k2_3 : ((List.range' 3 3).all nt_ck2) = true := by decide +kernel
set_option maxRecDepth 100000 in
theorem nt_k1_6 : ((List.range' 6 3).all nt_ck1) = true := by decide +kernel
set_option maxRecDepth 100000 in
theorem nt_k2_6 : ((List.range' 6 3).all nt_ck2) = true := by decide +kernel
set_option maxRecDepth 100000 in
theorem nt_k1_9 : ((List.range' 9 3).all nt_ck1) = true := by decide +kernel
set_option maxRecDepth 100000 in
theorem nt_k2_9 : ((List.range' 9 3).all nt_ck2) = true := by decide +kernel
set_option maxRecDepth 100000 in
theorem nt_k1_12 : ((List.range' 12 3).all nt_ck1) = true := by decide +kernel
set_option maxRecDepth 100000 in
theorem nt_k2_12 : ((List.range' 12 3).all nt_ck2) = true := by decide +kernel
set_option maxRecDepth 100000 in
theorem nt_k1_15 : ((List.range' 15 3).all nt_ck1) = true := by decide +kernel
set_option maxRecDepth 100000 in
theorem nt_k2_15 : ((List.range' 15 3).all nt_ck2) = true := by decide +kernel
theorem nt_ck1_ok {i : Nat} (hi : i < 18) : nt_ck1 i = true := by
  by_cases h0 : i < 3
  · exact nt_rg nt_k1_0 (by omega) (by omega)
  by_cases h3 : i < 6
  · exact nt_rg nt_k1_3 (by omega) (by omega)
  by_cases h6 : i < 9
  · exact nt_rg nt_k1_6 (by omega) (by omega)
  by_cases h9 : i < 12
  · exact nt_rg nt_k1_9 (by omega) (by omega)
  by_cases h12 : i < 15
  · exact nt_rg nt_k1_12 (by omega) (by omega)
  by_cases h15 : i < 18
  · exact nt_rg nt_k1_15 (by omega) (by omega)
  omega
theorem nt_ck2_ok {i : Nat} (hi : i < 18) : nt_ck2 i = true := by
  by_cases h0 : i < 3
  · exact nt_rg nt_k2_0 (by omega) (by omega)
  by_cases h3 : i < 6
  · exact nt_rg nt_k2_3 (by omega) (by omega)
  by_cases h6 : i < 9
  · exact nt_rg nt_k2_6 (by omega) (by omega)
  by_cases h9 : i < 12
  · exact nt_rg nt_k2_9 (by omega) (by omega)
  by_cases h12 : i < 15
  · exact nt_rg nt_k2_12 (by omega) (by omega)
  by_cases h15 : i < 18
  · exact nt_rg nt_k2_15 (by omega) (by omega)
  omega
def nt_SO : List (Nat × Nat) := [(0, 0), (0, 0), (0, 0), (0, 0), (0, 0), (0, 0), (1, 112), (0, 0), (0, 0), (0, 0), (1, 173), (0, 0), (0, 0), (0, 0), (0, 0), (0, 0), (0, 0), (0, 0), (0, 0), (0, 0)]
def nt_ck3 (k : Nat) : Bool := match nt_SR[k]?, nt_SO[k]? with
  | some e, some q => (if q.1 = 0 then decide (Term.string (nt_RN e.1) e.2.1 = nt_tm e.2.2.1) else if q.1 = 1 then nt_pc q.2 (.eq (nt_tm e.2.2.1) (.string (nt_RN e.1) e.2.1)) else nt_pc q.2 (.eq (.string (nt_RN e.1) e.2.1) (nt_tm e.2.2.1))) && (decide (e.2.2.1 < 18) && decide (tables_1[e.2.2.2]? = some (.stringRef (nt_RN e.1) e.2.1 (nt_SX.getD e.2.2.1 ""))))
  | _, _ => false
set_option maxRecDepth 100000 in
theorem nt_k3 : ((List.range' 0 20).all nt_ck3) = true := by decide +kernel
set_option maxRecDepth 100000 in
theorem nt_NL_ok : nt_NL.all (fun e => decide (tables_1[e.2.2.2]? = some (.methodLinkNest (nt_RN e.1) e.2.1 (nt_m e.2.2.1).1 "NineTimbers"))) = true := by decide +kernel
theorem nt_t_a4 : Cond.arrayOver (.object (nt_RN 4)) ∈ tables_1 := List.mem_of_getElem? (i := 96) (by decide +kernel)
theorem nt_t_a6 : Cond.arrayOver (.object (nt_RN 6)) ∈ tables_1 := List.mem_of_getElem? (i := 321) (by decide +kernel)
theorem nt_t_z1 : Cond.laysStatic "java/lang/String" "COMPACT_STRINGS" "Z" ∈ tables_1 := List.mem_of_getElem? (i := 410) (by decide +kernel)
theorem nt_t_z2 : Cond.laysStatic "jdk/internal/util/Preconditions" "SIOOBE_FORMATTER" "Ljava/util/function/BiFunction;" ∈ tables_1 := List.mem_of_getElem? (i := 426) (by decide +kernel)
theorem nt_g_z1 : Cond.eq (.static "java/lang/String" "COMPACT_STRINGS" "Z") (.int 1) ∈ nt_G := nt_pc_in (k := 4) (by decide +kernel)
theorem nt_g_z2 : Cond.isRef (.static "jdk/internal/util/Preconditions" "SIOOBE_FORMATTER" "Ljava/util/function/BiFunction;") ∈ nt_G := nt_pc_in (k := 5) (by decide +kernel)
