/-! THE START: what the Statement gives of it -/
def stF : List Cond := flatC (Cond.and given_1 narrow_1)
def sgT (j : Nat) : Term := .static RX8 (zsgN.getD j "") "LTarotMerchants$Sign;"
def sxL : List Nat := [189, 189, 189, 189, 189, 199, 202, 205, 208, 211, 214, 217, 220, 223, 226, 229, 232, 235, 238, 241, 244, 247, 250, 253, 256, 259, 262, 265, 268, 271, 274, 277, 280, 283, 286, 289, 292, 295, 298, 301, 304, 307, 310, 313, 316, 319]
def swL : List Nat := [469, 471, 472, 473, 474, 476, 477, 479, 481, 482, 484, 485, 487, 488, 490, 491, 492, 493, 494, 495, 497, 498, 500, 502, 504, 505]
def txT (i : Nat) : Term := if i < 46 then .string RX8 (sxL.getD i 0) else if i < 72 then .string RX15 (swL.getD (i - 46) 0) else .string RX15 77
def algT : Term := .static RX8 "ALL" "[LTarotMerchants$Sign;"
def smT : Term := .static RX0 "$SwitchMap$TarotMerchants$Sign" "[I"
def woT : Term := .static RX15 "WORDS" "[Ljava/lang/String;"
def tE0 : List Nat := [0, 0, 0, 0, 0, 731, 758, 783, 792, 801, 810, 818, 827, 766, 871, 775, 739, 877, 751, 884, 1187, 1197, 1206, 1217, 1227, 1236, 892, 936, 943, 1248, 1256, 836, 846, 899, 904, 949, 841, 861, 866, 851, 856, 909, 914, 919, 924, 930, 954, 963, 972, 982, 992, 1002, 1011, 1021, 1031, 1041, 1048, 1057, 1070, 1078, 1086, 1095, 1104, 1112, 1122, 1131, 1139, 1150, 1158, 1166, 1173, 1180, 710]
theorem sf_ex : ∀ j, j < 46 → stF[([7, 4, 66, 69, 166, 121, 130, 139, 142, 145, 148, 151, 154, 133, 181, 136, 124, 184, 127, 187, 254, 257, 260, 263, 266, 269, 190, 214, 217, 272, 275, 157, 163, 193, 196, 220, 160, 175, 178, 169, 172, 199, 202, 205, 208, 211] : List Nat).getD j 0]? = some (.exactly (sgT j) RX8) := by decide +kernel
theorem sf_ord : ∀ j, j < 46 → stF[([8, 5, 67, 70, 167, 122, 131, 140, 143, 146, 149, 152, 155, 134, 182, 137, 125, 185, 128, 188, 255, 258, 261, 264, 267, 270, 191, 215, 218, 273, 276, 158, 164, 194, 197, 221, 161, 176, 179, 170, 173, 200, 203, 206, 209, 212] : List Nat).getD j 0]? = some (.eq (.field (sgT j) "java/lang/Enum" "ordinal" "I") (.int (nI j))) := by decide +kernel
theorem sf_tx : ∀ j, j < 46 → stF[([9, 6, 68, 71, 168, 123, 132, 141, 144, 147, 150, 153, 156, 135, 183, 138, 126, 186, 129, 189, 256, 259, 262, 265, 268, 271, 192, 216, 219, 274, 277, 159, 165, 195, 198, 222, 162, 177, 180, 171, 174, 201, 204, 207, 210, 213] : List Nat).getD j 0]? = some (.eq (.field (sgT j) RX8 "text" "Ljava/lang/String;") (txT j)) := by decide +kernel
theorem sf_al : ∀ j, j < 46 → stF[([15, 16, 17, 18, 19, 20, 21, 22, 23, 24, 25, 26, 27, 28, 29, 30, 31, 32, 33, 34, 35, 36, 37, 38, 39, 40, 41, 42, 43, 44, 45, 46, 47, 48, 49, 50, 51, 52, 53, 54, 55, 56, 57, 58, 59, 60] : List Nat).getD j 0]? = some (.eq (.elem algT (.int (Int32.ofNat j))) (sgT j)) := by decide +kernel
theorem sf_sw : ∀ j, j < 46 → stF[([75, 76, 77, 78, 79, 80, 81, 82, 83, 84, 85, 86, 87, 88, 89, 90, 91, 92, 93, 94, 95, 96, 97, 98, 99, 100, 101, 102, 103, 104, 105, 106, 107, 108, 109, 110, 111, 112, 113, 114, 115, 116, 117, 118, 119, 120] : List Nat).getD j 0]? = some (.eq (.elem smT (.int (Int32.ofNat j))) (.int (zswm.getD j 0))) := by decide +kernel
theorem sf_wo : ∀ j, j < 26 → stF[([228, 229, 230, 231, 232, 233, 234, 235, 236, 237, 238, 239, 240, 241, 242, 243, 244, 245, 246, 247, 248, 249, 250, 251, 252, 253] : List Nat).getD j 0]? = some (.eq (.elem woT (.int (Int32.ofNat j))) (txT (46 + j))) := by decide +kernel
theorem sf_tex : ∀ i, i < 73 → stF[([723, 723, 723, 723, 723, 727, 754, 779, 788, 797, 806, 814, 823, 762, 867, 771, 735, 873, 747, 880, 1183, 1193, 1202, 1213, 1223, 1232, 888, 932, 939, 1244, 1252, 832, 842, 895, 900, 945, 837, 857, 862, 847, 852, 905, 910, 915, 920, 926, 950, 959, 968, 978, 988, 998, 1007, 1017, 1027, 1037, 1044, 1053, 1066, 1074, 1082, 1091, 1100, 1108, 1118, 1127, 1135, 1146, 1154, 1162, 1169, 1176, 706] : List Nat).getD i 0]? = some (.exactly (txT i) "java/lang/String") := by decide +kernel
theorem sf_tco : ∀ i, i < 73 → stF[([724, 724, 724, 724, 724, 728, 755, 780, 789, 798, 807, 815, 824, 763, 868, 772, 736, 874, 748, 881, 1184, 1194, 1203, 1214, 1224, 1233, 889, 933, 940, 1245, 1253, 833, 843, 896, 901, 946, 838, 858, 863, 848, 853, 906, 911, 916, 921, 927, 951, 960, 969, 979, 989, 999, 1008, 1018, 1028, 1038, 1045, 1054, 1067, 1075, 1083, 1092, 1101, 1109, 1119, 1128, 1136, 1147, 1155, 1163, 1170, 1177, 707] : List Nat).getD i 0]? = some (.eq (.field (txT i) "java/lang/String" "coder" "B") (.int 0)) := by decide +kernel
theorem sf_tar : ∀ i, i < 73 → stF[([725, 725, 725, 725, 725, 729, 756, 781, 790, 799, 808, 816, 825, 764, 869, 773, 737, 875, 749, 882, 1185, 1195, 1204, 1215, 1225, 1234, 890, 934, 941, 1246, 1254, 834, 844, 897, 902, 947, 839, 859, 864, 849, 854, 907, 912, 917, 922, 928, 952, 961, 970, 980, 990, 1000, 1009, 1019, 1029, 1039, 1046, 1055, 1068, 1076, 1084, 1093, 1102, 1110, 1120, 1129, 1137, 1148, 1156, 1164, 1171, 1178, 708] : List Nat).getD i 0]? = some (.arrayOf (.field (txT i) "java/lang/String" "value" "[B") .byte) := by decide +kernel
theorem sf_tle : ∀ i, i < 73 → stF[([726, 726, 726, 726, 726, 730, 757, 782, 791, 800, 809, 817, 826, 765, 870, 774, 738, 876, 750, 883, 1186, 1196, 1205, 1216, 1226, 1235, 891, 935, 942, 1247, 1255, 835, 845, 898, 903, 948, 840, 860, 865, 850, 855, 908, 913, 918, 923, 929, 953, 962, 971, 981, 991, 1001, 1010, 1020, 1030, 1040, 1047, 1056, 1069, 1077, 1085, 1094, 1103, 1111, 1121, 1130, 1138, 1149, 1157, 1165, 1172, 1179, 709] : List Nat).getD i 0]? = some (.eq (.length (.field (txT i) "java/lang/String" "value" "[B")) (.int (Int32.ofNat (zlen.getD i 0)))) := by decide +kernel
theorem sl_len : ∀ i, i < 73 → zlen.getD i 0 < 2 ^ 31 := by decide +kernel
theorem sf_tel : ∀ i, i < 73 → ∀ j, j < zlen.getD i 0 → stF[tE0.getD i 0 + j]? = some (.eq (.elem (.field (txT i) "java/lang/String" "value" "[B") (.int (Int32.ofNat j))) (.int ((zbyt.getD i []).getD j 0))) := by decide +kernel
theorem sf_alar : stF[12]? = some (.arrayOf algT (.object RX8)) := by decide +kernel
theorem sf_allen : stF[13]? = some (.eq (.length algT) (.int (Int32.ofNat 46))) := by decide +kernel
theorem sf_swar : stF[73]? = some (.arrayOf smT .int) := by decide +kernel
theorem sf_swlen : stF[74]? = some (.eq (.length smT) (.int (Int32.ofNat 46))) := by decide +kernel
theorem sf_woar : stF[226]? = some (.arrayOf woT (.object "java/lang/String")) := by decide +kernel
theorem sf_wolen : stF[227]? = some (.eq (.length woT) (.int (Int32.ofNat 26))) := by decide +kernel
theorem sf_cs : stF[61]? = some (.eq (.static "java/lang/String" "COMPACT_STRINGS" "Z") (.int 1)) := by decide +kernel
theorem sf_sio : stF[62]? = some (.isRef (.static "jdk/internal/util/Preconditions" "SIOOBE_FORMATTER" "Ljava/util/function/BiFunction;")) := by decide +kernel
theorem sf_una : stF[223]? = some (.isRef (.static Bundle.tN "UNASSIGNED_STACK" Bundle.steD)) := by decide +kernel
theorem sf_sup : stF[224]? = some (.isRef (.static Bundle.tN "SUPPRESSED_SENTINEL" Bundle.listD)) := by decide +kernel
theorem sf_n1 : stF[327]? = some (.not (.castable "java/lang/IllegalStateException" "java/lang/IndexOutOfBoundsException")) := by decide +kernel
theorem sf_n2 : stF[328]? = some (.not (.castable "java/lang/IllegalArgumentException" "java/lang/IndexOutOfBoundsException")) := by decide +kernel
theorem sf_n3 : stF[311]? = some (.not (.castable "java/lang/IndexOutOfBoundsException" "java/lang/IllegalArgumentException")) := by decide +kernel
theorem sl_sg : ∀ j, j < 46 → tables_1[([462, 83, 524, 531, 724, 566, 639, 662, 672, 674, 676, 678, 680, 650, 739, 659, 610, 747, 616, 754, 1995, 1996, 1997, 1998, 1999, 2000, 772, 791, 793, 2001, 2002, 718, 722, 774, 776, 795, 720, 734, 736, 726, 728, 781, 783, 785, 787, 789] : List Nat).getD j 0]? = some (.laysStatic RX8 (zsgN.getD j "") "LTarotMerchants$Sign;") := by decide +kernel
theorem sl_i8 : tables_1[7]? = some (.initialized RX8) := by decide +kernel
theorem sl_i0 : tables_1[27]? = some (.initialized RX0) := by decide +kernel
theorem sl_i15 : tables_1[14]? = some (.initialized RX15) := by decide +kernel
theorem sl_is : tables_1[23]? = some (.initialized "java/lang/String") := by decide +kernel
theorem sl_ip : tables_1[25]? = some (.initialized "jdk/internal/util/Preconditions") := by decide +kernel
theorem sl_it : tables_1[17]? = some (.initialized Bundle.tN) := by decide +kernel
theorem sl_al : tables_1[467]? = some (.laysStatic RX8 "ALL" "[LTarotMerchants$Sign;") := by decide +kernel
theorem sl_sw : tables_1[558]? = some (.laysStatic RX0 "$SwitchMap$TarotMerchants$Sign" "[I") := by decide +kernel
theorem sl_wo : tables_1[1596]? = some (.laysStatic RX15 "WORDS" "[Ljava/lang/String;") := by decide +kernel
theorem sl_cs : tables_1[482]? = some (.laysStatic "java/lang/String" "COMPACT_STRINGS" "Z") := by decide +kernel
theorem sl_sio : tables_1[499]? = some (.laysStatic "jdk/internal/util/Preconditions" "SIOOBE_FORMATTER" "Ljava/util/function/BiFunction;") := by decide +kernel
theorem sl_una : tables_1[911]? = some (.laysStatic Bundle.tN "UNASSIGNED_STACK" Bundle.steD) := by decide +kernel
theorem sl_sup : tables_1[913]? = some (.laysStatic Bundle.tN "SUPPRESSED_SENTINEL" Bundle.listD) := by decide +kernel
theorem sl_sr : tables_1[1599]? = some (.stringRef RX15 77 "()[];,+-*/<>=") := by decide +kernel
theorem sl_o8 : tables_1[67]? = some (.arrayOver (.object RX8)) := by decide +kernel
theorem sl_o11 : tables_1[266]? = some (.arrayOver (.object RX11)) := by decide +kernel
theorem sl_oa : tables_1[1764]? = some (.arrayOver (.array .int)) := by decide +kernel
theorem sl_ai : tables_1[81]? = some (.arrayClass .int) := by decide +kernel
theorem sl_ab : tables_1[53]? = some (.arrayClass .byte) := by decide +kernel
theorem sl_aj : tables_1[103]? = some (.arrayClass .long) := by decide +kernel
theorem sl_g0 : stF[0]? = some (.count 1) ∧ stF[1]? = some (.isRef (.arg 0)) := by decide +kernel
def zFy (K : Nat → Nat) (A : Nat → Prop) (U : State) (H : Heap) : Prop :=
  (∀ j, j < 46 → va_Z RX8 (zsgN.getD j "") "LTarotMerchants$Sign;" (.ref (K j)) A U H) ∧
  va_Z RX8 "ALL" "[LTarotMerchants$Sign;" (.ref (K 46)) A U H ∧
  va_Z RX0 "$SwitchMap$TarotMerchants$Sign" "[I" (.ref (K 47)) A U H ∧
  va_Z RX15 "WORDS" "[Ljava/lang/String;" (.ref (K 48)) A U H ∧
  (∀ j, j < 46 → va_O RX8 (K j) A U H) ∧
  (∀ j, j < 46 → va_OF "java/lang/Enum" "ordinal" "I" (.int (nI j)) (K j) A U H) ∧
  (∀ j, j < 46 → va_OF RX8 "text" "Ljava/lang/String;" (.ref (K (50 + j))) (K j) A U H) ∧
  va_T (.object RX8) (K 46) 46 (fun j => .ref (K j)) A U H ∧
  va_T .int (K 47) 46 (fun j => .int (zswm.getD j 0)) A U H ∧
  va_T (.object "java/lang/String") (K 48) 26 (fun j => .ref (K (96 + j))) A U H ∧
  (∀ i : Nat, i < 73 → va_O "java/lang/String" (K (50 + i)) A U H ∧ va_OF "java/lang/String" "coder" "B" (.int 0) (K (50 + i)) A U H ∧ va_OF "java/lang/String" "value" "[B" (.ref (K (200 + i))) (K (50 + i)) A U H ∧ va_T .byte (K (200 + i)) (zlen.getD i 0) (fun j => .int ((zbyt.getD i []).getD j 0)) A U H) ∧
  vk_R RX15 77 "()[];,+-*/<>=" (K 122) U ∧
  va_AO RX8 U ∧ va_AO RX11 U ∧ (Cond.arrayOver (.array .int)).before #[] U = true ∧
  va_Z "java/lang/String" "COMPACT_STRINGS" "Z" (.int 1) A U H ∧
  (∀ w, ZWn w → va_Nw w U)
/-- the address that a term names -/
def ea (args : Array Value) (s : State) (t : Term) : Nat := match t.eval args s none [] s with
  | some (.ref a) => a
  | _ => 0
theorem ea_of {args : Array Value} {s : State} {t : Term} {a : Nat} (h : t.eval args s none [] s = some (.ref a)) : t.eval args s none [] s = some (.ref (ea args s t)) := by
  unfold ea
  rw [h]
def zsK (args : Array Value) (s : State) (b : Nat) : Nat → Nat := fun k => if k < 46 then ea args s (sgT k) else if k = 46 then ea args s algT else if k = 47 then ea args s smT else if k = 48 then ea args s woT else if k < 123 then ea args s (txT (k - 50)) else if k < 273 then ea args s (.field (txT (k - 200)) "java/lang/String" "value" "[B") else b
section
variable {args : Array Value} {s : State} {b : Nat} {A : Nat → Prop}
theorem st_at (h : (Cond.and given_1 narrow_1).before args s = true) {i : Nat} {c : Cond} (hi : stF[i]? = some c) : c.before args s = true := flat_of_before _ h c (List.mem_of_getElem? hi)
theorem st_ref {t : Term} {nm : String} (h : (Cond.exactly t nm).before args s = true) : t.eval args s none [] s = some (.ref (ea args s t)) := by
  obtain ⟨a, c, cA, kA, q1, -⟩ := Cond.exactly_spec (args := args) (first := s) (o := none) (s := s) (idx := []) (t := t) (cls := nm) h
  exact ea_of q1
theorem va_OFin {o n d : String} {t : Nat} {i j : Nat} {U : State} {H : Heap} (hi : i < 2 ^ 31) (hj : j < 2 ^ 31) (h : va_OF o n d (.int (nI i)) t A U H) (h' : va_OF o n d (.int (nI j)) t A U H) : i = j := by
  obtain ⟨cf, k, q, f, cell, a1, a2, a3, a4, a5, a6⟩ := h
  obtain ⟨cf', k', q', f', cell', b1, b2, b3, b4, b5, b6⟩ := h'
  cases a1.symm.trans b1
  cases a3.symm.trans b3
  have e := a5.symm.trans b5
  simp only [Option.some.injEq, Value.int.injEq] at e
  exact (nI_eq hi hj).mp e
theorem zst_F (h : (Cond.and given_1 narrow_1).before args s = true) (ht : ∀ w ∈ tables_1, w.before args s = true) (hA : ∀ a : Nat, a < s.heap.size → ¬ A a) : zFy (zsK args s b) A s s.heap ∧ ∀ i j, i < 46 → j < 46 → zsK args s b i = zsK args s b j → i = j := by
  have tb : ∀ {i : Nat} {c : Cond}, tables_1[i]? = some c → c.before args s = true := fun hi => ht _ (List.mem_of_getElem? hi)
  have k1 : ∀ j, j < 46 → zsK args s b j = ea args s (sgT j) := fun j hj => if_pos hj
  have k2 : zsK args s b 46 = ea args s algT := rfl
  have k3 : zsK args s b 47 = ea args s smT := rfl
  have k4 : zsK args s b 48 = ea args s woT := rfl
  have k5 : ∀ i, i < 73 → zsK args s b (50 + i) = ea args s (txT i) := fun i hi => by
    unfold zsK
    rw [if_neg (by omega), if_neg (by omega), if_neg (by omega), if_neg (by omega), if_pos (by omega), show 50 + i - 50 = i by omega]
  have k6 : ∀ i, i < 73 → zsK args s b (200 + i) = ea args s (.field (txT i) "java/lang/String" "value" "[B") := fun i hi => by
    unfold zsK
    rw [if_neg (by omega), if_neg (by omega), if_neg (by omega), if_neg (by omega), if_neg (by omega), if_pos (by omega), show 200 + i - 200 = i by omega]
  generalize zsK args s b = K at k1 k2 k3 k4 k5 k6 ⊢
  have F1 : ∀ j, j < 46 → (sgT j).eval args s none [] s = some (.ref (K j)) := fun j hj => by
    rw [k1 j hj]
    exact st_ref (st_at h (sf_ex j hj))
  have F2 : ∀ j, j < 46 → va_OF "java/lang/Enum" "ordinal" "I" (.int (nI j)) (K j) A s s.heap := fun j hj => vk_OFof (F1 j hj) (va_eqt (st_at h (sf_ord j hj))) hA
  have F3 : ∀ i, i < 73 → (txT i).eval args s none [] s = some (.ref (K (50 + i))) := fun i hi => by
    rw [k5 i hi]
    exact st_ref (st_at h (sf_tex i hi))
  have F4 : ∀ i, i < 73 → (Term.field (txT i) "java/lang/String" "value" "[B").eval args s none [] s = some (.ref (K (200 + i))) ∧ va_T .byte (K (200 + i)) (zlen.getD i 0) (fun j => .int ((zbyt.getD i []).getD j 0)) A s s.heap := fun i hi => by
    obtain ⟨t, e1, e2⟩ := va_Tof (f := fun j => .int ((zbyt.getD i []).getD j 0)) (N := zlen.getD i 0) (A := A) (sl_len i hi) (st_at h (sf_tar i hi)) (va_eqt (st_at h (sf_tle i hi))) (fun j hj => va_eqt (st_at h (sf_tel i hi j hj))) hA
    have e3 := ea_of e1
    rw [← k6 i hi] at e3
    have e4 : t = K (200 + i) := by
      have := e1.symm.trans e3
      cases this
      rfl
    rw [← e4]
    exact ⟨e1, e2⟩
  have F6 := va_Tof (f := fun j => .ref (K j)) (N := 46) (A := A) (by omega) (st_at h sf_alar) (va_eqt (st_at h sf_allen)) (fun j hj => va_eqv (st_at h (sf_al j hj)) (F1 j hj)) hA
  have F7 := va_Tof (f := fun j => .int (zswm.getD j 0)) (N := 46) (A := A) (by omega) (st_at h sf_swar) (va_eqt (st_at h sf_swlen)) (fun j hj => va_eqt (st_at h (sf_sw j hj))) hA
  have F8 := va_Tof (f := fun j => .ref (K (96 + j))) (N := 26) (A := A) (by omega) (st_at h sf_woar) (va_eqt (st_at h sf_wolen)) (fun j hj => va_eqv (st_at h (sf_wo j hj)) (by rw [show 96 + j = 50 + (46 + j) by omega]; exact F3 (46 + j) (by omega))) hA
  obtain ⟨t6, e6, T6⟩ := F6
  obtain ⟨t7, e7, T7⟩ := F7
  obtain ⟨t8, e8, T8⟩ := F8
  have g6 : t6 = K 46 := by
    have := (ea_of e6).symm.trans e6
    rw [k2]; cases this; rfl
  have g7 : t7 = K 47 := by
    have := (ea_of e7).symm.trans e7
    rw [k3]; cases this; rfl
  have g8 : t8 = K 48 := by
    have := (ea_of e8).symm.trans e8
    rw [k4]; cases this; rfl
  rw [g6] at e6 T6
  rw [g7] at e7 T7
  rw [g8] at e8 T8
  refine ⟨⟨fun j hj => va_Zref (tb (sl_sg j hj)) (tb sl_i8) (F1 j hj) hA, va_Zref (tb sl_al) (tb sl_i8) e6 hA, va_Zref (tb sl_sw) (tb sl_i0) e7 hA, va_Zref (tb sl_wo) (tb sl_i15) e8 hA, fun j hj => va_Oof (st_at h (sf_ex j hj)) (F1 j hj) hA, F2, fun j hj => vk_OFof (F1 j hj) (va_eqv (st_at h (sf_tx j hj)) (F3 j (by omega))) hA, T6, T7, T8, fun i hi => ⟨va_Oof (st_at h (sf_tex i hi)) (F3 i hi) hA, vk_OFof (F3 i hi) (va_eqt (st_at h (sf_tco i hi))) hA, vk_OFof (F3 i hi) (F4 i hi).1 hA, (F4 i hi).2⟩, vk_R.of (A := args) (tb sl_sr) ?_, va_AO.of (tb sl_o8), va_AO.of (tb sl_o11), (show (Cond.arrayOver (.array .int)).before #[] s = true from tb sl_oa), va_Zof (tb sl_cs) (tb sl_is) (va_eqi (st_at h sf_cs)) hA, fun w hw => ?_⟩, fun i j hi hj e => ?_⟩
  · exact F3 72 (by omega)
  · obtain ⟨h1, h2⟩ := List.mem_filter.mp hw
    cases w <;> first | exact va_Nw.of rfl (ht _ h1) | cases h2
  · have f2 := F2 j hj
    rw [← e] at f2
    exact va_OFin (by omega) (by omega) (F2 i hi) f2
end
