/-! THROWS: 'throw new E("..")' at its places -/
theorem sc_Pinv {m : Nat} {M : sm_M} (h : sc_P m = some M) : ∃ l, sb_alls[m / 40]? = some l ∧ l[m % 40]? = some M := by
  unfold sc_P at h
  split at h
  · next l hl => exact ⟨l, hl, h⟩
  · cases h
def sc_ex : List Cond := [.laysStatic "java/lang/Throwable" "UNASSIGNED_STACK" "[Ljava/lang/StackTraceElement;", .laysStatic "java/lang/Throwable" "SUPPRESSED_SENTINEL" "Ljava/util/List;", .declares ⟨"java/lang/RuntimeException", "<init>", "(Ljava/lang/String;)V"⟩, .declares ⟨"java/lang/Exception", "<init>", "(Ljava/lang/String;)V"⟩, .declares ⟨"java/lang/Throwable", "<init>", "(Ljava/lang/String;)V"⟩, .castable "java/lang/IndexOutOfBoundsException" "java/lang/IndexOutOfBoundsException", .isRef (.static "java/lang/Throwable" "UNASSIGNED_STACK" "[Ljava/lang/StackTraceElement;"), .isRef (.static "java/lang/Throwable" "SUPPRESSED_SENTINEL" "Ljava/util/List;"), .castable "java/lang/IllegalArgumentException" "java/lang/IllegalArgumentException", .castable "java/lang/IllegalStateException" "java/lang/IllegalStateException", .castable "java/lang/UnsupportedOperationException" "java/lang/UnsupportedOperationException", .castable "java/util/NoSuchElementException" "java/util/NoSuchElementException"]
set_option maxRecDepth 20000 in
theorem se_0 : ∀ a ∈ Bundle.ownAtoms "TwoWayGrammar" 130 "java/lang/IllegalArgumentException" ["java/lang/RuntimeException", "java/lang/Exception"], a ∈ sc_Ts ∨ a ∈ sc_ex := sm_orMem [113, 1038, 1047, 1053, 1056, 1058, 1039, 1040, 133, 134, 1041, 1046, 1054, 1074, 1028, 1075, 1030, 1076, 1032, 1042, 0, 1044, 0, 1034, 1070, 1071, 1073, 1034, 1117, 1118, 1119, 1064, 0, 1064, 1065, 1066, 1067, 0, 1067, 1068, 1069, 1070, 0, 1116, 1107, 0, 1109, 1049, 1110, 1111, 1112, 1113, 0, 0, 1037, 1036, 1114] (by decide +kernel) (by decide +kernel)
set_option maxRecDepth 20000 in
theorem se_1 : ∀ a ∈ Bundle.ownAtoms "TwoWayGrammar" 161 "java/lang/IllegalStateException" ["java/lang/RuntimeException", "java/lang/Exception"], a ∈ sc_Ts ∨ a ∈ sc_ex := sm_orMem [113, 1038, 1047, 1053, 1056, 1058, 1039, 1040, 133, 134, 1041, 1046, 1054, 1074, 1028, 1075, 1030, 1076, 1032, 1042, 0, 1044, 0, 1034, 1070, 1071, 1073, 1034, 1148, 1149, 1150, 1064, 0, 1064, 1065, 1066, 1067, 0, 1067, 1068, 1069, 1070, 0, 1147, 1138, 0, 1140, 1050, 1141, 1142, 1143, 1144, 0, 0, 1037, 1036, 1145] (by decide +kernel) (by decide +kernel)
set_option maxRecDepth 20000 in
theorem se_2 : ∀ a ∈ Bundle.ownAtoms "TwoWayGrammar" 108 "java/lang/IndexOutOfBoundsException" ["java/lang/RuntimeException", "java/lang/Exception"], a ∈ sc_Ts ∨ a ∈ sc_ex := sm_orMem [113, 1038, 1047, 1053, 1056, 1058, 1039, 1040, 133, 134, 1041, 1046, 1054, 1074, 1028, 1075, 1030, 1076, 1032, 1042, 0, 1044, 0, 1034, 1070, 1071, 1073, 1034, 1061, 1062, 1063, 1064, 0, 1064, 1065, 1066, 1067, 0, 1067, 1068, 1069, 1070, 0, 1060, 1017, 0, 1025, 1026, 1027, 1029, 1031, 1033, 0, 0, 1037, 1036, 1035] (by decide +kernel) (by decide +kernel)
set_option maxRecDepth 20000 in
theorem se_3 : ∀ a ∈ Bundle.ownAtoms "TwoWayGrammar" 210 "java/lang/UnsupportedOperationException" ["java/lang/RuntimeException", "java/lang/Exception"], a ∈ sc_Ts ∨ a ∈ sc_ex := sm_orMem [113, 1038, 1047, 1053, 1056, 1058, 1039, 1040, 133, 134, 1041, 1046, 1054, 1074, 1028, 1075, 1030, 1076, 1032, 1042, 0, 1044, 0, 1034, 1070, 1071, 1073, 1034, 1448, 1449, 1450, 1064, 0, 1064, 1065, 1066, 1067, 0, 1067, 1068, 1069, 1070, 0, 1447, 1438, 0, 1440, 1051, 1441, 1442, 1443, 1444, 0, 0, 1037, 1036, 1445] (by decide +kernel) (by decide +kernel)
set_option maxRecDepth 20000 in
theorem se_4 : ∀ a ∈ sm_odd "TwoWayGrammar" 233 "java/util/NoSuchElementException" "java/lang/RuntimeException" 13 prog_28_method_4_code ["java/lang/Exception"], a ∈ sc_Ts ∨ a ∈ sc_ex := sm_orMem [113, 1038, 1047, 1053, 1056, 1058, 1039, 1040, 133, 134, 1041, 1046, 1054, 1074, 1028, 1075, 1030, 1076, 1032, 1042, 0, 1044, 0, 1034, 1070, 1071, 1073, 1034, 1487, 1488, 1489, 1064, 0, 1064, 1065, 1066, 1067, 0, 1067, 1068, 1069, 1070, 0, 1486, 1477, 0, 1479, 1052, 1480, 1481, 1482, 1483, 0, 0, 1037, 1036, 1484] (by decide +kernel) (by decide +kernel)
set_option maxRecDepth 20000 in
theorem st_0 : sm_okT sc_Ts sc_sx sc_ex sc_cl "TwoWayGrammar" prog_1_method_2_code 9 104 12 := ⟨"java/lang/IndexOutOfBoundsException", "no such text", sc_T12, 106, 108, 9, 15, ["java/lang/RuntimeException", "java/lang/Exception"], rfl, sm_mem 1016 (by decide +kernel), sm_mem 1017 (by decide +kernel), sm_mem 116 (by decide +kernel), by decide +kernel, by decide +kernel, by decide, Or.inl se_2, sc_sx_mem 8 (by decide +kernel), by decide +kernel, Or.inl ⟨by decide +kernel, rfl⟩, by decide +kernel, by decide +kernel⟩
set_option maxRecDepth 20000 in
theorem st_1 : sm_okT sc_Ts sc_sx sc_ex sc_cl "TwoWayGrammar" prog_1_method_3_code 9 104 12 := ⟨"java/lang/IndexOutOfBoundsException", "no such text", sc_T12, 106, 108, 9, 15, ["java/lang/RuntimeException", "java/lang/Exception"], rfl, sm_mem 1016 (by decide +kernel), sm_mem 1017 (by decide +kernel), sm_mem 116 (by decide +kernel), by decide +kernel, by decide +kernel, by decide, Or.inl se_2, sc_sx_mem 8 (by decide +kernel), by decide +kernel, Or.inl ⟨by decide +kernel, rfl⟩, by decide +kernel, by decide +kernel⟩
set_option maxRecDepth 20000 in
theorem st_2 : sm_okT sc_Ts sc_sx sc_ex sc_cl "TwoWayGrammar" prog_1_method_4_code 9 126 13 := ⟨"java/lang/IllegalArgumentException", "no such sample", sc_T13, 128, 130, 10, 15, ["java/lang/RuntimeException", "java/lang/Exception"], rfl, sm_mem 1106 (by decide +kernel), sm_mem 1107 (by decide +kernel), sm_mem 117 (by decide +kernel), by decide +kernel, by decide +kernel, by decide, Or.inl se_0, sc_sx_mem 9 (by decide +kernel), by decide +kernel, Or.inl ⟨by decide +kernel, rfl⟩, by decide +kernel, by decide +kernel⟩
set_option maxRecDepth 20000 in
theorem st_3 : sm_okT sc_Ts sc_sx sc_ex sc_cl "TwoWayGrammar" prog_1_method_6_code 7 157 14 := ⟨"java/lang/IllegalStateException", "no description that can be read", sc_T14, 159, 161, 14, 13, ["java/lang/RuntimeException", "java/lang/Exception"], rfl, sm_mem 1137 (by decide +kernel), sm_mem 1138 (by decide +kernel), sm_mem 123 (by decide +kernel), by decide +kernel, by decide +kernel, by decide, Or.inl se_1, sc_sx_mem 13 (by decide +kernel), by decide +kernel, Or.inl ⟨by decide +kernel, rfl⟩, by decide +kernel, by decide +kernel⟩
set_option maxRecDepth 20000 in
theorem st_4 : sm_okT sc_Ts sc_sx sc_ex sc_cl "TwoWayGrammar" prog_1_method_6_code 32 104 12 := ⟨"java/lang/IndexOutOfBoundsException", "no such rule", sc_T12, 166, 108, 15, 38, ["java/lang/RuntimeException", "java/lang/Exception"], rfl, sm_mem 1016 (by decide +kernel), sm_mem 1017 (by decide +kernel), sm_mem 116 (by decide +kernel), by decide +kernel, by decide +kernel, by decide, Or.inl se_2, sc_sx_mem 14 (by decide +kernel), by decide +kernel, Or.inl ⟨by decide +kernel, rfl⟩, by decide +kernel, by decide +kernel⟩
set_option maxRecDepth 20000 in
theorem st_5 : sm_okT sc_Ts sc_sx sc_ex sc_cl "TwoWayGrammar" prog_1_method_6_code 136 126 13 := ⟨"java/lang/IllegalArgumentException", "nothing that a rule has", sc_T13, 196, 130, 16, 142, ["java/lang/RuntimeException", "java/lang/Exception"], rfl, sm_mem 1106 (by decide +kernel), sm_mem 1107 (by decide +kernel), sm_mem 117 (by decide +kernel), by decide +kernel, by decide +kernel, by decide, Or.inl se_0, sc_sx_mem 15 (by decide +kernel), by decide +kernel, Or.inl ⟨by decide +kernel, rfl⟩, by decide +kernel, by decide +kernel⟩
set_option maxRecDepth 20000 in
theorem st_6 : sm_okT sc_Ts sc_sx sc_ex sc_cl "TwoWayGrammar" prog_1_method_7_code 7 157 14 := ⟨"java/lang/IllegalStateException", "no good description", sc_T14, 198, 161, 17, 13, ["java/lang/RuntimeException", "java/lang/Exception"], rfl, sm_mem 1137 (by decide +kernel), sm_mem 1138 (by decide +kernel), sm_mem 123 (by decide +kernel), by decide +kernel, by decide +kernel, by decide, Or.inl se_1, sc_sx_mem 16 (by decide +kernel), by decide +kernel, Or.inl ⟨by decide +kernel, rfl⟩, by decide +kernel, by decide +kernel⟩
set_option maxRecDepth 20000 in
theorem st_7 : sm_okT sc_Ts sc_sx sc_ex sc_cl "TwoWayGrammar" prog_1_method_7_code 34 206 15 := ⟨"java/lang/UnsupportedOperationException", "too many nodes or uses", sc_T15, 208, 210, 18, 40, ["java/lang/RuntimeException", "java/lang/Exception"], rfl, sm_mem 1437 (by decide +kernel), sm_mem 1438 (by decide +kernel), sm_mem 124 (by decide +kernel), by decide +kernel, by decide +kernel, by decide, Or.inl se_3, sc_sx_mem 17 (by decide +kernel), by decide +kernel, Or.inl ⟨by decide +kernel, rfl⟩, by decide +kernel, by decide +kernel⟩
set_option maxRecDepth 20000 in
theorem st_8 : sm_okT sc_Ts sc_sx sc_ex sc_cl "TwoWayGrammar" prog_1_method_8_code 10 126 13 := ⟨"java/lang/IllegalArgumentException", "no such fuel", sc_T13, 221, 130, 19, 16, ["java/lang/RuntimeException", "java/lang/Exception"], rfl, sm_mem 1106 (by decide +kernel), sm_mem 1107 (by decide +kernel), sm_mem 117 (by decide +kernel), by decide +kernel, by decide +kernel, by decide, Or.inl se_0, sc_sx_mem 18 (by decide +kernel), by decide +kernel, Or.inl ⟨by decide +kernel, rfl⟩, by decide +kernel, by decide +kernel⟩
set_option maxRecDepth 20000 in
theorem st_9 : sm_okT sc_Ts sc_sx sc_ex sc_cl "TwoWayGrammar" prog_1_method_8_code 27 157 14 := ⟨"java/lang/IllegalStateException", "no good description", sc_T14, 198, 161, 17, 33, ["java/lang/RuntimeException", "java/lang/Exception"], rfl, sm_mem 1137 (by decide +kernel), sm_mem 1138 (by decide +kernel), sm_mem 123 (by decide +kernel), by decide +kernel, by decide +kernel, by decide, Or.inl se_1, sc_sx_mem 16 (by decide +kernel), by decide +kernel, Or.inl ⟨by decide +kernel, rfl⟩, by decide +kernel, by decide +kernel⟩
set_option maxRecDepth 20000 in
theorem st_10 : sm_okT sc_Ts sc_sx sc_ex sc_cl "TwoWayGrammar" prog_1_method_8_code 63 206 15 := ⟨"java/lang/UnsupportedOperationException", "too many nodes or uses", sc_T15, 208, 210, 18, 69, ["java/lang/RuntimeException", "java/lang/Exception"], rfl, sm_mem 1437 (by decide +kernel), sm_mem 1438 (by decide +kernel), sm_mem 124 (by decide +kernel), by decide +kernel, by decide +kernel, by decide, Or.inl se_3, sc_sx_mem 17 (by decide +kernel), by decide +kernel, Or.inl ⟨by decide +kernel, rfl⟩, by decide +kernel, by decide +kernel⟩
set_option maxRecDepth 20000 in
theorem st_11 : sm_okT sc_Ts sc_sx sc_ex sc_cl "TwoWayGrammar" prog_1_method_9_code 15 229 16 := ⟨"java/util/NoSuchElementException", "no such node", sc_T16, 231, 233, 20, 21, ["java/lang/RuntimeException", "java/lang/Exception"], rfl, sm_mem 1476 (by decide +kernel), sm_mem 1477 (by decide +kernel), sm_mem 125 (by decide +kernel), by decide +kernel, by decide +kernel, by decide, Or.inr ⟨"java/lang/RuntimeException", ["java/lang/Exception"], 13, prog_28_method_4_code, rfl, by decide +kernel, by decide +kernel, by decide +kernel, by decide +kernel, se_4⟩, sc_sx_mem 19 (by decide +kernel), by decide +kernel, Or.inl ⟨by decide +kernel, rfl⟩, by decide +kernel, by decide +kernel⟩
set_option maxRecDepth 20000 in
theorem st_12 : sm_okT sc_Ts sc_sx sc_ex sc_cl "TwoWayGrammar" prog_1_method_9_code 105 126 13 := ⟨"java/lang/IllegalArgumentException", "nothing that a node has", sc_T13, 246, 130, 21, 111, ["java/lang/RuntimeException", "java/lang/Exception"], rfl, sm_mem 1106 (by decide +kernel), sm_mem 1107 (by decide +kernel), sm_mem 117 (by decide +kernel), by decide +kernel, by decide +kernel, by decide, Or.inl se_0, sc_sx_mem 20 (by decide +kernel), by decide +kernel, Or.inl ⟨by decide +kernel, rfl⟩, by decide +kernel, by decide +kernel⟩
set_option maxRecDepth 20000 in
theorem st_13 : sm_okT sc_Ts sc_sx sc_ex sc_cl "TwoWayGrammar" prog_1_method_10_code 15 229 16 := ⟨"java/util/NoSuchElementException", "no such node", sc_T16, 231, 233, 20, 21, ["java/lang/RuntimeException", "java/lang/Exception"], rfl, sm_mem 1476 (by decide +kernel), sm_mem 1477 (by decide +kernel), sm_mem 125 (by decide +kernel), by decide +kernel, by decide +kernel, by decide, Or.inr ⟨"java/lang/RuntimeException", ["java/lang/Exception"], 13, prog_28_method_4_code, rfl, by decide +kernel, by decide +kernel, by decide +kernel, by decide +kernel, se_4⟩, sc_sx_mem 19 (by decide +kernel), by decide +kernel, Or.inl ⟨by decide +kernel, rfl⟩, by decide +kernel, by decide +kernel⟩
set_option maxRecDepth 20000 in
theorem st_14 : sm_okT sc_Ts sc_sx sc_ex sc_cl "TwoWayGrammar" prog_1_method_11_code 10 157 14 := ⟨"java/lang/IllegalStateException", "no tree", sc_T14, 261, 161, 22, 17, ["java/lang/RuntimeException", "java/lang/Exception"], rfl, sm_mem 1137 (by decide +kernel), sm_mem 1138 (by decide +kernel), sm_mem 123 (by decide +kernel), by decide +kernel, by decide +kernel, by decide, Or.inl se_1, sc_sx_mem 21 (by decide +kernel), by decide +kernel, Or.inr ⟨by decide +kernel, rfl⟩, by decide +kernel, by decide +kernel⟩
set_option maxRecDepth 20000 in
theorem st_15 : sm_okT sc_Ts sc_sx sc_ex sc_cl "TwoWayGrammar" prog_1_method_11_code 38 206 15 := ⟨"java/lang/UnsupportedOperationException", "too many characters", sc_T15, 267, 210, 23, 45, ["java/lang/RuntimeException", "java/lang/Exception"], rfl, sm_mem 1437 (by decide +kernel), sm_mem 1438 (by decide +kernel), sm_mem 124 (by decide +kernel), by decide +kernel, by decide +kernel, by decide, Or.inl se_3, sc_sx_mem 22 (by decide +kernel), by decide +kernel, Or.inr ⟨by decide +kernel, rfl⟩, by decide +kernel, by decide +kernel⟩
set_option maxRecDepth 20000 in
theorem st_16 : sm_okT sc_Ts sc_sx sc_ex sc_cl "TwoWayGrammar" prog_1_method_12_code 15 104 12 := ⟨"java/lang/IndexOutOfBoundsException", "no such character", sc_T12, 271, 108, 24, 22, ["java/lang/RuntimeException", "java/lang/Exception"], rfl, sm_mem 1016 (by decide +kernel), sm_mem 1017 (by decide +kernel), sm_mem 116 (by decide +kernel), by decide +kernel, by decide +kernel, by decide, Or.inl se_2, sc_sx_mem 23 (by decide +kernel), by decide +kernel, Or.inr ⟨by decide +kernel, rfl⟩, by decide +kernel, by decide +kernel⟩
set_option maxRecDepth 20000 in
theorem st_17 : sm_okT sc_Ts sc_sx sc_ex sc_cl "TwoWayGrammar" prog_1_method_15_code 20 157 14 := ⟨"java/lang/IllegalStateException", "not two trees", sc_T14, 276, 161, 25, 27, ["java/lang/RuntimeException", "java/lang/Exception"], rfl, sm_mem 1137 (by decide +kernel), sm_mem 1138 (by decide +kernel), sm_mem 123 (by decide +kernel), by decide +kernel, by decide +kernel, by decide, Or.inl se_1, sc_sx_mem 24 (by decide +kernel), by decide +kernel, Or.inr ⟨by decide +kernel, rfl⟩, by decide +kernel, by decide +kernel⟩
def sc_sites : List ((Nat × Nat × Nat) × Nat) := [((95, 9, 12), 104), ((97, 9, 12), 104), ((98, 9, 13), 126), ((100, 7, 14), 157), ((100, 32, 12), 104), ((100, 136, 13), 126), ((102, 7, 14), 157), ((102, 34, 15), 206), ((158, 10, 13), 126), ((158, 27, 14), 157), ((158, 63, 15), 206), ((160, 15, 16), 229), ((160, 105, 13), 126), ((162, 15, 16), 229), ((164, 10, 14), 157), ((164, 38, 15), 206), ((165, 15, 12), 104), ((166, 20, 14), 157)]
theorem sc_sitesOk : ∀ z ∈ sc_sites, sm_okT sc_Ts sc_sx sc_ex sc_cl (sc_Y z.1.1).1.cls (sc_Y z.1.1).2.1 z.1.2.1 z.2 z.1.2.2 :=
  List.forall_mem_cons.mpr ⟨st_0,
  List.forall_mem_cons.mpr ⟨st_1,
  List.forall_mem_cons.mpr ⟨st_2,
  List.forall_mem_cons.mpr ⟨st_3,
  List.forall_mem_cons.mpr ⟨st_4,
  List.forall_mem_cons.mpr ⟨st_5,
  List.forall_mem_cons.mpr ⟨st_6,
  List.forall_mem_cons.mpr ⟨st_7,
  List.forall_mem_cons.mpr ⟨st_8,
  List.forall_mem_cons.mpr ⟨st_9,
  List.forall_mem_cons.mpr ⟨st_10,
  List.forall_mem_cons.mpr ⟨st_11,
  List.forall_mem_cons.mpr ⟨st_12,
  List.forall_mem_cons.mpr ⟨st_13,
  List.forall_mem_cons.mpr ⟨st_14,
  List.forall_mem_cons.mpr ⟨st_15,
  List.forall_mem_cons.mpr ⟨st_16,
  List.forall_mem_cons.mpr ⟨st_17,
  fun _ h => absurd h List.not_mem_nil⟩⟩⟩⟩⟩⟩⟩⟩⟩⟩⟩⟩⟩⟩⟩⟩⟩⟩
theorem sc_goodT : sm_GoodT sc_Ts sc_sx sc_ex sc_cl sc_Y sc_P := by
  intro mi M pc q x h1 h2 h3
  obtain ⟨l, hl, hm0⟩ := sc_Pinv h1
  have hm := sm_thrs_mem hl hm0 h2 h3
  rw [show 40 * (mi / 40) + mi % 40 = mi by omega] at hm
  have hall : (sm_thrs sb_alls).all (fun z => sc_sites.any (fun w => decide (w.1 = z))) = true := by decide +kernel
  obtain ⟨w, hw, he⟩ := List.any_eq_true.mp (List.all_eq_true.mp hall _ hm)
  have he := of_decide_eq_true he
  have hix : (sc_sites.all (fun w => ((sc_P w.1.1).any (fun M => M.2.2[w.1.2.1]?.any (fun o => o.any (fun q => decide (q.1 = .new w.2))))))) = true := by decide +kernel
  have hx := List.all_eq_true.mp hix _ hw
  rw [he] at hx
  dsimp only at hx
  rw [h1] at hx
  simp only [Option.any_some] at hx
  rw [h2] at hx
  simp only [Option.any_some, decide_eq_true_eq] at hx
  have hk := sc_sitesOk w hw
  rw [he] at hk
  exact ⟨w.2, hx, hk⟩
