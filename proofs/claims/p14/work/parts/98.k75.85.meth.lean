set_option maxRecDepth 20000 in
theorem sk_87 {K : sm_H} (hK : sc_KOk K) : sm_okM sc_Ts sc_sx sc_zx sc_oc K sc_cl sc_Y 87 (8, 0, sb_87) :=
  sm_okM_of (pool := sp_21) (⟨"TwoWayGrammar$Checks", "checkChoice", "(I)V"⟩, prog_2_method_6_code, none) (by rfl) (sm_memf 974 rfl rfl) (by decide +kernel) ⟨by decide, by decide⟩ (by decide) (Or.inl ⟨rfl, rfl⟩) (by decide +kernel) (sp_ok_21 hK _)
set_option maxRecDepth 20000 in
theorem sk_88 {K : sm_H} (hK : sc_KOk K) : sm_okM sc_Ts sc_sx sc_zx sc_oc K sc_cl sc_Y 88 (1, 1, sb_88) :=
  sm_okM_of (pool := sp_12) (⟨"TwoWayGrammar", "carry", "()I"⟩, prog_1_method_13_code, (some (.int))) (by rfl) (sm_memf 979 rfl rfl) (by decide +kernel) ⟨by decide, by decide⟩ (by decide) (Or.inr (Or.inl ⟨rfl, rfl⟩)) (by decide +kernel) (sp_ok_12 hK _)
set_option maxRecDepth 20000 in
theorem sk_89 {K : sm_H} (hK : sc_KOk K) : sm_okM sc_Ts sc_sx sc_zx sc_oc K sc_cl sc_Y 89 (3, 0, sb_89) :=
  sm_okM_of (pool := sp_17) (⟨"TwoWayGrammar$Text", "takeOver", "(LTwoWayGrammar$Text;)V"⟩, prog_9_method_7_code, none) (by rfl) (sm_memf 983 rfl rfl) (by decide +kernel) ⟨by decide, by decide⟩ (by decide) (Or.inl ⟨rfl, rfl⟩) (by decide +kernel) (sp_ok_17 hK _)
set_option maxRecDepth 20000 in
theorem sk_90 {K : sm_H} (hK : sc_KOk K) : sm_okM sc_Ts sc_sx sc_zx sc_oc K sc_cl sc_Y 90 (1, 0, sb_90) :=
  sm_okM_of (pool := sp_17) (⟨"TwoWayGrammar$Text", "drop", "()V"⟩, prog_9_method_4_code, none) (by rfl) (sm_memf 987 rfl rfl) (by decide +kernel) ⟨by decide, by decide⟩ (by decide) (Or.inl ⟨rfl, rfl⟩) (by decide +kernel) (sp_ok_17 hK _)
set_option maxRecDepth 20000 in
theorem sk_91 {K : sm_H} (hK : sc_KOk K) : sm_okM sc_Ts sc_sx sc_zx sc_oc K sc_cl sc_Y 91 (3, 4, sb_91) :=
  sm_okM_of (pool := sp_17) (⟨"TwoWayGrammar$Text", "append", "(C)Z"⟩, prog_9_method_5_code, (some (.boolean))) (by rfl) (sm_memf 992 rfl rfl) (by decide +kernel) ⟨by decide, by decide⟩ (by decide) (Or.inr (Or.inr (Or.inr (Or.inr (Or.inl ⟨rfl, rfl⟩))))) (by decide +kernel) (sp_ok_17 hK _)
set_option maxRecDepth 20000 in
theorem sk_92 {K : sm_H} (hK : sc_KOk K) : sm_okM sc_Ts sc_sx sc_zx sc_oc K sc_cl sc_Y 92 (1, 4, sb_92) :=
  sm_okM_of (pool := sp_12) (⟨"TwoWayGrammar", "keep", "()Z"⟩, prog_1_method_14_code, (some (.boolean))) (by rfl) (sm_memf 997 rfl rfl) (by decide +kernel) ⟨by decide, by decide⟩ (by decide) (Or.inr (Or.inr (Or.inr (Or.inr (Or.inl ⟨rfl, rfl⟩))))) (by decide +kernel) (sp_ok_12 hK _)
set_option maxRecDepth 20000 in
theorem sk_93 {K : sm_H} (hK : sc_KOk K) : sm_okM sc_Ts sc_sx sc_zx sc_oc K sc_cl sc_Y 93 (3, 0, sb_93) :=
  sm_okM_of (pool := sp_13) (⟨"TwoWayGrammar$Tree", "takeOver", "(LTwoWayGrammar$Tree;)V"⟩, prog_11_method_10_code, none) (by rfl) (sm_memf 1001 rfl rfl) (by decide +kernel) ⟨by decide, by decide⟩ (by decide) (Or.inl ⟨rfl, rfl⟩) (by decide +kernel) (sp_ok_13 hK _)
set_option maxRecDepth 20000 in
theorem sk_94 {K : sm_H} (hK : sc_KOk K) : sm_okM sc_Ts sc_sx sc_zx sc_oc K sc_cl sc_Y 94 (2, 1, sb_94) :=
  sm_okM_of (pool := sp_12) (⟨"TwoWayGrammar", "count", "(I)I"⟩, prog_1_method_16_code, (some (.int))) (by rfl) (sm_memf 1007 rfl rfl) (by decide +kernel) ⟨by decide, by decide⟩ (by decide) (Or.inr (Or.inl ⟨rfl, rfl⟩)) (by decide +kernel) (sp_ok_12 hK _)
set_option maxRecDepth 20000 in
theorem sk_95 {K : sm_H} (hK : sc_KOk K) : sm_okM sc_Ts sc_sx sc_zx sc_oc K sc_cl sc_Y 95 (3, 4, sb_95) :=
  sm_okM_of (pool := sp_12) (⟨"TwoWayGrammar", "type", "(IC)Z"⟩, prog_1_method_2_code, (some (.boolean))) (by rfl) (sm_memf 1015 rfl rfl) (by decide +kernel) ⟨by decide, by decide⟩ (by decide) (Or.inr (Or.inr (Or.inr (Or.inr (Or.inl ⟨rfl, rfl⟩))))) (by decide +kernel) (sp_ok_12 hK _)
set_option maxRecDepth 20000 in
theorem sk_96 {K : sm_H} (hK : sc_KOk K) : sm_okM sc_Ts sc_sx sc_zx sc_oc K sc_cl sc_Y 96 (2, 3, sb_96) :=
  sm_okM_of (pool := sp_12) (⟨"TwoWayGrammar", "text", "(I)LTwoWayGrammar$Text;"⟩, prog_1_method_17_code, (some (.object "TwoWayGrammar$Text"))) (by rfl) (sm_memf 1088 rfl rfl) (by decide +kernel) ⟨by decide, by decide⟩ (by decide) (Or.inr (Or.inr (Or.inr (Or.inl ⟨rfl, Or.inl ⟨_, rfl⟩⟩)))) (by decide +kernel) (sp_ok_12 hK _)
set_option maxRecDepth 20000 in
theorem sk_97 {K : sm_H} (hK : sc_KOk K) : sm_okM sc_Ts sc_sx sc_zx sc_oc K sc_cl sc_Y 97 (3, 1, sb_97) :=
  sm_okM_of (pool := sp_12) (⟨"TwoWayGrammar", "clear", "(I)I"⟩, prog_1_method_3_code, (some (.int))) (by rfl) (sm_memf 1096 rfl rfl) (by decide +kernel) ⟨by decide, by decide⟩ (by decide) (Or.inr (Or.inl ⟨rfl, rfl⟩)) (by decide +kernel) (sp_ok_12 hK _)
set_option maxRecDepth 20000 in
theorem sk_98 {K : sm_H} (hK : sc_KOk K) : sm_okM sc_Ts sc_sx sc_zx sc_oc K sc_cl sc_Y 98 (2, 1, sb_98) :=
  sm_okM_of (pool := sp_12) (⟨"TwoWayGrammar", "sample", "(I)I"⟩, prog_1_method_4_code, (some (.int))) (by rfl) (sm_memf 1105 rfl rfl) (by decide +kernel) ⟨by decide, by decide⟩ (by decide) (Or.inr (Or.inl ⟨rfl, rfl⟩)) (by decide +kernel) (sp_ok_12 hK _)
set_option maxRecDepth 20000 in
theorem sk_99 {K : sm_H} (hK : sc_KOk K) : sm_okM sc_Ts sc_sx sc_zx sc_oc K sc_cl sc_Y 99 (3, 0, sb_99) :=
  sm_okM_of (pool := sp_17) (⟨"TwoWayGrammar$Text", "appendAll", "(Ljava/lang/String;)V"⟩, prog_9_method_6_code, none) (by rfl) (sm_memf 1128 rfl rfl) (by decide +kernel) ⟨by decide, by decide⟩ (by decide) (Or.inl ⟨rfl, rfl⟩) (by decide +kernel) (sp_ok_17 hK _)
set_option maxRecDepth 20000 in
theorem sk_100 {K : sm_H} (hK : sc_KOk K) : sm_okM sc_Ts sc_sx sc_zx sc_oc K sc_cl sc_Y 100 (3, 2, sb_100) :=
  sm_okM_of (pool := sp_12) (⟨"TwoWayGrammar", "rule", "(II)J"⟩, prog_1_method_6_code, (some (.long))) (by rfl) (sm_memf 1136 rfl rfl) (by decide +kernel) ⟨by decide, by decide⟩ (by decide) (Or.inr (Or.inr (Or.inl ⟨rfl, rfl⟩))) (by decide +kernel) (sp_ok_12 hK _)
set_option maxRecDepth 20000 in
theorem sk_101 {K : sm_H} (hK : sc_KOk K) : sm_okM sc_Ts sc_sx sc_zx sc_oc K sc_cl sc_Y 101 (2, 1, sb_101) :=
  sm_okM_of (pool := sp_20) (⟨"TwoWayGrammar$Sets", "ruleHeight", "(I)I"⟩, prog_8_method_4_code, (some (.int))) (by rfl) (sm_memf 1160 rfl rfl) (by decide +kernel) ⟨by decide, by decide⟩ (by decide) (Or.inr (Or.inl ⟨rfl, rfl⟩)) (by decide +kernel) (sp_ok_20 hK _)
set_option maxRecDepth 20000 in
theorem sk_102 {K : sm_H} (hK : sc_KOk K) : sm_okM sc_Ts sc_sx sc_zx sc_oc K sc_cl sc_Y 102 (1, 1, sb_102) :=
  sm_okM_of (pool := sp_12) (⟨"TwoWayGrammar", "parse", "()I"⟩, prog_1_method_7_code, (some (.int))) (by rfl) (sm_memf 1170 rfl rfl) (by decide +kernel) ⟨by decide, by decide⟩ (by decide) (Or.inr (Or.inl ⟨rfl, rfl⟩)) (by decide +kernel) (sp_ok_12 hK _)
set_option maxRecDepth 20000 in
theorem sk_103 {K : sm_H} (hK : sc_KOk K) : sm_okM sc_Ts sc_sx sc_zx sc_oc K sc_cl sc_Y 103 (1, 0, sb_103) :=
  sm_okM_of (pool := sp_22) (⟨"TwoWayGrammar$Walk", "walk", "()V"⟩, prog_12_method_14_code, none) (by rfl) (sm_memf 1177 rfl rfl) (by decide +kernel) ⟨by decide, by decide⟩ (by decide) (Or.inl ⟨rfl, rfl⟩) (by decide +kernel) (sp_ok_22 hK _)
set_option maxRecDepth 20000 in
theorem sk_104 {K : sm_H} (hK : sc_KOk K) : sm_okM sc_Ts sc_sx sc_zx sc_oc K sc_cl sc_Y 104 (1, 0, sb_104) :=
  sm_okM_of (pool := sp_23) (⟨"TwoWayGrammar$Growing", "begin", "()V"⟩, prog_4_method_3_code, none) (by rfl) (sm_memf 1183 rfl rfl) (by decide +kernel) ⟨by decide, by decide⟩ (by decide) (Or.inl ⟨rfl, rfl⟩) (by decide +kernel) (sp_ok_23 hK _)
set_option maxRecDepth 20000 in
theorem sk_105 {K : sm_H} (hK : sc_KOk K) : sm_okM sc_Ts sc_sx sc_zx sc_oc K sc_cl sc_Y 105 (1, 0, sb_105) :=
  sm_okM_of (pool := sp_24) (⟨"TwoWayGrammar$Parsing", "begin", "()V"⟩, prog_5_method_2_code, none) (by rfl) (sm_memf 1187 rfl rfl) (by decide +kernel) ⟨by decide, by decide⟩ (by decide) (Or.inl ⟨rfl, rfl⟩) (by decide +kernel) (sp_ok_24 hK _)
set_option maxRecDepth 20000 in
theorem sk_106 {K : sm_H} (hK : sc_KOk K) : sm_okM sc_Ts sc_sx sc_zx sc_oc K sc_cl sc_Y 106 (2, 0, sb_106) :=
  sm_okM_of (pool := sp_24) (⟨"TwoWayGrammar$Parsing", "takeToken", "()V"⟩, prog_5_method_5_code, none) (by rfl) (sm_memf 1192 rfl rfl) (by decide +kernel) ⟨by decide, by decide⟩ (by decide) (Or.inl ⟨rfl, rfl⟩) (by decide +kernel) (sp_ok_24 hK _)
set_option maxRecDepth 20000 in
theorem sk_107 {K : sm_H} (hK : sc_KOk K) : sm_okM sc_Ts sc_sx sc_zx sc_oc K sc_cl sc_Y 107 (2, 0, sb_107) :=
  sm_okM_of (pool := sp_24) (⟨"TwoWayGrammar$Parsing", "takeNumber", "()V"⟩, prog_5_method_6_code, none) (by rfl) (sm_memf 1200 rfl rfl) (by decide +kernel) ⟨by decide, by decide⟩ (by decide) (Or.inl ⟨rfl, rfl⟩) (by decide +kernel) (sp_ok_24 hK _)
set_option maxRecDepth 20000 in
theorem sk_108 {K : sm_H} (hK : sc_KOk K) : sm_okM sc_Ts sc_sx sc_zx sc_oc K sc_cl sc_Y 108 (3, 1, sb_108) :=
  sm_okM_of (pool := sp_17) (⟨"TwoWayGrammar$Text", "behindDigits", "(I)I"⟩, prog_9_method_10_code, (some (.int))) (by rfl) (sm_memf 1204 rfl rfl) (by decide +kernel) ⟨by decide, by decide⟩ (by decide) (Or.inr (Or.inl ⟨rfl, rfl⟩)) (by decide +kernel) (sp_ok_17 hK _)
set_option maxRecDepth 20000 in
theorem sk_109 {K : sm_H} (hK : sc_KOk K) : sm_okM sc_Ts sc_sx sc_zx sc_oc K sc_cl sc_Y 109 (1, 0, sb_109) :=
  sm_okM_of (pool := sp_24) (⟨"TwoWayGrammar$Parsing", "takeWord", "()V"⟩, prog_5_method_7_code, none) (by rfl) (sm_memf 1210 rfl rfl) (by decide +kernel) ⟨by decide, by decide⟩ (by decide) (Or.inl ⟨rfl, rfl⟩) (by decide +kernel) (sp_ok_24 hK _)
set_option maxRecDepth 20000 in
theorem sk_110 {K : sm_H} (hK : sc_KOk K) : sm_okM sc_Ts sc_sx sc_zx sc_oc K sc_cl sc_Y 110 (4, 1, sb_110) :=
  sm_okM_of (pool := sp_24) (⟨"TwoWayGrammar$Parsing", "literalOr", "(II)I"⟩, prog_5_method_8_code, (some (.int))) (by rfl) (sm_memf 1216 rfl rfl) (by decide +kernel) ⟨by decide, by decide⟩ (by decide) (Or.inr (Or.inl ⟨rfl, rfl⟩)) (by decide +kernel) (sp_ok_24 hK _)
set_option maxRecDepth 20000 in
theorem sk_111 {K : sm_H} (hK : sc_KOk K) : sm_okM sc_Ts sc_sx sc_zx sc_oc K sc_cl sc_Y 111 (1, 0, sb_111) :=
  sm_okM_of (pool := sp_24) (⟨"TwoWayGrammar$Parsing", "blame", "()V"⟩, prog_5_method_4_code, none) (by rfl) (sm_memf 1222 rfl rfl) (by decide +kernel) ⟨by decide, by decide⟩ (by decide) (Or.inl ⟨rfl, rfl⟩) (by decide +kernel) (sp_ok_24 hK _)
set_option maxRecDepth 20000 in
theorem sk_112 {K : sm_H} (hK : sc_KOk K) : sm_okM sc_Ts sc_sx sc_zx sc_oc K sc_cl sc_Y 112 (1, 0, sb_112) :=
  sm_okM_of (pool := sp_25) (⟨"TwoWayGrammar$Printing", "begin", "()V"⟩, prog_6_method_2_code, none) (by rfl) (sm_memf 1225 rfl rfl) (by decide +kernel) ⟨by decide, by decide⟩ (by decide) (Or.inl ⟨rfl, rfl⟩) (by decide +kernel) (sp_ok_25 hK _)
set_option maxRecDepth 20000 in
theorem sk_113 {K : sm_H} (hK : sc_KOk K) : sm_okM sc_Ts sc_sx sc_zx sc_oc K sc_cl sc_Y 113 (4, 0, sb_113) :=
  sm_okM_of (pool := sp_22) (⟨"TwoWayGrammar$Walk", "walkUse", "(II)V"⟩, prog_12_method_16_code, none) (by rfl) (sm_memf 1230 rfl rfl) (by decide +kernel) ⟨by decide, by decide⟩ (by decide) (Or.inl ⟨rfl, rfl⟩) (by decide +kernel) (sp_ok_22 hK _)
set_option maxRecDepth 20000 in
theorem sk_114 {K : sm_H} (hK : sc_KOk K) : sm_okM sc_Ts sc_sx sc_zx sc_oc K sc_cl sc_Y 114 (1, 0, sb_114) :=
  sm_okM_of (pool := sp_22) (⟨"TwoWayGrammar$Walk", "passLimit", "()V"⟩, prog_12_method_15_code, none) (by rfl) (sm_memf 1237 rfl rfl) (by decide +kernel) ⟨by decide, by decide⟩ (by decide) (Or.inl ⟨rfl, rfl⟩) (by decide +kernel) (sp_ok_22 hK _)
set_option maxRecDepth 20000 in
theorem sk_115 {K : sm_H} (hK : sc_KOk K) : sm_okM sc_Ts sc_sx sc_zx sc_oc K sc_cl sc_Y 115 (3, 1, sb_115) :=
  sm_okM_of (pool := sp_25) (⟨"TwoWayGrammar$Printing", "enter", "(II)I"⟩, prog_6_method_3_code, (some (.int))) (by rfl) (sm_memf 1245 rfl rfl) (by decide +kernel) ⟨by decide, by decide⟩ (by decide) (Or.inr (Or.inl ⟨rfl, rfl⟩)) (by decide +kernel) (sp_ok_25 hK _)
set_option maxRecDepth 20000 in
theorem sk_116 {K : sm_H} (hK : sc_KOk K) : sm_okM sc_Ts sc_sx sc_zx sc_oc K sc_cl sc_Y 116 (4, 1, sb_116) :=
  sm_okM_of (pool := sp_22) (⟨"TwoWayGrammar$Walk", "enter", "(II)I"⟩, prog_12_method_9_code, (some (.int))) (by rfl) (sm_memf 1246 rfl rfl) (by decide +kernel) ⟨by decide, by decide⟩ (by decide) (Or.inr (Or.inl ⟨rfl, rfl⟩)) (by decide +kernel) (sp_ok_22 hK _)
set_option maxRecDepth 20000 in
theorem sk_117 {K : sm_H} (hK : sc_KOk K) : sm_okM sc_Ts sc_sx sc_zx sc_oc K sc_cl sc_Y 117 (3, 1, sb_117) :=
  sm_okM_of (pool := sp_13) (⟨"TwoWayGrammar$Tree", "add", "(II)I"⟩, prog_11_method_3_code, (some (.int))) (by rfl) (sm_memf 1250 rfl rfl) (by decide +kernel) ⟨by decide, by decide⟩ (by decide) (Or.inr (Or.inl ⟨rfl, rfl⟩)) (by decide +kernel) (sp_ok_13 hK _)
set_option maxRecDepth 20000 in
theorem sk_118 {K : sm_H} (hK : sc_KOk K) : sm_okM sc_Ts sc_sx sc_zx sc_oc K sc_cl sc_Y 118 (1, 0, sb_118) :=
  sm_okM_of (pool := sp_23) (⟨"TwoWayGrammar$Growing", "useBegins", "()V"⟩, prog_4_method_5_code, none) (by rfl) (sm_memf 1256 rfl rfl) (by decide +kernel) ⟨by decide, by decide⟩ (by decide) (Or.inl ⟨rfl, rfl⟩) (by decide +kernel) (sp_ok_23 hK _)
set_option maxRecDepth 20000 in
theorem sk_119 {K : sm_H} (hK : sc_KOk K) : sm_okM sc_Ts sc_sx sc_zx sc_oc K sc_cl sc_Y 119 (1, 0, sb_119) :=
  sm_okM_of (pool := sp_22) (⟨"TwoWayGrammar$Walk", "useBegins", "()V"⟩, prog_12_method_8_code, none) (by rfl) (sm_memf 1259 rfl rfl) (by decide +kernel) ⟨by decide, by decide⟩ (by decide) (Or.inl ⟨rfl, rfl⟩) (by decide +kernel) (sp_ok_22 hK _)
set_option maxRecDepth 20000 in
theorem sk_120 {K : sm_H} (hK : sc_KOk K) : sm_okM sc_Ts sc_sx sc_zx sc_oc K sc_cl sc_Y 120 (11, 0, sb_120) :=
  sm_okM_of (pool := sp_22) (⟨"TwoWayGrammar$Walk", "walkForm", "(II)V"⟩, prog_12_method_17_code, none) (by rfl) (sm_memf 1263 rfl rfl) (by decide +kernel) ⟨by decide, by decide⟩ (by decide) (Or.inl ⟨rfl, rfl⟩) (by decide +kernel) (sp_ok_22 hK _)
set_option maxRecDepth 20000 in
theorem sk_121 {K : sm_H} (hK : sc_KOk K) : sm_okM sc_Ts sc_sx sc_zx sc_oc K sc_cl sc_Y 121 (2, 1, sb_121) :=
  sm_okM_of (pool := sp_23) (⟨"TwoWayGrammar$Growing", "chosen", "(I)I"⟩, prog_4_method_6_code, (some (.int))) (by rfl) (sm_memf 1270 rfl rfl) (by decide +kernel) ⟨by decide, by decide⟩ (by decide) (Or.inr (Or.inl ⟨rfl, rfl⟩)) (by decide +kernel) (sp_ok_23 hK _)
set_option maxRecDepth 20000 in
theorem sk_122 {K : sm_H} (hK : sc_KOk K) : sm_okM sc_Ts sc_sx sc_zx sc_oc K sc_cl sc_Y 122 (6, 1, sb_122) :=
  sm_okM_of (pool := sp_23) (⟨"TwoWayGrammar$Growing", "lowest", "(I)I"⟩, prog_4_method_8_code, (some (.int))) (by rfl) (sm_memf 1274 rfl rfl) (by decide +kernel) ⟨by decide, by decide⟩ (by decide) (Or.inr (Or.inl ⟨rfl, rfl⟩)) (by decide +kernel) (sp_ok_23 hK _)
set_option maxRecDepth 20000 in
theorem sk_123 {K : sm_H} (hK : sc_KOk K) : sm_okM sc_Ts sc_sx sc_zx sc_oc K sc_cl sc_Y 123 (2, 1, sb_123) :=
  sm_okM_of (pool := sp_23) (⟨"TwoWayGrammar$Growing", "draw", "(I)I"⟩, prog_4_method_4_code, (some (.int))) (by rfl) (sm_memf 1279 rfl rfl) (by decide +kernel) ⟨by decide, by decide⟩ (by decide) (Or.inr (Or.inl ⟨rfl, rfl⟩)) (by decide +kernel) (sp_ok_23 hK _)
set_option maxRecDepth 20000 in
theorem sk_124 {K : sm_H} (hK : sc_KOk K) : sm_okM sc_Ts sc_sx sc_zx sc_oc K sc_cl sc_Y 124 (4, 1, sb_124) :=
  sm_okM_of (pool := sp_24) (⟨"TwoWayGrammar$Parsing", "chosen", "(I)I"⟩, prog_5_method_10_code, (some (.int))) (by rfl) (sm_memf 1284 rfl rfl) (by decide +kernel) ⟨by decide, by decide⟩ (by decide) (Or.inr (Or.inl ⟨rfl, rfl⟩)) (by decide +kernel) (sp_ok_24 hK _)
set_option maxRecDepth 20000 in
theorem sk_125 {K : sm_H} (hK : sc_KOk K) : sm_okM sc_Ts sc_sx sc_zx sc_oc K sc_cl sc_Y 125 (3, 4, sb_125) :=
  sm_okM_of (pool := sp_24) (⟨"TwoWayGrammar$Parsing", "isNextIn", "(J)Z"⟩, prog_5_method_9_code, (some (.boolean))) (by rfl) (sm_memf 1290 rfl rfl) (by decide +kernel) ⟨by decide, by decide⟩ (by decide) (Or.inr (Or.inr (Or.inr (Or.inr (Or.inl ⟨rfl, rfl⟩))))) (by decide +kernel) (sp_ok_24 hK _)
set_option maxRecDepth 20000 in
theorem sk_126 {K : sm_H} (hK : sc_KOk K) : sm_okM sc_Ts sc_sx sc_zx sc_oc K sc_cl sc_Y 126 (2, 1, sb_126) :=
  sm_okM_of (pool := sp_25) (⟨"TwoWayGrammar$Printing", "chosen", "(I)I"⟩, prog_6_method_8_code, (some (.int))) (by rfl) (sm_memf 1293 rfl rfl) (by decide +kernel) ⟨by decide, by decide⟩ (by decide) (Or.inr (Or.inl ⟨rfl, rfl⟩)) (by decide +kernel) (sp_ok_25 hK _)
set_option maxRecDepth 20000 in
theorem sk_127 {K : sm_H} (hK : sc_KOk K) : sm_okM sc_Ts sc_sx sc_zx sc_oc K sc_cl sc_Y 127 (5, 1, sb_127) :=
  sm_okM_of (pool := sp_15) (⟨"TwoWayGrammar$Grammar", "alternativeOf", "(II)I"⟩, prog_3_method_12_code, (some (.int))) (by rfl) (sm_memf 1298 rfl rfl) (by decide +kernel) ⟨by decide, by decide⟩ (by decide) (Or.inr (Or.inl ⟨rfl, rfl⟩)) (by decide +kernel) (sp_ok_15 hK _)
set_option maxRecDepth 20000 in
theorem sk_128 {K : sm_H} (hK : sc_KOk K) : sm_okM sc_Ts sc_sx sc_zx sc_oc K sc_cl sc_Y 128 (3, 1, sb_128) :=
  sm_okM_of (pool := sp_25) (⟨"TwoWayGrammar$Printing", "pairBegins", "(I)I"⟩, prog_6_method_5_code, (some (.int))) (by rfl) (sm_memf 1306 rfl rfl) (by decide +kernel) ⟨by decide, by decide⟩ (by decide) (Or.inr (Or.inl ⟨rfl, rfl⟩)) (by decide +kernel) (sp_ok_25 hK _)
set_option maxRecDepth 20000 in
theorem sk_129 {K : sm_H} (hK : sc_KOk K) : sm_okM sc_Ts sc_sx sc_zx sc_oc K sc_cl sc_Y 129 (5, 1, sb_129) :=
  sm_okM_of (pool := sp_13) (⟨"TwoWayGrammar$Tree", "behind", "(II)I"⟩, prog_11_method_6_code, (some (.int))) (by rfl) (sm_memf 1310 rfl rfl) (by decide +kernel) ⟨by decide, by decide⟩ (by decide) (Or.inr (Or.inl ⟨rfl, rfl⟩)) (by decide +kernel) (sp_ok_13 hK _)
set_option maxRecDepth 20000 in
theorem sk_130 {K : sm_H} (hK : sc_KOk K) : sm_okM sc_Ts sc_sx sc_zx sc_oc K sc_cl sc_Y 130 (2, 1, sb_130) :=
  sm_okM_of (pool := sp_22) (⟨"TwoWayGrammar$Walk", "pairBegins", "(I)I"⟩, prog_12_method_11_code, (some (.int))) (by rfl) (sm_memf 1311 rfl rfl) (by decide +kernel) ⟨by decide, by decide⟩ (by decide) (Or.inr (Or.inl ⟨rfl, rfl⟩)) (by decide +kernel) (sp_ok_22 hK _)
set_option maxRecDepth 20000 in
theorem sk_131 {K : sm_H} (hK : sc_KOk K) : sm_okM sc_Ts sc_sx sc_zx sc_oc K sc_cl sc_Y 131 (7, 0, sb_131) :=
  sm_okM_of (pool := sp_22) (⟨"TwoWayGrammar$Walk", "walkUnit", "(II)V"⟩, prog_12_method_18_code, none) (by rfl) (sm_memf 1315 rfl rfl) (by decide +kernel) ⟨by decide, by decide⟩ (by decide) (Or.inl ⟨rfl, rfl⟩) (by decide +kernel) (sp_ok_22 hK _)
set_option maxRecDepth 20000 in
theorem sk_132 {K : sm_H} (hK : sc_KOk K) : sm_okM sc_Ts sc_sx sc_zx sc_oc K sc_cl sc_Y 132 (4, 0, sb_132) :=
  sm_okM_of (pool := sp_22) (⟨"TwoWayGrammar$Walk", "walkPart", "(II)V"⟩, prog_12_method_19_code, none) (by rfl) (sm_memf 1319 rfl rfl) (by decide +kernel) ⟨by decide, by decide⟩ (by decide) (Or.inl ⟨rfl, rfl⟩) (by decide +kernel) (sp_ok_22 hK _)
set_option maxRecDepth 20000 in
theorem sk_133 {K : sm_H} (hK : sc_KOk K) : sm_okM sc_Ts sc_sx sc_zx sc_oc K sc_cl sc_Y 133 (3, 0, sb_133) :=
  sm_okM_of (pool := sp_23) (⟨"TwoWayGrammar$Growing", "leaf", "(I)V"⟩, prog_4_method_9_code, none) (by rfl) (sm_memf 1325 rfl rfl) (by decide +kernel) ⟨by decide, by decide⟩ (by decide) (Or.inl ⟨rfl, rfl⟩) (by decide +kernel) (sp_ok_23 hK _)
set_option maxRecDepth 20000 in
theorem sk_134 {K : sm_H} (hK : sc_KOk K) : sm_okM sc_Ts sc_sx sc_zx sc_oc K sc_cl sc_Y 134 (4, 1, sb_134) :=
  sm_okM_of (pool := sp_23) (⟨"TwoWayGrammar$Growing", "drawName", "()I"⟩, prog_4_method_10_code, (some (.int))) (by rfl) (sm_memf 1333 rfl rfl) (by decide +kernel) ⟨by decide, by decide⟩ (by decide) (Or.inr (Or.inl ⟨rfl, rfl⟩)) (by decide +kernel) (sp_ok_23 hK _)
set_option maxRecDepth 20000 in
theorem sk_135 {K : sm_H} (hK : sc_KOk K) : sm_okM sc_Ts sc_sx sc_zx sc_oc K sc_cl sc_Y 135 (4, 0, sb_135) :=
  sm_okM_of (pool := sp_24) (⟨"TwoWayGrammar$Parsing", "leaf", "(I)V"⟩, prog_5_method_12_code, none) (by rfl) (sm_memf 1337 rfl rfl) (by decide +kernel) ⟨by decide, by decide⟩ (by decide) (Or.inl ⟨rfl, rfl⟩) (by decide +kernel) (sp_ok_24 hK _)
