set_option maxRecDepth 20000 in
theorem sk_136 {K : sm_H} (hK : sc_KOk K) : sm_okM sc_Ts sc_sx sc_zx sc_oc K sc_cl sc_Y 136 (3, 0, sb_136) :=
  sm_okM_of (pool := sp_25) (⟨"TwoWayGrammar$Printing", "leaf", "(I)V"⟩, prog_6_method_9_code, none) (by rfl) (sm_memf 1343 rfl rfl) (by decide +kernel) ⟨by decide, by decide⟩ (by decide) (Or.inl ⟨rfl, rfl⟩) (by decide +kernel) (sp_ok_25 hK _)
set_option maxRecDepth 20000 in
theorem sk_137 {K : sm_H} (hK : sc_KOk K) : sm_okM sc_Ts sc_sx sc_zx sc_oc K sc_cl sc_Y 137 (1, 1, sb_137) :=
  sm_okM_of (pool := sp_25) (⟨"TwoWayGrammar$Printing", "nextValue", "()I"⟩, prog_6_method_10_code, (some (.int))) (by rfl) (sm_memf 1347 rfl rfl) (by decide +kernel) ⟨by decide, by decide⟩ (by decide) (Or.inr (Or.inl ⟨rfl, rfl⟩)) (by decide +kernel) (sp_ok_25 hK _)
set_option maxRecDepth 20000 in
theorem sk_138 {K : sm_H} (hK : sc_KOk K) : sm_okM sc_Ts sc_sx sc_zx sc_oc K sc_cl sc_Y 138 (3, 0, sb_138) :=
  sm_okM_of (pool := sp_25) (⟨"TwoWayGrammar$Printing", "writeNumber", "(I)V"⟩, prog_6_method_12_code, none) (by rfl) (sm_memf 1351 rfl rfl) (by decide +kernel) ⟨by decide, by decide⟩ (by decide) (Or.inl ⟨rfl, rfl⟩) (by decide +kernel) (sp_ok_25 hK _)
set_option maxRecDepth 20000 in
theorem sk_139 {K : sm_H} (hK : sc_KOk K) : sm_okM sc_Ts sc_sx sc_zx sc_oc K sc_cl sc_Y 139 (3, 0, sb_139) :=
  sm_okM_of (pool := sp_25) (⟨"TwoWayGrammar$Printing", "separate", "(Z)V"⟩, prog_6_method_11_code, none) (by rfl) (sm_memf 1355 rfl rfl) (by decide +kernel) ⟨by decide, by decide⟩ (by decide) (Or.inl ⟨rfl, rfl⟩) (by decide +kernel) (sp_ok_25 hK _)
set_option maxRecDepth 20000 in
theorem sk_140 {K : sm_H} (hK : sc_KOk K) : sm_okM sc_Ts sc_sx sc_zx sc_oc K sc_cl sc_Y 140 (2, 0, sb_140) :=
  sm_okM_of (pool := sp_25) (⟨"TwoWayGrammar$Printing", "write", "(C)V"⟩, prog_6_method_14_code, none) (by rfl) (sm_memf 1360 rfl rfl) (by decide +kernel) ⟨by decide, by decide⟩ (by decide) (Or.inl ⟨rfl, rfl⟩) (by decide +kernel) (sp_ok_25 hK _)
set_option maxRecDepth 20000 in
theorem sk_141 {K : sm_H} (hK : sc_KOk K) : sm_okM sc_Ts sc_sx sc_zx sc_oc K sc_cl sc_Y 141 (4, 0, sb_141) :=
  sm_okM_of (pool := sp_25) (⟨"TwoWayGrammar$Printing", "writeCode", "(I)V"⟩, prog_6_method_13_code, none) (by rfl) (sm_memf 1365 rfl rfl) (by decide +kernel) ⟨by decide, by decide⟩ (by decide) (Or.inl ⟨rfl, rfl⟩) (by decide +kernel) (sp_ok_25 hK _)
set_option maxRecDepth 20000 in
theorem sk_142 {K : sm_H} (hK : sc_KOk K) : sm_okM sc_Ts sc_sx sc_zx sc_oc K sc_cl sc_Y 142 (2, 1, sb_142) :=
  sm_okM_of (pool := sp_23) (⟨"TwoWayGrammar$Growing", "timesAhead", "(I)I"⟩, prog_4_method_7_code, (some (.int))) (by rfl) (sm_memf 1372 rfl rfl) (by decide +kernel) ⟨by decide, by decide⟩ (by decide) (Or.inr (Or.inl ⟨rfl, rfl⟩)) (by decide +kernel) (sp_ok_23 hK _)
set_option maxRecDepth 20000 in
theorem sk_143 {K : sm_H} (hK : sc_KOk K) : sm_okM sc_Ts sc_sx sc_zx sc_oc K sc_cl sc_Y 143 (2, 1, sb_143) :=
  sm_okM_of (pool := sp_22) (⟨"TwoWayGrammar$Walk", "timesAhead", "(I)I"⟩, prog_12_method_6_code, (some (.int))) (by rfl) (sm_memf 1375 rfl rfl) (by decide +kernel) ⟨by decide, by decide⟩ (by decide) (Or.inr (Or.inl ⟨rfl, rfl⟩)) (by decide +kernel) (sp_ok_22 hK _)
set_option maxRecDepth 20000 in
theorem sk_144 {K : sm_H} (hK : sc_KOk K) : sm_okM sc_Ts sc_sx sc_zx sc_oc K sc_cl sc_Y 144 (5, 4, sb_144) :=
  sm_okM_of (pool := sp_24) (⟨"TwoWayGrammar$Parsing", "goesOn", "(III)Z"⟩, prog_5_method_11_code, (some (.boolean))) (by rfl) (sm_memf 1382 rfl rfl) (by decide +kernel) ⟨by decide, by decide⟩ (by decide) (Or.inr (Or.inr (Or.inr (Or.inr (Or.inl ⟨rfl, rfl⟩))))) (by decide +kernel) (sp_ok_24 hK _)
set_option maxRecDepth 20000 in
theorem sk_145 {K : sm_H} (hK : sc_KOk K) : sm_okM sc_Ts sc_sx sc_zx sc_oc K sc_cl sc_Y 145 (4, 4, sb_145) :=
  sm_okM_of (pool := sp_22) (⟨"TwoWayGrammar$Walk", "goesOn", "(III)Z"⟩, prog_12_method_7_code, (some (.boolean))) (by rfl) (sm_memf 1385 rfl rfl) (by decide +kernel) ⟨by decide, by decide⟩ (by decide) (Or.inr (Or.inr (Or.inr (Or.inr (Or.inl ⟨rfl, rfl⟩))))) (by decide +kernel) (sp_ok_22 hK _)
set_option maxRecDepth 20000 in
theorem sk_146 {K : sm_H} (hK : sc_KOk K) : sm_okM sc_Ts sc_sx sc_zx sc_oc K sc_cl sc_Y 146 (2, 0, sb_146) :=
  sm_okM_of (pool := sp_25) (⟨"TwoWayGrammar$Printing", "leave", "(I)V"⟩, prog_6_method_4_code, none) (by rfl) (sm_memf 1393 rfl rfl) (by decide +kernel) ⟨by decide, by decide⟩ (by decide) (Or.inl ⟨rfl, rfl⟩) (by decide +kernel) (sp_ok_25 hK _)
set_option maxRecDepth 20000 in
theorem sk_147 {K : sm_H} (hK : sc_KOk K) : sm_okM sc_Ts sc_sx sc_zx sc_oc K sc_cl sc_Y 147 (2, 0, sb_147) :=
  sm_okM_of (pool := sp_22) (⟨"TwoWayGrammar$Walk", "leave", "(I)V"⟩, prog_12_method_10_code, none) (by rfl) (sm_memf 1394 rfl rfl) (by decide +kernel) ⟨by decide, by decide⟩ (by decide) (Or.inl ⟨rfl, rfl⟩) (by decide +kernel) (sp_ok_22 hK _)
set_option maxRecDepth 20000 in
theorem sk_148 {K : sm_H} (hK : sc_KOk K) : sm_okM sc_Ts sc_sx sc_zx sc_oc K sc_cl sc_Y 148 (2, 0, sb_148) :=
  sm_okM_of (pool := sp_13) (⟨"TwoWayGrammar$Tree", "finish", "(I)V"⟩, prog_11_method_4_code, none) (by rfl) (sm_memf 1398 rfl rfl) (by decide +kernel) ⟨by decide, by decide⟩ (by decide) (Or.inl ⟨rfl, rfl⟩) (by decide +kernel) (sp_ok_13 hK _)
set_option maxRecDepth 20000 in
theorem sk_149 {K : sm_H} (hK : sc_KOk K) : sm_okM sc_Ts sc_sx sc_zx sc_oc K sc_cl sc_Y 149 (3, 1, sb_149) :=
  sm_okM_of (pool := sp_25) (⟨"TwoWayGrammar$Printing", "pairTurns", "(I)I"⟩, prog_6_method_6_code, (some (.int))) (by rfl) (sm_memf 1406 rfl rfl) (by decide +kernel) ⟨by decide, by decide⟩ (by decide) (Or.inr (Or.inl ⟨rfl, rfl⟩)) (by decide +kernel) (sp_ok_25 hK _)
set_option maxRecDepth 20000 in
theorem sk_150 {K : sm_H} (hK : sc_KOk K) : sm_okM sc_Ts sc_sx sc_zx sc_oc K sc_cl sc_Y 150 (2, 1, sb_150) :=
  sm_okM_of (pool := sp_22) (⟨"TwoWayGrammar$Walk", "pairTurns", "(I)I"⟩, prog_12_method_12_code, (some (.int))) (by rfl) (sm_memf 1407 rfl rfl) (by decide +kernel) ⟨by decide, by decide⟩ (by decide) (Or.inr (Or.inl ⟨rfl, rfl⟩)) (by decide +kernel) (sp_ok_22 hK _)
set_option maxRecDepth 20000 in
theorem sk_151 {K : sm_H} (hK : sc_KOk K) : sm_okM sc_Ts sc_sx sc_zx sc_oc K sc_cl sc_Y 151 (3, 0, sb_151) :=
  sm_okM_of (pool := sp_25) (⟨"TwoWayGrammar$Printing", "pairEnds", "(II)V"⟩, prog_6_method_7_code, none) (by rfl) (sm_memf 1415 rfl rfl) (by decide +kernel) ⟨by decide, by decide⟩ (by decide) (Or.inl ⟨rfl, rfl⟩) (by decide +kernel) (sp_ok_25 hK _)
set_option maxRecDepth 20000 in
theorem sk_152 {K : sm_H} (hK : sc_KOk K) : sm_okM sc_Ts sc_sx sc_zx sc_oc K sc_cl sc_Y 152 (3, 0, sb_152) :=
  sm_okM_of (pool := sp_22) (⟨"TwoWayGrammar$Walk", "pairEnds", "(II)V"⟩, prog_12_method_13_code, none) (by rfl) (sm_memf 1416 rfl rfl) (by decide +kernel) ⟨by decide, by decide⟩ (by decide) (Or.inl ⟨rfl, rfl⟩) (by decide +kernel) (sp_ok_22 hK _)
set_option maxRecDepth 20000 in
theorem sk_153 {K : sm_H} (hK : sc_KOk K) : sm_okM sc_Ts sc_sx sc_zx sc_oc K sc_cl sc_Y 153 (3, 0, sb_153) :=
  sm_okM_of (pool := sp_13) (⟨"TwoWayGrammar$Tree", "exchange", "(II)V"⟩, prog_11_method_7_code, none) (by rfl) (sm_memf 1420 rfl rfl) (by decide +kernel) ⟨by decide, by decide⟩ (by decide) (Or.inl ⟨rfl, rfl⟩) (by decide +kernel) (sp_ok_13 hK _)
set_option maxRecDepth 20000 in
theorem sk_154 {K : sm_H} (hK : sc_KOk K) : sm_okM sc_Ts sc_sx sc_zx sc_oc K sc_cl sc_Y 154 (5, 0, sb_154) :=
  sm_okM_of (pool := sp_13) (⟨"TwoWayGrammar$Tree", "turnRound", "(II)V"⟩, prog_11_method_8_code, none) (by rfl) (sm_memf 1424 rfl rfl) (by decide +kernel) ⟨by decide, by decide⟩ (by decide) (Or.inl ⟨rfl, rfl⟩) (by decide +kernel) (sp_ok_13 hK _)
set_option maxRecDepth 20000 in
theorem sk_155 {K : sm_H} (hK : sc_KOk K) : sm_okM sc_Ts sc_sx sc_zx sc_oc K sc_cl sc_Y 155 (4, 0, sb_155) :=
  sm_okM_of (pool := sp_13) (⟨"TwoWayGrammar$Tree", "exchangeIn", "([III)V"⟩, prog_11_method_9_code, none) (by rfl) (sm_memf 1427 rfl rfl) (by decide +kernel) ⟨by decide, by decide⟩ (by decide) (Or.inl ⟨rfl, rfl⟩) (by decide +kernel) (sp_ok_13 hK _)
set_option maxRecDepth 20000 in
theorem sk_156 {K : sm_H} (hK : sc_KOk K) : sm_okM sc_Ts sc_sx sc_zx sc_oc K sc_cl sc_Y 156 (1, 0, sb_156) :=
  sm_okM_of (pool := sp_24) (⟨"TwoWayGrammar$Parsing", "end", "()V"⟩, prog_5_method_3_code, none) (by rfl) (sm_memf 1434 rfl rfl) (by decide +kernel) ⟨by decide, by decide⟩ (by decide) (Or.inl ⟨rfl, rfl⟩) (by decide +kernel) (sp_ok_24 hK _)
set_option maxRecDepth 20000 in
theorem sk_157 {K : sm_H} (hK : sc_KOk K) : sm_okM sc_Ts sc_sx sc_zx sc_oc K sc_cl sc_Y 157 (1, 0, sb_157) :=
  sm_okM_of (pool := sp_22) (⟨"TwoWayGrammar$Walk", "end", "()V"⟩, prog_12_method_3_code, none) (by rfl) (sm_memf 1436 rfl rfl) (by decide +kernel) ⟨by decide, by decide⟩ (by decide) (Or.inl ⟨rfl, rfl⟩) (by decide +kernel) (sp_ok_22 hK _)
set_option maxRecDepth 20000 in
theorem sk_158 {K : sm_H} (hK : sc_KOk K) : sm_okM sc_Ts sc_sx sc_zx sc_oc K sc_cl sc_Y 158 (4, 1, sb_158) :=
  sm_okM_of (pool := sp_12) (⟨"TwoWayGrammar", "grow", "(JI)I"⟩, prog_1_method_8_code, (some (.int))) (by rfl) (sm_memf 1459 rfl rfl) (by decide +kernel) ⟨by decide, by decide⟩ (by decide) (Or.inr (Or.inl ⟨rfl, rfl⟩)) (by decide +kernel) (sp_ok_12 hK _)
set_option maxRecDepth 20000 in
theorem sk_159 {K : sm_H} (hK : sc_KOk K) : sm_okM sc_Ts sc_sx sc_zx sc_oc K sc_cl sc_Y 159 (4, 0, sb_159) :=
  sm_okM_of (pool := sp_23) (⟨"TwoWayGrammar$Growing", "fill", "(JI)V"⟩, prog_4_method_2_code, none) (by rfl) (sm_memf 1464 rfl rfl) (by decide +kernel) ⟨by decide, by decide⟩ (by decide) (Or.inl ⟨rfl, rfl⟩) (by decide +kernel) (sp_ok_23 hK _)
set_option maxRecDepth 20000 in
theorem sk_160 {K : sm_H} (hK : sc_KOk K) : sm_okM sc_Ts sc_sx sc_zx sc_oc K sc_cl sc_Y 160 (3, 2, sb_160) :=
  sm_okM_of (pool := sp_12) (⟨"TwoWayGrammar", "node", "(II)J"⟩, prog_1_method_9_code, (some (.long))) (by rfl) (sm_memf 1475 rfl rfl) (by decide +kernel) ⟨by decide, by decide⟩ (by decide) (Or.inr (Or.inr (Or.inl ⟨rfl, rfl⟩))) (by decide +kernel) (sp_ok_12 hK _)
set_option maxRecDepth 20000 in
theorem sk_161 {K : sm_H} (hK : sc_KOk K) : sm_okM sc_Ts sc_sx sc_zx sc_oc K sc_cl sc_Y 161 (3, 1, sb_161) :=
  sm_okM_of (pool := sp_13) (⟨"TwoWayGrammar$Tree", "parent", "(I)I"⟩, prog_11_method_5_code, (some (.int))) (by rfl) (sm_memf 1495 rfl rfl) (by decide +kernel) ⟨by decide, by decide⟩ (by decide) (Or.inr (Or.inl ⟨rfl, rfl⟩)) (by decide +kernel) (sp_ok_13 hK _)
set_option maxRecDepth 20000 in
theorem sk_162 {K : sm_H} (hK : sc_KOk K) : sm_okM sc_Ts sc_sx sc_zx sc_oc K sc_cl sc_Y 162 (6, 4, sb_162) :=
  sm_okM_of (pool := sp_12) (⟨"TwoWayGrammar", "set", "(IJ)Z"⟩, prog_1_method_10_code, (some (.boolean))) (by rfl) (sm_memf 1503 rfl rfl) (by decide +kernel) ⟨by decide, by decide⟩ (by decide) (Or.inr (Or.inr (Or.inr (Or.inr (Or.inl ⟨rfl, rfl⟩))))) (by decide +kernel) (sp_ok_12 hK _)
set_option maxRecDepth 20000 in
theorem sk_163 {K : sm_H} (hK : sc_KOk K) : sm_okM sc_Ts sc_sx sc_zx sc_oc K sc_cl sc_Y 163 (7, 4, sb_163) :=
  sm_okM_of (pool := sp_12) (⟨"TwoWayGrammar", "isName", "(J)Z"⟩, prog_1_method_26_code, (some (.boolean))) (by rfl) (sm_memf 1507 rfl rfl) (by decide +kernel) ⟨by decide, by decide⟩ (by decide) (Or.inr (Or.inr (Or.inr (Or.inr (Or.inl ⟨rfl, rfl⟩))))) (by decide +kernel) (sp_ok_12 hK _)
set_option maxRecDepth 20000 in
theorem sk_164 {K : sm_H} (hK : sc_KOk K) : sm_okM sc_Ts sc_sx sc_zx sc_oc K sc_cl sc_Y 164 (1, 1, sb_164) :=
  sm_okM_of (pool := sp_12) (⟨"TwoWayGrammar", "print", "()I"⟩, prog_1_method_11_code, (some (.int))) (by rfl) (sm_memf 1519 rfl rfl) (by decide +kernel) ⟨by decide, by decide⟩ (by decide) (Or.inr (Or.inl ⟨rfl, rfl⟩)) (by decide +kernel) (sp_ok_12 hK _)
set_option maxRecDepth 20000 in
theorem sk_165 {K : sm_H} (hK : sc_KOk K) : sm_okM sc_Ts sc_sx sc_zx sc_oc K sc_cl sc_Y 165 (2, 5, sb_165) :=
  sm_okM_of (pool := sp_12) (⟨"TwoWayGrammar", "output", "(I)C"⟩, prog_1_method_12_code, (some (.char))) (by rfl) (sm_memf 1531 rfl rfl) (by decide +kernel) ⟨by decide, by decide⟩ (by decide) (Or.inr (Or.inr (Or.inr (Or.inr (Or.inr (Or.inl ⟨rfl, rfl⟩)))))) (by decide +kernel) (sp_ok_12 hK _)
set_option maxRecDepth 20000 in
theorem sk_166 {K : sm_H} (hK : sc_KOk K) : sm_okM sc_Ts sc_sx sc_zx sc_oc K sc_cl sc_Y 166 (1, 1, sb_166) :=
  sm_okM_of (pool := sp_12) (⟨"TwoWayGrammar", "compare", "()I"⟩, prog_1_method_15_code, (some (.int))) (by rfl) (sm_memf 1540 rfl rfl) (by decide +kernel) ⟨by decide, by decide⟩ (by decide) (Or.inr (Or.inl ⟨rfl, rfl⟩)) (by decide +kernel) (sp_ok_12 hK _)
set_option maxRecDepth 20000 in
theorem sk_167 {K : sm_H} (hK : sc_KOk K) : sm_okM sc_Ts sc_sx sc_zx sc_oc K sc_cl sc_Y 167 (4, 1, sb_167) :=
  sm_okM_of (pool := sp_13) (⟨"TwoWayGrammar$Tree", "against", "(LTwoWayGrammar$Tree;)I"⟩, prog_11_method_11_code, (some (.int))) (by rfl) (sm_memf 1545 rfl rfl) (by decide +kernel) ⟨by decide, by decide⟩ (by decide) (Or.inr (Or.inl ⟨rfl, rfl⟩)) (by decide +kernel) (sp_ok_13 hK _)
set_option maxRecDepth 20000 in
theorem sk_168 {K : sm_H} (hK : sc_KOk K) : sm_okM sc_Ts sc_sx sc_zx sc_oc K sc_cl sc_Y 168 (2, 1, sb_168) :=
  sm_okM_of (pool := []) (⟨"java/lang/Integer", "compare", "(II)I"⟩, prog_20_method_40_code, (some (.int))) (by rfl) (sm_memf 1548 rfl rfl) (by decide +kernel) ⟨by decide, by decide⟩ (by decide) (Or.inr (Or.inl ⟨rfl, rfl⟩)) (by decide +kernel) ((fun _ h => absurd h List.not_mem_nil))
set_option maxRecDepth 20000 in
theorem sk_169 {K : sm_H} (hK : sc_KOk K) : sm_okM sc_Ts sc_sx sc_zx sc_oc K sc_cl sc_Y 169 (1, 0, sb_169) :=
  sm_okM_of (pool := sp_26) (⟨"TwoWayGrammarModel", "<init>", "()V"⟩, prog_14_method_1_code, none) (by rfl) (sm_memf 1553 rfl rfl) (by decide +kernel) ⟨by decide, by decide⟩ (by decide) (Or.inl ⟨rfl, rfl⟩) (by decide +kernel) (sp_ok_26 hK)
set_option maxRecDepth 20000 in
theorem sk_170 {K : sm_H} (hK : sc_KOk K) : sm_okM sc_Ts sc_sx sc_zx sc_oc K sc_cl sc_Y 170 (1, 1, sb_170) :=
  sm_okM_of (pool := sp_17) (⟨"TwoWayGrammar$Text", "length", "()I"⟩, prog_9_method_2_code, (some (.int))) (by rfl) (sm_memf 640 rfl rfl) (by decide +kernel) ⟨by decide, by decide⟩ (by decide) (Or.inr (Or.inl ⟨rfl, rfl⟩)) (by decide +kernel) (sp_ok_17 hK _)
set_option maxRecDepth 20000 in
theorem sk_171 {K : sm_H} (hK : sc_KOk K) : sm_okM sc_Ts sc_sx sc_zx sc_oc K sc_cl sc_Y 171 (3, 4, sb_171) :=
  sm_okM_of (pool := sp_27) (⟨"TwoWayGrammarModel", "type", "(IC)Z"⟩, prog_14_method_3_code, (some (.boolean))) (by rfl) (sm_memf 1848 rfl rfl) (by decide +kernel) ⟨by decide, by decide⟩ (by decide) (Or.inr (Or.inr (Or.inr (Or.inr (Or.inl ⟨rfl, rfl⟩))))) (by decide +kernel) (sp_ok_27 hK _)
set_option maxRecDepth 20000 in
theorem sk_172 {K : sm_H} (hK : sc_KOk K) : sm_okM sc_Ts sc_sx sc_zx sc_oc K sc_cl sc_Y 172 (3, 1, sb_172) :=
  sm_okM_of (pool := sp_27) (⟨"TwoWayGrammarModel", "clear", "(I)I"⟩, prog_14_method_4_code, (some (.int))) (by rfl) (sm_memf 1852 rfl rfl) (by decide +kernel) ⟨by decide, by decide⟩ (by decide) (Or.inr (Or.inl ⟨rfl, rfl⟩)) (by decide +kernel) (sp_ok_27 hK _)
set_option maxRecDepth 20000 in
theorem sk_173 {K : sm_H} (hK : sc_KOk K) : sm_okM sc_Ts sc_sx sc_zx sc_oc K sc_cl sc_Y 173 (2, 1, sb_173) :=
  sm_okM_of (pool := sp_27) (⟨"TwoWayGrammarModel", "sample", "(I)I"⟩, prog_14_method_6_code, (some (.int))) (by rfl) (sm_memf 1856 rfl rfl) (by decide +kernel) ⟨by decide, by decide⟩ (by decide) (Or.inr (Or.inl ⟨rfl, rfl⟩)) (by decide +kernel) (sp_ok_27 hK _)
set_option maxRecDepth 20000 in
theorem sk_174 {K : sm_H} (hK : sc_KOk K) : sm_okM sc_Ts sc_sx sc_zx sc_oc K sc_cl sc_Y 174 (5, 0, sb_174) :=
  sm_okM_of (pool := sp_27) (⟨"TwoWayGrammarModel", "say", "(J)V"⟩, prog_14_method_5_code, none) (by rfl) (sm_memf 1861 rfl rfl) (by decide +kernel) ⟨by decide, by decide⟩ (by decide) (Or.inl ⟨rfl, rfl⟩) (by decide +kernel) (sp_ok_27 hK _)
set_option maxRecDepth 20000 in
theorem sk_175 {K : sm_H} (hK : sc_KOk K) : sm_okM sc_Ts sc_sx sc_zx sc_oc K sc_cl sc_Y 175 (2, 1, sb_175) :=
  sm_okM_of (pool := sp_27) (⟨"TwoWayGrammarModel", "compile", "()I"⟩, prog_14_method_35_code, (some (.int))) (by rfl) (sm_memf 1905 rfl rfl) (by decide +kernel) ⟨by decide, by decide⟩ (by decide) (Or.inr (Or.inl ⟨rfl, rfl⟩)) (by decide +kernel) (sp_ok_27 hK _)
